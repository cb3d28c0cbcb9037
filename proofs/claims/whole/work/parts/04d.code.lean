section Xd
variable {d : Nat} {L st : List Value} {μ : mM} {Q : Option Value → mM → Prop} {t : mL} {V : Nat → Nat → Value} {A : Nat → Nat → Int32} {P : Nat → Nat → Option Nat} {N S : Nat} {K : Nat → Nat × Nat}
variable {a0 a1 a2 a3 a4 a5 a6 a7 a8 a9 a10 a11 a12 b0 b1 b2 b3 s0 s1 s2 s3 : Value} {x y i0 i1 i2 i3 i4 : Int32} {w z : Int64} {r q r0 r1 r2 : Nat}
theorem c_78 : Call (d + 1) 78 [.ref r0] μ Q = Ev d 78 0 [.ref r0] [] μ Q := call_ev rfl rfl
theorem x_78_0 : Ev d 78 0 (.ref r :: L) st μ Q = Ev d 78 1 (.ref r :: L) (.ref r :: st) μ Q := e_aload_n (by decide +kernel : decode (bOf 78) 0 = .ok (.aload_n 0, 1)) rfl
theorem x_78_1 : Ev d 78 1 L [.ref r] μ Q = Ev d 78 4 L [] μ Q := e_obj (by decide +kernel : decode (bOf 78) 1 = .ok (.invokespecial 1, 3)) (by decide +kernel) (by decide +kernel) (by simp)
theorem x_78_4 : Ev d 78 4 (.ref r :: L) st μ Q = Ev d 78 5 (.ref r :: L) (.ref r :: st) μ Q := e_aload_n (by decide +kernel : decode (bOf 78) 4 = .ok (.aload_n 0, 1)) rfl
theorem x_78_5 : Ev d 78 5 L st μ Q = Ev d 78 8 L (.int (iI 228) :: st) μ Q := e_sipush (by decide +kernel : decode (bOf 78) 5 = .ok (.sipush 228, 3)) (by decide +kernel)
theorem x_78_8 : Ev d 78 8 L (.int (iI 228) :: st) ((N, S, K), V, A, P) Q = Ev d 78 10 L (.ref N :: st) ((N + 1, S + 228, up1 K N (6, 228)), V, up1 A N (fun _ => 0), P) Q := e_newi 228 (by decide +kernel : decode (bOf 78) 8 = .ok (.newarray .int, 2)) (by decide +kernel) (by decide +kernel)
theorem x_78_10 (h : kd t r = 5) : Ev d 78 10 L (.ref q :: .ref r :: st) (t, V, A, P) Q = Ev d 78 13 L st (t, up1 V r (up1 (V r) 1 (.ref q)), A, P) Q := e_putf (by decide +kernel : decode (bOf 78) 10 = .ok (.putfield 7, 3)) (by decide +kernel) (by decide +kernel) rfl h
theorem x_78_13 : Ev d 78 13 (.ref r :: L) st μ Q = Ev d 78 14 (.ref r :: L) (.ref r :: st) μ Q := e_aload_n (by decide +kernel : decode (bOf 78) 13 = .ok (.aload_n 0, 1)) rfl
theorem x_78_14 : Ev d 78 14 L st μ Q = Ev d 78 17 L (.int (iI 1368) :: st) μ Q := e_sipush (by decide +kernel : decode (bOf 78) 14 = .ok (.sipush 1368, 3)) (by decide +kernel)
theorem x_78_17 : Ev d 78 17 L (.int (iI 1368) :: st) ((N, S, K), V, A, P) Q = Ev d 78 19 L (.ref N :: st) ((N + 1, S + 1368, up1 K N (6, 1368)), V, up1 A N (fun _ => 0), P) Q := e_newi 1368 (by decide +kernel : decode (bOf 78) 17 = .ok (.newarray .int, 2)) (by decide +kernel) (by decide +kernel)
theorem x_78_19 (h : kd t r = 5) : Ev d 78 19 L (.ref q :: .ref r :: st) (t, V, A, P) Q = Ev d 78 22 L st (t, up1 V r (up1 (V r) 2 (.ref q)), A, P) Q := e_putf (by decide +kernel : decode (bOf 78) 19 = .ok (.putfield 13, 3)) (by decide +kernel) (by decide +kernel) rfl h
theorem x_78_22 : Ev d 78 22 (.ref r :: L) st μ Q = Ev d 78 23 (.ref r :: L) (.ref r :: st) μ Q := e_aload_n (by decide +kernel : decode (bOf 78) 22 = .ok (.aload_n 0, 1)) rfl
theorem x_78_23 : Ev d 78 23 L st μ Q = Ev d 78 26 L (.int (iI 456) :: st) μ Q := e_sipush (by decide +kernel : decode (bOf 78) 23 = .ok (.sipush 456, 3)) (by decide +kernel)
theorem x_78_26 : Ev d 78 26 L (.int (iI 456) :: st) ((N, S, K), V, A, P) Q = Ev d 78 28 L (.ref N :: st) ((N + 1, S + 456, up1 K N (6, 456)), V, up1 A N (fun _ => 0), P) Q := e_newi 456 (by decide +kernel : decode (bOf 78) 26 = .ok (.newarray .int, 2)) (by decide +kernel) (by decide +kernel)
theorem x_78_28 (h : kd t r = 5) : Ev d 78 28 L (.ref q :: .ref r :: st) (t, V, A, P) Q = Ev d 78 31 L st (t, up1 V r (up1 (V r) 4 (.ref q)), A, P) Q := e_putf (by decide +kernel : decode (bOf 78) 28 = .ok (.putfield 16, 3)) (by decide +kernel) (by decide +kernel) rfl h
theorem x_78_31 : Ev d 78 31 (.ref r :: L) st μ Q = Ev d 78 32 (.ref r :: L) (.ref r :: st) μ Q := e_aload_n (by decide +kernel : decode (bOf 78) 31 = .ok (.aload_n 0, 1)) rfl
theorem x_78_32 : Ev d 78 32 L st μ Q = Ev d 78 33 L (.int (iI 2) :: st) μ Q := e_iconst (by decide +kernel : decode (bOf 78) 32 = .ok (.iconst 2, 1))
theorem x_78_33 : Ev d 78 33 L (.int (iI 2) :: st) ((N, S, K), V, A, P) Q = Ev d 78 35 L (.ref N :: st) ((N + 1, S + 2, up1 K N (7, 2)), V, up1 A N (fun _ => 0), P) Q := e_newz 2 (by decide +kernel : decode (bOf 78) 33 = .ok (.newarray .boolean, 2)) (by decide +kernel) (by decide +kernel)
theorem x_78_35 (h : kd t r = 5) : Ev d 78 35 L (.ref q :: .ref r :: st) (t, V, A, P) Q = Ev d 78 38 L st (t, up1 V r (up1 (V r) 5 (.ref q)), A, P) Q := e_putf (by decide +kernel : decode (bOf 78) 35 = .ok (.putfield 19, 3)) (by decide +kernel) (by decide +kernel) rfl h
theorem x_78_38 : Ev d 78 38 (.ref r :: L) st μ Q = Ev d 78 39 (.ref r :: L) (.ref r :: st) μ Q := e_aload_n (by decide +kernel : decode (bOf 78) 38 = .ok (.aload_n 0, 1)) rfl
theorem x_78_39 : Ev d 78 39 L st μ Q = Ev d 78 41 L (.int (iI 120) :: st) μ Q := e_bipush (by decide +kernel : decode (bOf 78) 39 = .ok (.bipush 120, 2)) (by decide +kernel)
theorem x_78_41 : Ev d 78 41 L (.int (iI 120) :: st) ((N, S, K), V, A, P) Q = Ev d 78 43 L (.ref N :: st) ((N + 1, S + 120, up1 K N (6, 120)), V, up1 A N (fun _ => 0), P) Q := e_newi 120 (by decide +kernel : decode (bOf 78) 41 = .ok (.newarray .int, 2)) (by decide +kernel) (by decide +kernel)
theorem x_78_43 (h : kd t r = 5) : Ev d 78 43 L (.ref q :: .ref r :: st) (t, V, A, P) Q = Ev d 78 46 L st (t, up1 V r (up1 (V r) 6 (.ref q)), A, P) Q := e_putf (by decide +kernel : decode (bOf 78) 43 = .ok (.putfield 23, 3)) (by decide +kernel) (by decide +kernel) rfl h
theorem x_78_46 : Ev d 78 46 (.ref r :: L) st μ Q = Ev d 78 47 (.ref r :: L) (.ref r :: st) μ Q := e_aload_n (by decide +kernel : decode (bOf 78) 46 = .ok (.aload_n 0, 1)) rfl
theorem x_78_47 : Ev d 78 47 L st μ Q = Ev d 78 49 L (.int (iI 60) :: st) μ Q := e_bipush (by decide +kernel : decode (bOf 78) 47 = .ok (.bipush 60, 2)) (by decide +kernel)
theorem x_78_49 : Ev d 78 49 L (.int (iI 60) :: st) ((N, S, K), V, A, P) Q = Ev d 78 51 L (.ref N :: st) ((N + 1, S + 60, up1 K N (6, 60)), V, up1 A N (fun _ => 0), P) Q := e_newi 60 (by decide +kernel : decode (bOf 78) 49 = .ok (.newarray .int, 2)) (by decide +kernel) (by decide +kernel)
theorem x_78_51 (h : kd t r = 5) : Ev d 78 51 L (.ref q :: .ref r :: st) (t, V, A, P) Q = Ev d 78 54 L st (t, up1 V r (up1 (V r) 8 (.ref q)), A, P) Q := e_putf (by decide +kernel : decode (bOf 78) 51 = .ok (.putfield 26, 3)) (by decide +kernel) (by decide +kernel) rfl h
theorem x_78_54 : Ev d 78 54 (.ref r :: L) st μ Q = Ev d 78 55 (.ref r :: L) (.ref r :: st) μ Q := e_aload_n (by decide +kernel : decode (bOf 78) 54 = .ok (.aload_n 0, 1)) rfl
theorem x_78_55 : Ev d 78 55 L st μ Q = Ev d 78 57 L (.int (iI 64) :: st) μ Q := e_bipush (by decide +kernel : decode (bOf 78) 55 = .ok (.bipush 64, 2)) (by decide +kernel)
theorem x_78_57 : Ev d 78 57 L (.int (iI 64) :: st) ((N, S, K), V, A, P) Q = Ev d 78 59 L (.ref N :: st) ((N + 1, S + 64, up1 K N (6, 64)), V, up1 A N (fun _ => 0), P) Q := e_newi 64 (by decide +kernel : decode (bOf 78) 57 = .ok (.newarray .int, 2)) (by decide +kernel) (by decide +kernel)
theorem x_78_59 (h : kd t r = 5) : Ev d 78 59 L (.ref q :: .ref r :: st) (t, V, A, P) Q = Ev d 78 62 L st (t, up1 V r (up1 (V r) 10 (.ref q)), A, P) Q := e_putf (by decide +kernel : decode (bOf 78) 59 = .ok (.putfield 29, 3)) (by decide +kernel) (by decide +kernel) rfl h
theorem x_78_62 : Ev d 78 62 (.ref r :: L) st μ Q = Ev d 78 63 (.ref r :: L) (.ref r :: st) μ Q := e_aload_n (by decide +kernel : decode (bOf 78) 62 = .ok (.aload_n 0, 1)) rfl
theorem x_78_63 : Ev d 78 63 L st μ Q = Ev d 78 65 L (.int (iI 64) :: st) μ Q := e_bipush (by decide +kernel : decode (bOf 78) 63 = .ok (.bipush 64, 2)) (by decide +kernel)
theorem x_78_65 : Ev d 78 65 L (.int (iI 64) :: st) ((N, S, K), V, A, P) Q = Ev d 78 67 L (.ref N :: st) ((N + 1, S + 64, up1 K N (6, 64)), V, up1 A N (fun _ => 0), P) Q := e_newi 64 (by decide +kernel : decode (bOf 78) 65 = .ok (.newarray .int, 2)) (by decide +kernel) (by decide +kernel)
theorem x_78_67 (h : kd t r = 5) : Ev d 78 67 L (.ref q :: .ref r :: st) (t, V, A, P) Q = Ev d 78 70 L st (t, up1 V r (up1 (V r) 11 (.ref q)), A, P) Q := e_putf (by decide +kernel : decode (bOf 78) 67 = .ok (.putfield 32, 3)) (by decide +kernel) (by decide +kernel) rfl h
theorem x_78_70 : Ev d 78 70 (.ref r :: L) st μ Q = Ev d 78 71 (.ref r :: L) (.ref r :: st) μ Q := e_aload_n (by decide +kernel : decode (bOf 78) 70 = .ok (.aload_n 0, 1)) rfl
theorem x_78_71 : Ev d 78 71 L st μ Q = Ev d 78 73 L (.int (iI 32) :: st) μ Q := e_bipush (by decide +kernel : decode (bOf 78) 71 = .ok (.bipush 32, 2)) (by decide +kernel)
theorem x_78_73 : Ev d 78 73 L (.int (iI 32) :: st) ((N, S, K), V, A, P) Q = Ev d 78 75 L (.ref N :: st) ((N + 1, S + 32, up1 K N (6, 32)), V, up1 A N (fun _ => 0), P) Q := e_newi 32 (by decide +kernel : decode (bOf 78) 73 = .ok (.newarray .int, 2)) (by decide +kernel) (by decide +kernel)
theorem x_78_75 (h : kd t r = 5) : Ev d 78 75 L (.ref q :: .ref r :: st) (t, V, A, P) Q = Ev d 78 78 L st (t, up1 V r (up1 (V r) 19 (.ref q)), A, P) Q := e_putf (by decide +kernel : decode (bOf 78) 75 = .ok (.putfield 35, 3)) (by decide +kernel) (by decide +kernel) rfl h
theorem x_78_78 : Ev d 78 78 (.ref r :: L) st μ Q = Ev d 78 79 (.ref r :: L) (.ref r :: st) μ Q := e_aload_n (by decide +kernel : decode (bOf 78) 78 = .ok (.aload_n 0, 1)) rfl
theorem x_78_79 : Ev d 78 79 L st μ Q = Ev d 78 81 L (.int (iI 32) :: st) μ Q := e_bipush (by decide +kernel : decode (bOf 78) 79 = .ok (.bipush 32, 2)) (by decide +kernel)
theorem x_78_81 : Ev d 78 81 L (.int (iI 32) :: st) ((N, S, K), V, A, P) Q = Ev d 78 83 L (.ref N :: st) ((N + 1, S + 32, up1 K N (6, 32)), V, up1 A N (fun _ => 0), P) Q := e_newi 32 (by decide +kernel : decode (bOf 78) 81 = .ok (.newarray .int, 2)) (by decide +kernel) (by decide +kernel)
theorem x_78_83 (h : kd t r = 5) : Ev d 78 83 L (.ref q :: .ref r :: st) (t, V, A, P) Q = Ev d 78 86 L st (t, up1 V r (up1 (V r) 20 (.ref q)), A, P) Q := e_putf (by decide +kernel : decode (bOf 78) 83 = .ok (.putfield 38, 3)) (by decide +kernel) (by decide +kernel) rfl h
theorem x_78_86 : Ev d 78 86 (.ref r :: L) st μ Q = Ev d 78 87 (.ref r :: L) (.ref r :: st) μ Q := e_aload_n (by decide +kernel : decode (bOf 78) 86 = .ok (.aload_n 0, 1)) rfl
theorem x_78_87 : Ev d 78 87 L st μ Q = Ev d 78 89 L (.int (iI 32) :: st) μ Q := e_bipush (by decide +kernel : decode (bOf 78) 87 = .ok (.bipush 32, 2)) (by decide +kernel)
theorem x_78_89 : Ev d 78 89 L (.int (iI 32) :: st) ((N, S, K), V, A, P) Q = Ev d 78 91 L (.ref N :: st) ((N + 1, S + 32, up1 K N (6, 32)), V, up1 A N (fun _ => 0), P) Q := e_newi 32 (by decide +kernel : decode (bOf 78) 89 = .ok (.newarray .int, 2)) (by decide +kernel) (by decide +kernel)
theorem x_78_91 (h : kd t r = 5) : Ev d 78 91 L (.ref q :: .ref r :: st) (t, V, A, P) Q = Ev d 78 94 L st (t, up1 V r (up1 (V r) 21 (.ref q)), A, P) Q := e_putf (by decide +kernel : decode (bOf 78) 91 = .ok (.putfield 41, 3)) (by decide +kernel) (by decide +kernel) rfl h
theorem x_78_94 : Ev d 78 94 (.ref r :: L) st μ Q = Ev d 78 95 (.ref r :: L) (.ref r :: st) μ Q := e_aload_n (by decide +kernel : decode (bOf 78) 94 = .ok (.aload_n 0, 1)) rfl
theorem x_78_95 : Ev d 78 95 L st μ Q = Ev d 78 97 L (.int (iI 32) :: st) μ Q := e_bipush (by decide +kernel : decode (bOf 78) 95 = .ok (.bipush 32, 2)) (by decide +kernel)
theorem x_78_97 : Ev d 78 97 L (.int (iI 32) :: st) ((N, S, K), V, A, P) Q = Ev d 78 99 L (.ref N :: st) ((N + 1, S + 32, up1 K N (6, 32)), V, up1 A N (fun _ => 0), P) Q := e_newi 32 (by decide +kernel : decode (bOf 78) 97 = .ok (.newarray .int, 2)) (by decide +kernel) (by decide +kernel)
theorem x_78_99 (h : kd t r = 5) : Ev d 78 99 L (.ref q :: .ref r :: st) (t, V, A, P) Q = Ev d 78 102 L st (t, up1 V r (up1 (V r) 22 (.ref q)), A, P) Q := e_putf (by decide +kernel : decode (bOf 78) 99 = .ok (.putfield 44, 3)) (by decide +kernel) (by decide +kernel) rfl h
theorem x_78_102 : Ev d 78 102 (.ref r :: L) st μ Q = Ev d 78 103 (.ref r :: L) (.ref r :: st) μ Q := e_aload_n (by decide +kernel : decode (bOf 78) 102 = .ok (.aload_n 0, 1)) rfl
theorem x_78_103 : Ev d 78 103 L st μ Q = Ev d 78 106 L (.int (iI 192) :: st) μ Q := e_sipush (by decide +kernel : decode (bOf 78) 103 = .ok (.sipush 192, 3)) (by decide +kernel)
theorem x_78_106 : Ev d 78 106 L (.int (iI 192) :: st) ((N, S, K), V, A, P) Q = Ev d 78 108 L (.ref N :: st) ((N + 1, S + 192, up1 K N (6, 192)), V, up1 A N (fun _ => 0), P) Q := e_newi 192 (by decide +kernel : decode (bOf 78) 106 = .ok (.newarray .int, 2)) (by decide +kernel) (by decide +kernel)
theorem x_78_108 (h : kd t r = 5) : Ev d 78 108 L (.ref q :: .ref r :: st) (t, V, A, P) Q = Ev d 78 111 L st (t, up1 V r (up1 (V r) 25 (.ref q)), A, P) Q := e_putf (by decide +kernel : decode (bOf 78) 108 = .ok (.putfield 47, 3)) (by decide +kernel) (by decide +kernel) rfl h
theorem x_78_111 : Ev d 78 111 (.ref r :: L) st μ Q = Ev d 78 112 (.ref r :: L) (.ref r :: st) μ Q := e_aload_n (by decide +kernel : decode (bOf 78) 111 = .ok (.aload_n 0, 1)) rfl
theorem x_78_112 : Ev d 78 112 L st μ Q = Ev d 78 114 L (.int (iI 6) :: st) μ Q := e_bipush (by decide +kernel : decode (bOf 78) 112 = .ok (.bipush 6, 2)) (by decide +kernel)
theorem x_78_114 : Ev d 78 114 L (.int (iI 6) :: st) ((N, S, K), V, A, P) Q = Ev d 78 116 L (.ref N :: st) ((N + 1, S + 6, up1 K N (6, 6)), V, up1 A N (fun _ => 0), P) Q := e_newi 6 (by decide +kernel : decode (bOf 78) 114 = .ok (.newarray .int, 2)) (by decide +kernel) (by decide +kernel)
theorem x_78_116 (h : kd t r = 5) : Ev d 78 116 L (.ref q :: .ref r :: st) (t, V, A, P) Q = Ev d 78 119 L st (t, up1 V r (up1 (V r) 30 (.ref q)), A, P) Q := e_putf (by decide +kernel : decode (bOf 78) 116 = .ok (.putfield 50, 3)) (by decide +kernel) (by decide +kernel) rfl h
theorem x_78_119 : Ev d 78 119 (.ref r :: L) st μ Q = Ev d 78 120 (.ref r :: L) (.ref r :: st) μ Q := e_aload_n (by decide +kernel : decode (bOf 78) 119 = .ok (.aload_n 0, 1)) rfl
theorem x_78_120 : Ev d 78 120 L st μ Q = Ev d 78 122 L (.int (iI 6) :: st) μ Q := e_bipush (by decide +kernel : decode (bOf 78) 120 = .ok (.bipush 6, 2)) (by decide +kernel)
theorem x_78_122 : Ev d 78 122 L (.int (iI 6) :: st) ((N, S, K), V, A, P) Q = Ev d 78 124 L (.ref N :: st) ((N + 1, S + 6, up1 K N (6, 6)), V, up1 A N (fun _ => 0), P) Q := e_newi 6 (by decide +kernel : decode (bOf 78) 122 = .ok (.newarray .int, 2)) (by decide +kernel) (by decide +kernel)
theorem x_78_124 (h : kd t r = 5) : Ev d 78 124 L (.ref q :: .ref r :: st) (t, V, A, P) Q = Ev d 78 127 L st (t, up1 V r (up1 (V r) 31 (.ref q)), A, P) Q := e_putf (by decide +kernel : decode (bOf 78) 124 = .ok (.putfield 53, 3)) (by decide +kernel) (by decide +kernel) rfl h
theorem x_78_127 : Ev d 78 127 (.ref r :: L) st μ Q = Ev d 78 128 (.ref r :: L) (.ref r :: st) μ Q := e_aload_n (by decide +kernel : decode (bOf 78) 127 = .ok (.aload_n 0, 1)) rfl
theorem x_78_128 (h : kd t r = 5) : Ev d 78 128 L [.ref r] (t, V, A, P) Q = Call d 79 [.ref r] (t, V, A, P) (fun v μ1 => Ev d 78 131 L (v.toList ++ []) μ1 Q) := e_callV (a := []) (r := []) (by decide +kernel : decode (bOf 78) 128 = .ok (.invokevirtual 56, 3)) (by decide +kernel) (by decide +kernel) (by decide +kernel) (by omega) rfl (by simp) (by decide +kernel) h
theorem x_78_131 : Ev d 78 131 L [] μ Q = Q none μ := e_ret (by decide +kernel : decode (bOf 78) 131 = .ok (.return_, 1)) (by decide +kernel)
theorem c_79 : Call (d + 1) 79 [.ref r0] μ Q = Ev d 79 0 [.ref r0, .null] [] μ Q := call_ev rfl rfl
theorem x_79_0 : Ev d 79 0 L st μ Q = Ev d 79 1 L (.int (iI 0) :: st) μ Q := e_iconst (by decide +kernel : decode (bOf 79) 0 = .ok (.iconst 0, 1))
theorem x_79_1 (h : a0.category = 1) : Ev d 79 1 (a0 :: a1 :: L) (.int x :: st) μ Q = Ev d 79 2 (a0 :: .int x :: L) st μ Q := e_istore_n (by decide +kernel : decode (bOf 79) 1 = .ok (.istore_n 1, 1)) (by show stOK _ 1 = true; simp [stOK, h])
theorem x_79_2 : Ev d 79 2 (a0 :: .int x :: L) st μ Q = Ev d 79 3 (a0 :: .int x :: L) (.int x :: st) μ Q := e_iload_n (by decide +kernel : decode (bOf 79) 2 = .ok (.iload_n 1, 1)) rfl
theorem x_79_3 : Ev d 79 3 L st μ Q = Ev d 79 6 L (.int (iI 228) :: st) μ Q := e_sipush (by decide +kernel : decode (bOf 79) 3 = .ok (.sipush 228, 3)) (by decide +kernel)
theorem x_79_6 : Ev d 79 6 L (.int y :: .int x :: st) μ Q = if x < y then Ev d 79 9 L st μ Q else Ev d 79 22 L st μ Q := e_icmp_ge (by decide +kernel : decode (bOf 79) 6 = .ok (.if_icmp .ge 16, 3)) (by omega)
theorem x_79_9 : Ev d 79 9 (.ref r :: L) st μ Q = Ev d 79 10 (.ref r :: L) (.ref r :: st) μ Q := e_aload_n (by decide +kernel : decode (bOf 79) 9 = .ok (.aload_n 0, 1)) rfl
theorem x_79_10 (h : kd t r = 5) : Ev d 79 10 L (.ref r :: st) (t, V, A, P) Q = Ev d 79 13 L (V r 1 :: st) (t, V, A, P) Q := e_getf (by decide +kernel : decode (bOf 79) 10 = .ok (.getfield 7, 3)) (by decide +kernel) (by decide +kernel) h
theorem x_79_13 : Ev d 79 13 (a0 :: .int x :: L) st μ Q = Ev d 79 14 (a0 :: .int x :: L) (.int x :: st) μ Q := e_iload_n (by decide +kernel : decode (bOf 79) 13 = .ok (.iload_n 1, 1)) rfl
theorem x_79_14 : Ev d 79 14 L st μ Q = Ev d 79 15 L (.int (iI 0) :: st) μ Q := e_iconst (by decide +kernel : decode (bOf 79) 14 = .ok (.iconst 0, 1))
theorem x_79_15 (h : kd t r = 6) (hi : inB x (ln t r) = true) : Ev d 79 15 L (.int y :: .int x :: .ref r :: st) (t, V, A, P) Q = Ev d 79 16 L st (t, V, up1 A r (upd (A r) x.toNatClampNeg y), P) Q := e_iast (by decide +kernel : decode (bOf 79) 15 = .ok (.iastore, 1)) h hi
theorem x_79_16 (h : a0.category = 1) : Ev d 79 16 (a0 :: .int x :: L) st μ Q = Ev d 79 19 (a0 :: .int (x + (iI 1)) :: L) st μ Q := e_iinc (by decide +kernel : decode (bOf 79) 16 = .ok (.iinc 1 1, 3)) rfl (by simp [stOK, h])
theorem x_79_19 : Ev d 79 19 L st μ Q = Ev d 79 2 L st μ Q := e_goto (by decide +kernel : decode (bOf 79) 19 = .ok (.goto (-17), 3)) (by omega)
theorem x_79_22 : Ev d 79 22 (.ref r :: L) st μ Q = Ev d 79 23 (.ref r :: L) (.ref r :: st) μ Q := e_aload_n (by decide +kernel : decode (bOf 79) 22 = .ok (.aload_n 0, 1)) rfl
theorem x_79_23 (h : kd t r = 5) : Ev d 79 23 L (.ref r :: st) (t, V, A, P) Q = Ev d 79 26 L (V r 1 :: st) (t, V, A, P) Q := e_getf (by decide +kernel : decode (bOf 79) 23 = .ok (.getfield 7, 3)) (by decide +kernel) (by decide +kernel) h
theorem x_79_26 : Ev d 79 26 L st μ Q = Ev d 79 27 L (.int (iI 1) :: st) μ Q := e_iconst (by decide +kernel : decode (bOf 79) 26 = .ok (.iconst 1, 1))
theorem x_79_27 : Ev d 79 27 L st μ Q = Ev d 79 28 L (.int (iI (-1)) :: st) μ Q := e_iconst (by decide +kernel : decode (bOf 79) 27 = .ok (.iconst (-1), 1))
theorem x_79_28 (h : kd t r = 6) (hi : inB x (ln t r) = true) : Ev d 79 28 L (.int y :: .int x :: .ref r :: st) (t, V, A, P) Q = Ev d 79 29 L st (t, V, up1 A r (upd (A r) x.toNatClampNeg y), P) Q := e_iast (by decide +kernel : decode (bOf 79) 28 = .ok (.iastore, 1)) h hi
theorem x_79_29 : Ev d 79 29 (.ref r :: L) st μ Q = Ev d 79 30 (.ref r :: L) (.ref r :: st) μ Q := e_aload_n (by decide +kernel : decode (bOf 79) 29 = .ok (.aload_n 0, 1)) rfl
theorem x_79_30 (h : kd t r = 5) : Ev d 79 30 L (.ref r :: st) (t, V, A, P) Q = Ev d 79 33 L (V r 1 :: st) (t, V, A, P) Q := e_getf (by decide +kernel : decode (bOf 79) 30 = .ok (.getfield 7, 3)) (by decide +kernel) (by decide +kernel) h
theorem x_79_33 : Ev d 79 33 L st μ Q = Ev d 79 34 L (.int (iI 2) :: st) μ Q := e_iconst (by decide +kernel : decode (bOf 79) 33 = .ok (.iconst 2, 1))
theorem x_79_34 : Ev d 79 34 L st μ Q = Ev d 79 36 L (.int (iI (-9)) :: st) μ Q := e_bipush (by decide +kernel : decode (bOf 79) 34 = .ok (.bipush (-9), 2)) (by decide +kernel)
theorem x_79_36 (h : kd t r = 6) (hi : inB x (ln t r) = true) : Ev d 79 36 L (.int y :: .int x :: .ref r :: st) (t, V, A, P) Q = Ev d 79 37 L st (t, V, up1 A r (upd (A r) x.toNatClampNeg y), P) Q := e_iast (by decide +kernel : decode (bOf 79) 36 = .ok (.iastore, 1)) h hi
theorem x_79_37 : Ev d 79 37 (.ref r :: L) st μ Q = Ev d 79 38 (.ref r :: L) (.ref r :: st) μ Q := e_aload_n (by decide +kernel : decode (bOf 79) 37 = .ok (.aload_n 0, 1)) rfl
theorem x_79_38 (h : kd t r = 5) : Ev d 79 38 L (.ref r :: st) (t, V, A, P) Q = Ev d 79 41 L (V r 1 :: st) (t, V, A, P) Q := e_getf (by decide +kernel : decode (bOf 79) 38 = .ok (.getfield 7, 3)) (by decide +kernel) (by decide +kernel) h
theorem x_79_41 : Ev d 79 41 L st μ Q = Ev d 79 42 L (.int (iI 3) :: st) μ Q := e_iconst (by decide +kernel : decode (bOf 79) 41 = .ok (.iconst 3, 1))
theorem x_79_42 : Ev d 79 42 L st μ Q = Ev d 79 44 L (.int (iI (-9)) :: st) μ Q := e_bipush (by decide +kernel : decode (bOf 79) 42 = .ok (.bipush (-9), 2)) (by decide +kernel)
theorem x_79_44 (h : kd t r = 6) (hi : inB x (ln t r) = true) : Ev d 79 44 L (.int y :: .int x :: .ref r :: st) (t, V, A, P) Q = Ev d 79 45 L st (t, V, up1 A r (upd (A r) x.toNatClampNeg y), P) Q := e_iast (by decide +kernel : decode (bOf 79) 44 = .ok (.iastore, 1)) h hi
theorem x_79_45 : Ev d 79 45 L [] μ Q = Q none μ := e_ret (by decide +kernel : decode (bOf 79) 45 = .ok (.return_, 1)) (by decide +kernel)
theorem c_80 : Call (d + 1) 80 [.int i0, .int i1, .int i2] μ Q = Ev d 80 0 [.int i0, .int i1, .int i2] [] μ Q := call_ev rfl rfl
theorem x_80_0 : Ev d 80 0 (.int x :: L) st μ Q = Ev d 80 1 (.int x :: L) (.int x :: st) μ Q := e_iload_n (by decide +kernel : decode (bOf 80) 0 = .ok (.iload_n 0, 1)) rfl
theorem x_80_1 : Ev d 80 1 (a0 :: .int x :: L) st μ Q = Ev d 80 2 (a0 :: .int x :: L) (.int x :: st) μ Q := e_iload_n (by decide +kernel : decode (bOf 80) 1 = .ok (.iload_n 1, 1)) rfl
theorem x_80_2 : Ev d 80 2 L (.int y :: .int x :: st) μ Q = if x < y then Ev d 80 14 L st μ Q else Ev d 80 5 L st μ Q := e_icmp_lt (by decide +kernel : decode (bOf 80) 2 = .ok (.if_icmp .lt 12, 3)) (by omega)
theorem x_80_5 : Ev d 80 5 (.int x :: L) st μ Q = Ev d 80 6 (.int x :: L) (.int x :: st) μ Q := e_iload_n (by decide +kernel : decode (bOf 80) 5 = .ok (.iload_n 0, 1)) rfl
theorem x_80_6 : Ev d 80 6 (a0 :: a1 :: .int x :: L) st μ Q = Ev d 80 7 (a0 :: a1 :: .int x :: L) (.int x :: st) μ Q := e_iload_n (by decide +kernel : decode (bOf 80) 6 = .ok (.iload_n 2, 1)) rfl
theorem x_80_7 : Ev d 80 7 L (.int y :: .int x :: st) μ Q = if y < x then Ev d 80 14 L st μ Q else Ev d 80 10 L st μ Q := e_icmp_gt (by decide +kernel : decode (bOf 80) 7 = .ok (.if_icmp .gt 7, 3)) (by omega)
theorem x_80_10 : Ev d 80 10 L st μ Q = Ev d 80 11 L (.int (iI 1) :: st) μ Q := e_iconst (by decide +kernel : decode (bOf 80) 10 = .ok (.iconst 1, 1))
theorem x_80_11 : Ev d 80 11 L st μ Q = Ev d 80 15 L st μ Q := e_goto (by decide +kernel : decode (bOf 80) 11 = .ok (.goto 4, 3)) (by omega)
theorem x_80_14 : Ev d 80 14 L st μ Q = Ev d 80 15 L (.int (iI 0) :: st) μ Q := e_iconst (by decide +kernel : decode (bOf 80) 14 = .ok (.iconst 0, 1))
theorem x_80_15 (hx : isB x) : Ev d 80 15 L [.int x] μ Q = Q (some (.int x)) μ := e_zret (by decide +kernel : decode (bOf 80) 15 = .ok (.ireturn, 1)) (by decide +kernel) hx
theorem c_81 : Call (d + 1) 81 [.int i0] μ Q = Ev d 81 0 [.int i0, .null, .null] [] μ Q := call_ev rfl rfl
theorem x_81_0 : Ev d 81 0 L st μ Q = Ev d 81 1 L (.int (iI 0) :: st) μ Q := e_iconst (by decide +kernel : decode (bOf 81) 0 = .ok (.iconst 0, 1))
theorem x_81_1 (h : a0.category = 1) : Ev d 81 1 (a0 :: a1 :: L) (.int x :: st) μ Q = Ev d 81 2 (a0 :: .int x :: L) st μ Q := e_istore_n (by decide +kernel : decode (bOf 81) 1 = .ok (.istore_n 1, 1)) (by show stOK _ 1 = true; simp [stOK, h])
theorem x_81_2 : Ev d 81 2 L st μ Q = Ev d 81 3 L (.int (iI 0) :: st) μ Q := e_iconst (by decide +kernel : decode (bOf 81) 2 = .ok (.iconst 0, 1))
theorem x_81_3 (h : a1.category = 1) : Ev d 81 3 (a0 :: a1 :: a2 :: L) (.int x :: st) μ Q = Ev d 81 4 (a0 :: a1 :: .int x :: L) st μ Q := e_istore_n (by decide +kernel : decode (bOf 81) 3 = .ok (.istore_n 2, 1)) (by show stOK _ 2 = true; simp [stOK, h])
theorem x_81_4 : Ev d 81 4 (a0 :: a1 :: .int x :: L) st μ Q = Ev d 81 5 (a0 :: a1 :: .int x :: L) (.int x :: st) μ Q := e_iload_n (by decide +kernel : decode (bOf 81) 4 = .ok (.iload_n 2, 1)) rfl
theorem x_81_5 : Ev d 81 5 L st μ Q = Ev d 81 7 L (.int (iI 6) :: st) μ Q := e_bipush (by decide +kernel : decode (bOf 81) 5 = .ok (.bipush 6, 2)) (by decide +kernel)
theorem x_81_7 : Ev d 81 7 L (.int y :: .int x :: st) μ Q = if x < y then Ev d 81 10 L st μ Q else Ev d 81 24 L st μ Q := e_icmp_ge (by decide +kernel : decode (bOf 81) 7 = .ok (.if_icmp .ge 17, 3)) (by omega)
theorem x_81_10 : Ev d 81 10 (a0 :: .int x :: L) st μ Q = Ev d 81 11 (a0 :: .int x :: L) (.int x :: st) μ Q := e_iload_n (by decide +kernel : decode (bOf 81) 10 = .ok (.iload_n 1, 1)) rfl
theorem x_81_11 : Ev d 81 11 (.int x :: L) st μ Q = Ev d 81 12 (.int x :: L) (.int x :: st) μ Q := e_iload_n (by decide +kernel : decode (bOf 81) 11 = .ok (.iload_n 0, 1)) rfl
theorem x_81_12 : Ev d 81 12 (a0 :: a1 :: .int x :: L) st μ Q = Ev d 81 13 (a0 :: a1 :: .int x :: L) (.int x :: st) μ Q := e_iload_n (by decide +kernel : decode (bOf 81) 12 = .ok (.iload_n 2, 1)) rfl
theorem x_81_13 : Ev d 81 13 L (.int y :: .int x :: st) μ Q = Ev d 81 14 L (.int (x >>> (y &&& 31)) :: st) μ Q := e_ishr (by decide +kernel : decode (bOf 81) 13 = .ok (.ishr, 1))
theorem x_81_14 : Ev d 81 14 L st μ Q = Ev d 81 15 L (.int (iI 1) :: st) μ Q := e_iconst (by decide +kernel : decode (bOf 81) 14 = .ok (.iconst 1, 1))
theorem x_81_15 : Ev d 81 15 L (.int y :: .int x :: st) μ Q = Ev d 81 16 L (.int (x &&& y) :: st) μ Q := e_iand (by decide +kernel : decode (bOf 81) 15 = .ok (.iand, 1))
theorem x_81_16 : Ev d 81 16 L (.int y :: .int x :: st) μ Q = Ev d 81 17 L (.int (x + y) :: st) μ Q := e_iadd (by decide +kernel : decode (bOf 81) 16 = .ok (.iadd, 1))
theorem x_81_17 (h : a0.category = 1) : Ev d 81 17 (a0 :: a1 :: L) (.int x :: st) μ Q = Ev d 81 18 (a0 :: .int x :: L) st μ Q := e_istore_n (by decide +kernel : decode (bOf 81) 17 = .ok (.istore_n 1, 1)) (by show stOK _ 1 = true; simp [stOK, h])
theorem x_81_18 (h : a1.category = 1) : Ev d 81 18 (a0 :: a1 :: .int x :: L) st μ Q = Ev d 81 21 (a0 :: a1 :: .int (x + (iI 1)) :: L) st μ Q := e_iinc (by decide +kernel : decode (bOf 81) 18 = .ok (.iinc 2 1, 3)) rfl (by simp [stOK, h])
theorem x_81_21 : Ev d 81 21 L st μ Q = Ev d 81 4 L st μ Q := e_goto (by decide +kernel : decode (bOf 81) 21 = .ok (.goto (-17), 3)) (by omega)
theorem x_81_24 : Ev d 81 24 (a0 :: .int x :: L) st μ Q = Ev d 81 25 (a0 :: .int x :: L) (.int x :: st) μ Q := e_iload_n (by decide +kernel : decode (bOf 81) 24 = .ok (.iload_n 1, 1)) rfl
theorem x_81_25 : Ev d 81 25 L [.int x] μ Q = Q (some (.int x)) μ := e_iret (by decide +kernel : decode (bOf 81) 25 = .ok (.ireturn, 1)) (by decide +kernel)
theorem c_82 : Call (d + 1) 82 [.int i0] μ Q = Ev d 82 0 [.int i0] [] μ Q := call_ev rfl rfl
theorem x_82_0 : Ev d 82 0 (.int x :: L) st μ Q = Ev d 82 1 (.int x :: L) (.int x :: st) μ Q := e_iload_n (by decide +kernel : decode (bOf 82) 0 = .ok (.iload_n 0, 1)) rfl
theorem x_82_1 : Ev d 82 1 L st μ Q = Ev d 82 3 L (.int (iI 15) :: st) μ Q := e_bipush (by decide +kernel : decode (bOf 82) 1 = .ok (.bipush 15, 2)) (by decide +kernel)
theorem x_82_3 : Ev d 82 3 L (.int y :: .int x :: st) μ Q = if x = y then Ev d 82 18 L st μ Q else Ev d 82 6 L st μ Q := e_icmp_eq (by decide +kernel : decode (bOf 82) 3 = .ok (.if_icmp .eq 15, 3)) (by omega)
theorem x_82_6 : Ev d 82 6 (.int x :: L) st μ Q = Ev d 82 7 (.int x :: L) (.int x :: st) μ Q := e_iload_n (by decide +kernel : decode (bOf 82) 6 = .ok (.iload_n 0, 1)) rfl
theorem x_82_7 : Ev d 82 7 L st μ Q = Ev d 82 9 L (.int (iI 30) :: st) μ Q := e_bipush (by decide +kernel : decode (bOf 82) 7 = .ok (.bipush 30, 2)) (by decide +kernel)
theorem x_82_9 : Ev d 82 9 L (.int y :: .int x :: st) μ Q = if x = y then Ev d 82 18 L st μ Q else Ev d 82 12 L st μ Q := e_icmp_eq (by decide +kernel : decode (bOf 82) 9 = .ok (.if_icmp .eq 9, 3)) (by omega)
theorem x_82_12 : Ev d 82 12 (.int x :: L) st μ Q = Ev d 82 13 (.int x :: L) (.int x :: st) μ Q := e_iload_n (by decide +kernel : decode (bOf 82) 12 = .ok (.iload_n 0, 1)) rfl
theorem x_82_13 : Ev d 82 13 L st μ Q = Ev d 82 15 L (.int (iI 60) :: st) μ Q := e_bipush (by decide +kernel : decode (bOf 82) 13 = .ok (.bipush 60, 2)) (by decide +kernel)
theorem x_82_15 : Ev d 82 15 L (.int y :: .int x :: st) μ Q = if x = y then Ev d 82 18 L st μ Q else Ev d 82 22 L st μ Q := e_icmp_ne (by decide +kernel : decode (bOf 82) 15 = .ok (.if_icmp .ne 7, 3)) (by omega)
theorem x_82_18 : Ev d 82 18 L st μ Q = Ev d 82 19 L (.int (iI 1) :: st) μ Q := e_iconst (by decide +kernel : decode (bOf 82) 18 = .ok (.iconst 1, 1))
theorem x_82_19 : Ev d 82 19 L st μ Q = Ev d 82 23 L st μ Q := e_goto (by decide +kernel : decode (bOf 82) 19 = .ok (.goto 4, 3)) (by omega)
theorem x_82_22 : Ev d 82 22 L st μ Q = Ev d 82 23 L (.int (iI 0) :: st) μ Q := e_iconst (by decide +kernel : decode (bOf 82) 22 = .ok (.iconst 0, 1))
theorem x_82_23 (hx : isB x) : Ev d 82 23 L [.int x] μ Q = Q (some (.int x)) μ := e_zret (by decide +kernel : decode (bOf 82) 23 = .ok (.ireturn, 1)) (by decide +kernel) hx
theorem c_83 : Call (d + 1) 83 [.int i0, .int i1] μ Q = Ev d 83 0 [.int i0, .int i1, .null, .null, .null] [] μ Q := call_ev rfl rfl
theorem x_83_0 : Ev d 83 0 (.int x :: L) st μ Q = Ev d 83 1 (.int x :: L) (.int x :: st) μ Q := e_iload_n (by decide +kernel : decode (bOf 83) 0 = .ok (.iload_n 0, 1)) rfl
theorem x_83_1 (h : a1.category = 1) : Ev d 83 1 (a0 :: a1 :: a2 :: L) (.int x :: st) μ Q = Ev d 83 2 (a0 :: a1 :: .int x :: L) st μ Q := e_istore_n (by decide +kernel : decode (bOf 83) 1 = .ok (.istore_n 2, 1)) (by show stOK _ 2 = true; simp [stOK, h])
theorem x_83_2 : Ev d 83 2 L st μ Q = Ev d 83 3 L (.int (iI 0) :: st) μ Q := e_iconst (by decide +kernel : decode (bOf 83) 2 = .ok (.iconst 0, 1))
theorem x_83_3 (h : a2.category = 1) : Ev d 83 3 (a0 :: a1 :: a2 :: a3 :: L) (.int x :: st) μ Q = Ev d 83 4 (a0 :: a1 :: a2 :: .int x :: L) st μ Q := e_istore_n (by decide +kernel : decode (bOf 83) 3 = .ok (.istore_n 3, 1)) (by show stOK _ 3 = true; simp [stOK, h])
theorem x_83_4 : Ev d 83 4 L st μ Q = Ev d 83 5 L (.int (iI 0) :: st) μ Q := e_iconst (by decide +kernel : decode (bOf 83) 4 = .ok (.iconst 0, 1))
theorem x_83_5 (h : a3.category = 1) : Ev d 83 5 (a0 :: a1 :: a2 :: a3 :: a4 :: L) (.int x :: st) μ Q = Ev d 83 7 (a0 :: a1 :: a2 :: a3 :: .int x :: L) st μ Q := e_istore (by decide +kernel : decode (bOf 83) 5 = .ok (.istore 4, 2)) (by show stOK _ 4 = true; simp [stOK, h])
theorem x_83_7 : Ev d 83 7 (a0 :: a1 :: a2 :: a3 :: .int x :: L) st μ Q = Ev d 83 9 (a0 :: a1 :: a2 :: a3 :: .int x :: L) (.int x :: st) μ Q := e_iload (by decide +kernel : decode (bOf 83) 7 = .ok (.iload 4, 2)) rfl
theorem x_83_9 : Ev d 83 9 L (.int x :: st) μ Q = if x = iI 0 then Ev d 83 16 L st μ Q else Ev d 83 12 L st μ Q := e_if_eq (by decide +kernel : decode (bOf 83) 9 = .ok (.ifCond .eq 7, 3)) (by omega)
theorem x_83_12 : Ev d 83 12 (a0 :: a1 :: .int x :: L) st μ Q = Ev d 83 13 (a0 :: a1 :: .int x :: L) (.int x :: st) μ Q := e_iload_n (by decide +kernel : decode (bOf 83) 12 = .ok (.iload_n 2, 1)) rfl
theorem x_83_13 : Ev d 83 13 L (.int x :: st) μ Q = if iI 0 < x then Ev d 83 16 L st μ Q else Ev d 83 100 L st μ Q := e_if_le (by decide +kernel : decode (bOf 83) 13 = .ok (.ifCond .le 87, 3)) (by omega)
theorem x_83_16 : Ev d 83 16 (a0 :: a1 :: a2 :: .int x :: L) st μ Q = Ev d 83 17 (a0 :: a1 :: a2 :: .int x :: L) (.int x :: st) μ Q := e_iload_n (by decide +kernel : decode (bOf 83) 16 = .ok (.iload_n 3, 1)) rfl
theorem x_83_17 : Ev d 83 17 (a0 :: a1 :: a2 :: a3 :: .int x :: L) st μ Q = Ev d 83 19 (a0 :: a1 :: a2 :: a3 :: .int x :: L) (.int x :: st) μ Q := e_iload (by decide +kernel : decode (bOf 83) 17 = .ok (.iload 4, 2)) rfl
theorem x_83_19 : Ev d 83 19 L (.int x :: st) μ Q = if x = iI 0 then Ev d 83 26 L st μ Q else Ev d 83 22 L st μ Q := e_if_eq (by decide +kernel : decode (bOf 83) 19 = .ok (.ifCond .eq 7, 3)) (by omega)
theorem x_83_22 : Ev d 83 22 L st μ Q = Ev d 83 23 L (.int (iI 1) :: st) μ Q := e_iconst (by decide +kernel : decode (bOf 83) 22 = .ok (.iconst 1, 1))
theorem x_83_23 : Ev d 83 23 L st μ Q = Ev d 83 27 L st μ Q := e_goto (by decide +kernel : decode (bOf 83) 23 = .ok (.goto 4, 3)) (by omega)
theorem x_83_26 : Ev d 83 26 L st μ Q = Ev d 83 27 L (.int (iI 0) :: st) μ Q := e_iconst (by decide +kernel : decode (bOf 83) 26 = .ok (.iconst 0, 1))
theorem x_83_27 : Ev d 83 27 L (.int y :: .int x :: st) μ Q = Ev d 83 28 L (.int (x + y) :: st) μ Q := e_iadd (by decide +kernel : decode (bOf 83) 27 = .ok (.iadd, 1))
theorem x_83_28 (h : a2.category = 1) : Ev d 83 28 (a0 :: a1 :: a2 :: a3 :: L) (.int x :: st) μ Q = Ev d 83 29 (a0 :: a1 :: a2 :: .int x :: L) st μ Q := e_istore_n (by decide +kernel : decode (bOf 83) 28 = .ok (.istore_n 3, 1)) (by show stOK _ 3 = true; simp [stOK, h])
theorem x_83_29 : Ev d 83 29 (a0 :: a1 :: .int x :: L) st μ Q = Ev d 83 30 (a0 :: a1 :: .int x :: L) (.int x :: st) μ Q := e_iload_n (by decide +kernel : decode (bOf 83) 29 = .ok (.iload_n 2, 1)) rfl
theorem x_83_30 : Ev d 83 30 (a0 :: a1 :: a2 :: a3 :: .int x :: L) st μ Q = Ev d 83 32 (a0 :: a1 :: a2 :: a3 :: .int x :: L) (.int x :: st) μ Q := e_iload (by decide +kernel : decode (bOf 83) 30 = .ok (.iload 4, 2)) rfl
theorem x_83_32 : Ev d 83 32 L (.int x :: st) μ Q = if x = iI 0 then Ev d 83 39 L st μ Q else Ev d 83 35 L st μ Q := e_if_eq (by decide +kernel : decode (bOf 83) 32 = .ok (.ifCond .eq 7, 3)) (by omega)
theorem x_83_35 : Ev d 83 35 L st μ Q = Ev d 83 36 L (.int (iI 1) :: st) μ Q := e_iconst (by decide +kernel : decode (bOf 83) 35 = .ok (.iconst 1, 1))
theorem x_83_36 : Ev d 83 36 L st μ Q = Ev d 83 40 L st μ Q := e_goto (by decide +kernel : decode (bOf 83) 36 = .ok (.goto 4, 3)) (by omega)
theorem x_83_39 : Ev d 83 39 L st μ Q = Ev d 83 40 L (.int (iI 0) :: st) μ Q := e_iconst (by decide +kernel : decode (bOf 83) 39 = .ok (.iconst 0, 1))
theorem x_83_40 : Ev d 83 40 L (.int y :: .int x :: st) μ Q = Ev d 83 41 L (.int (x - y) :: st) μ Q := e_isub (by decide +kernel : decode (bOf 83) 40 = .ok (.isub, 1))
theorem x_83_41 (h : a1.category = 1) : Ev d 83 41 (a0 :: a1 :: a2 :: L) (.int x :: st) μ Q = Ev d 83 42 (a0 :: a1 :: .int x :: L) st μ Q := e_istore_n (by decide +kernel : decode (bOf 83) 41 = .ok (.istore_n 2, 1)) (by show stOK _ 2 = true; simp [stOK, h])
theorem x_83_42 : Ev d 83 42 L st μ Q = Ev d 83 43 L (.int (iI 0) :: st) μ Q := e_iconst (by decide +kernel : decode (bOf 83) 42 = .ok (.iconst 0, 1))
theorem x_83_43 (h : a3.category = 1) : Ev d 83 43 (a0 :: a1 :: a2 :: a3 :: a4 :: L) (.int x :: st) μ Q = Ev d 83 45 (a0 :: a1 :: a2 :: a3 :: .int x :: L) st μ Q := e_istore (by decide +kernel : decode (bOf 83) 43 = .ok (.istore 4, 2)) (by show stOK _ 4 = true; simp [stOK, h])
theorem x_83_45 : Ev d 83 45 (a0 :: a1 :: a2 :: a3 :: .int x :: L) st μ Q = Ev d 83 47 (a0 :: a1 :: a2 :: a3 :: .int x :: L) (.int x :: st) μ Q := e_iload (by decide +kernel : decode (bOf 83) 45 = .ok (.iload 4, 2)) rfl
theorem x_83_47 : Ev d 83 47 L (.int x :: st) μ Q = if x = iI 0 then Ev d 83 50 L st μ Q else Ev d 83 7 L st μ Q := e_if_ne (by decide +kernel : decode (bOf 83) 47 = .ok (.ifCond .ne (-40), 3)) (by omega)
theorem x_83_50 : Ev d 83 50 (a0 :: a1 :: a2 :: .int x :: L) st μ Q = Ev d 83 51 (a0 :: a1 :: a2 :: .int x :: L) (.int x :: st) μ Q := e_iload_n (by decide +kernel : decode (bOf 83) 50 = .ok (.iload_n 3, 1)) rfl
theorem x_83_51 : Ev d 83 51 L [b0] μ Q = Call d 81 [b0] μ (fun v μ1 => Ev d 83 54 L (v.toList ++ []) μ1 Q) := e_callS (a := [b0]) (r := []) (by decide +kernel : decode (bOf 83) 51 = .ok (.invokestatic 63, 3)) (by decide +kernel) (by decide +kernel) (by omega) rfl (by simp)
theorem x_83_54 : Ev d 83 54 (a0 :: .int x :: L) st μ Q = Ev d 83 55 (a0 :: .int x :: L) (.int x :: st) μ Q := e_iload_n (by decide +kernel : decode (bOf 83) 54 = .ok (.iload_n 1, 1)) rfl
theorem x_83_55 : Ev d 83 55 L (.int y :: .int x :: st) μ Q = if x = y then Ev d 83 58 L st μ Q else Ev d 83 81 L st μ Q := e_icmp_ne (by decide +kernel : decode (bOf 83) 55 = .ok (.if_icmp .ne 26, 3)) (by omega)
theorem x_83_58 : Ev d 83 58 (a0 :: a1 :: a2 :: .int x :: L) st μ Q = Ev d 83 59 (a0 :: a1 :: a2 :: .int x :: L) (.int x :: st) μ Q := e_iload_n (by decide +kernel : decode (bOf 83) 58 = .ok (.iload_n 3, 1)) rfl
theorem x_83_59 : Ev d 83 59 L [b0] μ Q = Call d 82 [b0] μ (fun v μ1 => Ev d 83 62 L (v.toList ++ []) μ1 Q) := e_callS (a := [b0]) (r := []) (by decide +kernel : decode (bOf 83) 59 = .ok (.invokestatic 67, 3)) (by decide +kernel) (by decide +kernel) (by omega) rfl (by simp)
theorem x_83_62 : Ev d 83 62 L (.int x :: st) μ Q = if x = iI 0 then Ev d 83 65 L st μ Q else Ev d 83 81 L st μ Q := e_if_ne (by decide +kernel : decode (bOf 83) 62 = .ok (.ifCond .ne 19, 3)) (by omega)
theorem x_83_65 : Ev d 83 65 (a0 :: a1 :: a2 :: .int x :: L) st μ Q = Ev d 83 66 (a0 :: a1 :: a2 :: .int x :: L) (.int x :: st) μ Q := e_iload_n (by decide +kernel : decode (bOf 83) 65 = .ok (.iload_n 3, 1)) rfl
theorem x_83_66 : Ev d 83 66 L st μ Q = Ev d 83 68 L (.int (iI 7) :: st) μ Q := e_bipush (by decide +kernel : decode (bOf 83) 66 = .ok (.bipush 7, 2)) (by decide +kernel)
theorem x_83_68 : Ev d 83 68 L (.int y :: .int x :: st) μ Q = if x = y then Ev d 83 81 L st μ Q else Ev d 83 71 L st μ Q := e_icmp_eq (by decide +kernel : decode (bOf 83) 68 = .ok (.if_icmp .eq 13, 3)) (by omega)
theorem x_83_71 : Ev d 83 71 (a0 :: a1 :: a2 :: .int x :: L) st μ Q = Ev d 83 72 (a0 :: a1 :: a2 :: .int x :: L) (.int x :: st) μ Q := e_iload_n (by decide +kernel : decode (bOf 83) 71 = .ok (.iload_n 3, 1)) rfl
theorem x_83_72 : Ev d 83 72 L st μ Q = Ev d 83 74 L (.int (iI 56) :: st) μ Q := e_bipush (by decide +kernel : decode (bOf 83) 72 = .ok (.bipush 56, 2)) (by decide +kernel)
theorem x_83_74 : Ev d 83 74 L (.int y :: .int x :: st) μ Q = if x = y then Ev d 83 81 L st μ Q else Ev d 83 77 L st μ Q := e_icmp_eq (by decide +kernel : decode (bOf 83) 74 = .ok (.if_icmp .eq 7, 3)) (by omega)
theorem x_83_77 : Ev d 83 77 L st μ Q = Ev d 83 78 L (.int (iI 1) :: st) μ Q := e_iconst (by decide +kernel : decode (bOf 83) 77 = .ok (.iconst 1, 1))
theorem x_83_78 : Ev d 83 78 L st μ Q = Ev d 83 82 L st μ Q := e_goto (by decide +kernel : decode (bOf 83) 78 = .ok (.goto 4, 3)) (by omega)
theorem x_83_81 : Ev d 83 81 L st μ Q = Ev d 83 82 L (.int (iI 0) :: st) μ Q := e_iconst (by decide +kernel : decode (bOf 83) 81 = .ok (.iconst 0, 1))
theorem x_83_82 (h : a3.category = 1) : Ev d 83 82 (a0 :: a1 :: a2 :: a3 :: a4 :: L) (.int x :: st) μ Q = Ev d 83 84 (a0 :: a1 :: a2 :: a3 :: .int x :: L) st μ Q := e_istore (by decide +kernel : decode (bOf 83) 82 = .ok (.istore 4, 2)) (by show stOK _ 4 = true; simp [stOK, h])
theorem x_83_84 : Ev d 83 84 (a0 :: a1 :: a2 :: .int x :: L) st μ Q = Ev d 83 85 (a0 :: a1 :: a2 :: .int x :: L) (.int x :: st) μ Q := e_iload_n (by decide +kernel : decode (bOf 83) 84 = .ok (.iload_n 3, 1)) rfl
theorem x_83_85 : Ev d 83 85 (a0 :: a1 :: a2 :: a3 :: .int x :: L) st μ Q = Ev d 83 87 (a0 :: a1 :: a2 :: a3 :: .int x :: L) (.int x :: st) μ Q := e_iload (by decide +kernel : decode (bOf 83) 85 = .ok (.iload 4, 2)) rfl
theorem x_83_87 : Ev d 83 87 L (.int x :: st) μ Q = if x = iI 0 then Ev d 83 94 L st μ Q else Ev d 83 90 L st μ Q := e_if_eq (by decide +kernel : decode (bOf 83) 87 = .ok (.ifCond .eq 7, 3)) (by omega)
theorem x_83_90 : Ev d 83 90 L st μ Q = Ev d 83 91 L (.int (iI 0) :: st) μ Q := e_iconst (by decide +kernel : decode (bOf 83) 90 = .ok (.iconst 0, 1))
theorem x_83_91 : Ev d 83 91 L st μ Q = Ev d 83 95 L st μ Q := e_goto (by decide +kernel : decode (bOf 83) 91 = .ok (.goto 4, 3)) (by omega)
theorem x_83_94 : Ev d 83 94 L st μ Q = Ev d 83 95 L (.int (iI 1) :: st) μ Q := e_iconst (by decide +kernel : decode (bOf 83) 94 = .ok (.iconst 1, 1))
theorem x_83_95 : Ev d 83 95 L (.int y :: .int x :: st) μ Q = Ev d 83 96 L (.int (x + y) :: st) μ Q := e_iadd (by decide +kernel : decode (bOf 83) 95 = .ok (.iadd, 1))
theorem x_83_96 (h : a2.category = 1) : Ev d 83 96 (a0 :: a1 :: a2 :: a3 :: L) (.int x :: st) μ Q = Ev d 83 97 (a0 :: a1 :: a2 :: .int x :: L) st μ Q := e_istore_n (by decide +kernel : decode (bOf 83) 96 = .ok (.istore_n 3, 1)) (by show stOK _ 3 = true; simp [stOK, h])
theorem x_83_97 : Ev d 83 97 L st μ Q = Ev d 83 45 L st μ Q := e_goto (by decide +kernel : decode (bOf 83) 97 = .ok (.goto (-52), 3)) (by omega)
theorem x_83_100 : Ev d 83 100 (a0 :: a1 :: a2 :: .int x :: L) st μ Q = Ev d 83 101 (a0 :: a1 :: a2 :: .int x :: L) (.int x :: st) μ Q := e_iload_n (by decide +kernel : decode (bOf 83) 100 = .ok (.iload_n 3, 1)) rfl
theorem x_83_101 : Ev d 83 101 L [.int x] μ Q = Q (some (.int x)) μ := e_iret (by decide +kernel : decode (bOf 83) 101 = .ok (.ireturn, 1)) (by decide +kernel)
theorem c_84 : Call (d + 1) 84 [.int i0, .int i1] μ Q = Ev d 84 0 [.int i0, .int i1, .null] [] μ Q := call_ev rfl rfl
theorem x_84_0 : Ev d 84 0 (.int x :: L) st μ Q = Ev d 84 1 (.int x :: L) (.int x :: st) μ Q := e_iload_n (by decide +kernel : decode (bOf 84) 0 = .ok (.iload_n 0, 1)) rfl
theorem x_84_1 : Ev d 84 1 L st μ Q = Ev d 84 3 L (.int (iI 18) :: st) μ Q := e_bipush (by decide +kernel : decode (bOf 84) 1 = .ok (.bipush 18, 2)) (by decide +kernel)
theorem x_84_3 : Ev d 84 3 L (.int y :: .int x :: st) μ Q = if x < y then Ev d 84 6 L st μ Q else Ev d 84 14 L st μ Q := e_icmp_ge (by decide +kernel : decode (bOf 84) 3 = .ok (.if_icmp .ge 11, 3)) (by omega)
theorem x_84_6 : Ev d 84 6 (.int x :: L) st μ Q = Ev d 84 7 (.int x :: L) (.int x :: st) μ Q := e_iload_n (by decide +kernel : decode (bOf 84) 6 = .ok (.iload_n 0, 1)) rfl
theorem x_84_7 : Ev d 84 7 L st μ Q = Ev d 84 8 L (.int (iI 3) :: st) μ Q := e_iconst (by decide +kernel : decode (bOf 84) 7 = .ok (.iconst 3, 1))
theorem x_84_8 : Ev d 84 8 L [b1, b0] μ Q = Call d 83 [b0, b1] μ (fun v μ1 => Ev d 84 11 L (v.toList ++ []) μ1 Q) := e_callS (a := [b0, b1]) (r := []) (by decide +kernel : decode (bOf 84) 8 = .ok (.invokestatic 71, 3)) (by decide +kernel) (by decide +kernel) (by omega) rfl (by simp)
theorem x_84_11 : Ev d 84 11 L st μ Q = Ev d 84 66 L st μ Q := e_goto (by decide +kernel : decode (bOf 84) 11 = .ok (.goto 55, 3)) (by omega)
theorem x_84_14 : Ev d 84 14 (.int x :: L) st μ Q = Ev d 84 15 (.int x :: L) (.int x :: st) μ Q := e_iload_n (by decide +kernel : decode (bOf 84) 14 = .ok (.iload_n 0, 1)) rfl
theorem x_84_15 : Ev d 84 15 L st μ Q = Ev d 84 17 L (.int (iI 30) :: st) μ Q := e_bipush (by decide +kernel : decode (bOf 84) 15 = .ok (.bipush 30, 2)) (by decide +kernel)
theorem x_84_17 : Ev d 84 17 L (.int y :: .int x :: st) μ Q = if x < y then Ev d 84 20 L st μ Q else Ev d 84 31 L st μ Q := e_icmp_ge (by decide +kernel : decode (bOf 84) 17 = .ok (.if_icmp .ge 14, 3)) (by omega)
theorem x_84_20 : Ev d 84 20 (.int x :: L) st μ Q = Ev d 84 21 (.int x :: L) (.int x :: st) μ Q := e_iload_n (by decide +kernel : decode (bOf 84) 20 = .ok (.iload_n 0, 1)) rfl
theorem x_84_21 : Ev d 84 21 L st μ Q = Ev d 84 23 L (.int (iI 18) :: st) μ Q := e_bipush (by decide +kernel : decode (bOf 84) 21 = .ok (.bipush 18, 2)) (by decide +kernel)
theorem x_84_23 : Ev d 84 23 L (.int y :: .int x :: st) μ Q = Ev d 84 24 L (.int (x - y) :: st) μ Q := e_isub (by decide +kernel : decode (bOf 84) 23 = .ok (.isub, 1))
theorem x_84_24 : Ev d 84 24 L st μ Q = Ev d 84 25 L (.int (iI 4) :: st) μ Q := e_iconst (by decide +kernel : decode (bOf 84) 24 = .ok (.iconst 4, 1))
theorem x_84_25 : Ev d 84 25 L [b1, b0] μ Q = Call d 83 [b0, b1] μ (fun v μ1 => Ev d 84 28 L (v.toList ++ []) μ1 Q) := e_callS (a := [b0, b1]) (r := []) (by decide +kernel : decode (bOf 84) 25 = .ok (.invokestatic 71, 3)) (by decide +kernel) (by decide +kernel) (by omega) rfl (by simp)
theorem x_84_28 : Ev d 84 28 L st μ Q = Ev d 84 66 L st μ Q := e_goto (by decide +kernel : decode (bOf 84) 28 = .ok (.goto 38, 3)) (by omega)
theorem x_84_31 : Ev d 84 31 (.int x :: L) st μ Q = Ev d 84 32 (.int x :: L) (.int x :: st) μ Q := e_iload_n (by decide +kernel : decode (bOf 84) 31 = .ok (.iload_n 0, 1)) rfl
theorem x_84_32 : Ev d 84 32 L st μ Q = Ev d 84 34 L (.int (iI 30) :: st) μ Q := e_bipush (by decide +kernel : decode (bOf 84) 32 = .ok (.bipush 30, 2)) (by decide +kernel)
theorem x_84_34 : Ev d 84 34 L (.int y :: .int x :: st) μ Q = if x = y then Ev d 84 37 L st μ Q else Ev d 84 42 L st μ Q := e_icmp_ne (by decide +kernel : decode (bOf 84) 34 = .ok (.if_icmp .ne 8, 3)) (by omega)
theorem x_84_37 : Ev d 84 37 L st μ Q = Ev d 84 39 L (.int (iI 56) :: st) μ Q := e_bipush (by decide +kernel : decode (bOf 84) 37 = .ok (.bipush 56, 2)) (by decide +kernel)
theorem x_84_39 : Ev d 84 39 L st μ Q = Ev d 84 66 L st μ Q := e_goto (by decide +kernel : decode (bOf 84) 39 = .ok (.goto 27, 3)) (by omega)
theorem x_84_42 : Ev d 84 42 (.int x :: L) st μ Q = Ev d 84 43 (.int x :: L) (.int x :: st) μ Q := e_iload_n (by decide +kernel : decode (bOf 84) 42 = .ok (.iload_n 0, 1)) rfl
theorem x_84_43 : Ev d 84 43 L st μ Q = Ev d 84 45 L (.int (iI 31) :: st) μ Q := e_bipush (by decide +kernel : decode (bOf 84) 43 = .ok (.bipush 31, 2)) (by decide +kernel)
theorem x_84_45 : Ev d 84 45 L (.int y :: .int x :: st) μ Q = if x = y then Ev d 84 48 L st μ Q else Ev d 84 53 L st μ Q := e_icmp_ne (by decide +kernel : decode (bOf 84) 45 = .ok (.if_icmp .ne 8, 3)) (by omega)
theorem x_84_48 : Ev d 84 48 L st μ Q = Ev d 84 50 L (.int (iI 15) :: st) μ Q := e_bipush (by decide +kernel : decode (bOf 84) 48 = .ok (.bipush 15, 2)) (by decide +kernel)
theorem x_84_50 : Ev d 84 50 L st μ Q = Ev d 84 66 L st μ Q := e_goto (by decide +kernel : decode (bOf 84) 50 = .ok (.goto 16, 3)) (by omega)
theorem x_84_53 : Ev d 84 53 (.int x :: L) st μ Q = Ev d 84 54 (.int x :: L) (.int x :: st) μ Q := e_iload_n (by decide +kernel : decode (bOf 84) 53 = .ok (.iload_n 0, 1)) rfl
theorem x_84_54 : Ev d 84 54 L st μ Q = Ev d 84 56 L (.int (iI 32) :: st) μ Q := e_bipush (by decide +kernel : decode (bOf 84) 54 = .ok (.bipush 32, 2)) (by decide +kernel)
theorem x_84_56 : Ev d 84 56 L (.int y :: .int x :: st) μ Q = if x = y then Ev d 84 59 L st μ Q else Ev d 84 64 L st μ Q := e_icmp_ne (by decide +kernel : decode (bOf 84) 56 = .ok (.if_icmp .ne 8, 3)) (by omega)
theorem x_84_59 : Ev d 84 59 L st μ Q = Ev d 84 61 L (.int (iI 30) :: st) μ Q := e_bipush (by decide +kernel : decode (bOf 84) 59 = .ok (.bipush 30, 2)) (by decide +kernel)
theorem x_84_61 : Ev d 84 61 L st μ Q = Ev d 84 66 L st μ Q := e_goto (by decide +kernel : decode (bOf 84) 61 = .ok (.goto 5, 3)) (by omega)
theorem x_84_64 : Ev d 84 64 L st μ Q = Ev d 84 66 L (.int (iI 60) :: st) μ Q := e_bipush (by decide +kernel : decode (bOf 84) 64 = .ok (.bipush 60, 2)) (by decide +kernel)
theorem x_84_66 (h : a1.category = 1) : Ev d 84 66 (a0 :: a1 :: a2 :: L) (.int x :: st) μ Q = Ev d 84 67 (a0 :: a1 :: .int x :: L) st μ Q := e_istore_n (by decide +kernel : decode (bOf 84) 66 = .ok (.istore_n 2, 1)) (by show stOK _ 2 = true; simp [stOK, h])
theorem x_84_67 : Ev d 84 67 (.int x :: L) st μ Q = Ev d 84 68 (.int x :: L) (.int x :: st) μ Q := e_iload_n (by decide +kernel : decode (bOf 84) 67 = .ok (.iload_n 0, 1)) rfl
theorem x_84_68 : Ev d 84 68 L st μ Q = Ev d 84 70 L (.int (iI 18) :: st) μ Q := e_bipush (by decide +kernel : decode (bOf 84) 68 = .ok (.bipush 18, 2)) (by decide +kernel)
theorem x_84_70 : Ev d 84 70 L (.int y :: .int x :: st) μ Q = if x < y then Ev d 84 77 L st μ Q else Ev d 84 73 L st μ Q := e_icmp_lt (by decide +kernel : decode (bOf 84) 70 = .ok (.if_icmp .lt 7, 3)) (by omega)
theorem x_84_73 : Ev d 84 73 (a0 :: .int x :: L) st μ Q = Ev d 84 74 (a0 :: .int x :: L) (.int x :: st) μ Q := e_iload_n (by decide +kernel : decode (bOf 84) 73 = .ok (.iload_n 1, 1)) rfl
theorem x_84_74 : Ev d 84 74 L (.int x :: st) μ Q = if x = iI 0 then Ev d 84 77 L st μ Q else Ev d 84 81 L st μ Q := e_if_ne (by decide +kernel : decode (bOf 84) 74 = .ok (.ifCond .ne 7, 3)) (by omega)
theorem x_84_77 : Ev d 84 77 (a0 :: a1 :: .int x :: L) st μ Q = Ev d 84 78 (a0 :: a1 :: .int x :: L) (.int x :: st) μ Q := e_iload_n (by decide +kernel : decode (bOf 84) 77 = .ok (.iload_n 2, 1)) rfl
theorem x_84_78 : Ev d 84 78 L st μ Q = Ev d 84 85 L st μ Q := e_goto (by decide +kernel : decode (bOf 84) 78 = .ok (.goto 7, 3)) (by omega)
theorem x_84_81 : Ev d 84 81 L st μ Q = Ev d 84 83 L (.int (iI 63) :: st) μ Q := e_bipush (by decide +kernel : decode (bOf 84) 81 = .ok (.bipush 63, 2)) (by decide +kernel)
theorem x_84_83 : Ev d 84 83 (a0 :: a1 :: .int x :: L) st μ Q = Ev d 84 84 (a0 :: a1 :: .int x :: L) (.int x :: st) μ Q := e_iload_n (by decide +kernel : decode (bOf 84) 83 = .ok (.iload_n 2, 1)) rfl
theorem x_84_84 : Ev d 84 84 L (.int y :: .int x :: st) μ Q = Ev d 84 85 L (.int (x - y) :: st) μ Q := e_isub (by decide +kernel : decode (bOf 84) 84 = .ok (.isub, 1))
theorem x_84_85 : Ev d 84 85 L [.int x] μ Q = Q (some (.int x)) μ := e_iret (by decide +kernel : decode (bOf 84) 85 = .ok (.ireturn, 1)) (by decide +kernel)
theorem c_85 : Call (d + 1) 85 [.ref r0] μ Q = Ev d 85 0 [.ref r0, .null, .null] [] μ Q := call_ev rfl rfl
theorem x_85_0 : Ev d 85 0 (.ref r :: L) st μ Q = Ev d 85 1 (.ref r :: L) (.ref r :: st) μ Q := e_aload_n (by decide +kernel : decode (bOf 85) 0 = .ok (.aload_n 0, 1)) rfl
theorem x_85_1 (h : kd t r = 5) : Ev d 85 1 L (.ref r :: st) (t, V, A, P) Q = Ev d 85 4 L (V r 12 :: st) (t, V, A, P) Q := e_getf (by decide +kernel : decode (bOf 85) 1 = .ok (.getfield 75, 3)) (by decide +kernel) (by decide +kernel) h
theorem x_85_4 : Ev d 85 4 L (.int x :: st) μ Q = if x = iI 0 then Ev d 85 8 L st μ Q else Ev d 85 7 L st μ Q := e_if_eq (by decide +kernel : decode (bOf 85) 4 = .ok (.ifCond .eq 4, 3)) (by omega)
theorem x_85_7 : Ev d 85 7 L [] μ Q = Q none μ := e_ret (by decide +kernel : decode (bOf 85) 7 = .ok (.return_, 1)) (by decide +kernel)
theorem x_85_8 : Ev d 85 8 L st μ Q = Ev d 85 9 L (.int (iI 0) :: st) μ Q := e_iconst (by decide +kernel : decode (bOf 85) 8 = .ok (.iconst 0, 1))
theorem x_85_9 (h : a0.category = 1) : Ev d 85 9 (a0 :: a1 :: L) (.int x :: st) μ Q = Ev d 85 10 (a0 :: .int x :: L) st μ Q := e_istore_n (by decide +kernel : decode (bOf 85) 9 = .ok (.istore_n 1, 1)) (by show stOK _ 1 = true; simp [stOK, h])
theorem x_85_10 : Ev d 85 10 (a0 :: .int x :: L) st μ Q = Ev d 85 11 (a0 :: .int x :: L) (.int x :: st) μ Q := e_iload_n (by decide +kernel : decode (bOf 85) 10 = .ok (.iload_n 1, 1)) rfl
theorem x_85_11 : Ev d 85 11 L st μ Q = Ev d 85 13 L (.int (iI 64) :: st) μ Q := e_bipush (by decide +kernel : decode (bOf 85) 11 = .ok (.bipush 64, 2)) (by decide +kernel)
theorem x_85_13 : Ev d 85 13 L (.int y :: .int x :: st) μ Q = if x < y then Ev d 85 16 L st μ Q else Ev d 85 37 L st μ Q := e_icmp_ge (by decide +kernel : decode (bOf 85) 13 = .ok (.if_icmp .ge 24, 3)) (by omega)
theorem x_85_16 : Ev d 85 16 (.ref r :: L) st μ Q = Ev d 85 17 (.ref r :: L) (.ref r :: st) μ Q := e_aload_n (by decide +kernel : decode (bOf 85) 16 = .ok (.aload_n 0, 1)) rfl
theorem x_85_17 (h : kd t r = 5) : Ev d 85 17 L (.ref r :: st) (t, V, A, P) Q = Ev d 85 20 L (V r 10 :: st) (t, V, A, P) Q := e_getf (by decide +kernel : decode (bOf 85) 17 = .ok (.getfield 29, 3)) (by decide +kernel) (by decide +kernel) h
theorem x_85_20 : Ev d 85 20 (a0 :: .int x :: L) st μ Q = Ev d 85 21 (a0 :: .int x :: L) (.int x :: st) μ Q := e_iload_n (by decide +kernel : decode (bOf 85) 20 = .ok (.iload_n 1, 1)) rfl
theorem x_85_21 : Ev d 85 21 L st μ Q = Ev d 85 23 L (.int (iI (-9)) :: st) μ Q := e_bipush (by decide +kernel : decode (bOf 85) 21 = .ok (.bipush (-9), 2)) (by decide +kernel)
theorem x_85_23 (h : kd t r = 6) (hi : inB x (ln t r) = true) : Ev d 85 23 L (.int y :: .int x :: .ref r :: st) (t, V, A, P) Q = Ev d 85 24 L st (t, V, up1 A r (upd (A r) x.toNatClampNeg y), P) Q := e_iast (by decide +kernel : decode (bOf 85) 23 = .ok (.iastore, 1)) h hi
theorem x_85_24 : Ev d 85 24 (.ref r :: L) st μ Q = Ev d 85 25 (.ref r :: L) (.ref r :: st) μ Q := e_aload_n (by decide +kernel : decode (bOf 85) 24 = .ok (.aload_n 0, 1)) rfl
theorem x_85_25 (h : kd t r = 5) : Ev d 85 25 L (.ref r :: st) (t, V, A, P) Q = Ev d 85 28 L (V r 11 :: st) (t, V, A, P) Q := e_getf (by decide +kernel : decode (bOf 85) 25 = .ok (.getfield 32, 3)) (by decide +kernel) (by decide +kernel) h
theorem x_85_28 : Ev d 85 28 (a0 :: .int x :: L) st μ Q = Ev d 85 29 (a0 :: .int x :: L) (.int x :: st) μ Q := e_iload_n (by decide +kernel : decode (bOf 85) 28 = .ok (.iload_n 1, 1)) rfl
theorem x_85_29 : Ev d 85 29 L st μ Q = Ev d 85 30 L (.int (iI 0) :: st) μ Q := e_iconst (by decide +kernel : decode (bOf 85) 29 = .ok (.iconst 0, 1))
theorem x_85_30 (h : kd t r = 6) (hi : inB x (ln t r) = true) : Ev d 85 30 L (.int y :: .int x :: .ref r :: st) (t, V, A, P) Q = Ev d 85 31 L st (t, V, up1 A r (upd (A r) x.toNatClampNeg y), P) Q := e_iast (by decide +kernel : decode (bOf 85) 30 = .ok (.iastore, 1)) h hi
theorem x_85_31 (h : a0.category = 1) : Ev d 85 31 (a0 :: .int x :: L) st μ Q = Ev d 85 34 (a0 :: .int (x + (iI 1)) :: L) st μ Q := e_iinc (by decide +kernel : decode (bOf 85) 31 = .ok (.iinc 1 1, 3)) rfl (by simp [stOK, h])
theorem x_85_34 : Ev d 85 34 L st μ Q = Ev d 85 10 L st μ Q := e_goto (by decide +kernel : decode (bOf 85) 34 = .ok (.goto (-24), 3)) (by omega)
theorem x_85_37 : Ev d 85 37 L st μ Q = Ev d 85 38 L (.int (iI 0) :: st) μ Q := e_iconst (by decide +kernel : decode (bOf 85) 37 = .ok (.iconst 0, 1))
theorem x_85_38 (h : a0.category = 1) : Ev d 85 38 (a0 :: a1 :: L) (.int x :: st) μ Q = Ev d 85 39 (a0 :: .int x :: L) st μ Q := e_istore_n (by decide +kernel : decode (bOf 85) 38 = .ok (.istore_n 1, 1)) (by show stOK _ 1 = true; simp [stOK, h])
theorem x_85_39 : Ev d 85 39 (a0 :: .int x :: L) st μ Q = Ev d 85 40 (a0 :: .int x :: L) (.int x :: st) μ Q := e_iload_n (by decide +kernel : decode (bOf 85) 39 = .ok (.iload_n 1, 1)) rfl
theorem x_85_40 : Ev d 85 40 L st μ Q = Ev d 85 42 L (.int (iI 34) :: st) μ Q := e_bipush (by decide +kernel : decode (bOf 85) 40 = .ok (.bipush 34, 2)) (by decide +kernel)
theorem x_85_42 : Ev d 85 42 L (.int y :: .int x :: st) μ Q = if x < y then Ev d 85 45 L st μ Q else Ev d 85 91 L st μ Q := e_icmp_ge (by decide +kernel : decode (bOf 85) 42 = .ok (.if_icmp .ge 49, 3)) (by omega)
theorem x_85_45 : Ev d 85 45 L st μ Q = Ev d 85 46 L (.int (iI 0) :: st) μ Q := e_iconst (by decide +kernel : decode (bOf 85) 45 = .ok (.iconst 0, 1))
theorem x_85_46 (h : a1.category = 1) : Ev d 85 46 (a0 :: a1 :: a2 :: L) (.int x :: st) μ Q = Ev d 85 47 (a0 :: a1 :: .int x :: L) st μ Q := e_istore_n (by decide +kernel : decode (bOf 85) 46 = .ok (.istore_n 2, 1)) (by show stOK _ 2 = true; simp [stOK, h])
theorem x_85_47 : Ev d 85 47 (a0 :: a1 :: .int x :: L) st μ Q = Ev d 85 48 (a0 :: a1 :: .int x :: L) (.int x :: st) μ Q := e_iload_n (by decide +kernel : decode (bOf 85) 47 = .ok (.iload_n 2, 1)) rfl
theorem x_85_48 : Ev d 85 48 L st μ Q = Ev d 85 49 L (.int (iI 2) :: st) μ Q := e_iconst (by decide +kernel : decode (bOf 85) 48 = .ok (.iconst 2, 1))
theorem x_85_49 : Ev d 85 49 L (.int y :: .int x :: st) μ Q = if x < y then Ev d 85 52 L st μ Q else Ev d 85 85 L st μ Q := e_icmp_ge (by decide +kernel : decode (bOf 85) 49 = .ok (.if_icmp .ge 36, 3)) (by omega)
theorem x_85_52 : Ev d 85 52 (.ref r :: L) st μ Q = Ev d 85 53 (.ref r :: L) (.ref r :: st) μ Q := e_aload_n (by decide +kernel : decode (bOf 85) 52 = .ok (.aload_n 0, 1)) rfl
theorem x_85_53 (h : kd t r = 5) : Ev d 85 53 L (.ref r :: st) (t, V, A, P) Q = Ev d 85 56 L (V r 10 :: st) (t, V, A, P) Q := e_getf (by decide +kernel : decode (bOf 85) 53 = .ok (.getfield 29, 3)) (by decide +kernel) (by decide +kernel) h
theorem x_85_56 : Ev d 85 56 (a0 :: .int x :: L) st μ Q = Ev d 85 57 (a0 :: .int x :: L) (.int x :: st) μ Q := e_iload_n (by decide +kernel : decode (bOf 85) 56 = .ok (.iload_n 1, 1)) rfl
theorem x_85_57 : Ev d 85 57 (a0 :: a1 :: .int x :: L) st μ Q = Ev d 85 58 (a0 :: a1 :: .int x :: L) (.int x :: st) μ Q := e_iload_n (by decide +kernel : decode (bOf 85) 57 = .ok (.iload_n 2, 1)) rfl
theorem x_85_58 : Ev d 85 58 L [b1, b0, s0] μ Q = Call d 84 [b0, b1] μ (fun v μ1 => Ev d 85 61 L (v.toList ++ [s0]) μ1 Q) := e_callS (a := [b0, b1]) (r := [s0]) (by decide +kernel : decode (bOf 85) 58 = .ok (.invokestatic 79, 3)) (by decide +kernel) (by decide +kernel) (by omega) rfl (by simp)
theorem x_85_61 : Ev d 85 61 (a0 :: .int x :: L) st μ Q = Ev d 85 62 (a0 :: .int x :: L) (.int x :: st) μ Q := e_iload_n (by decide +kernel : decode (bOf 85) 61 = .ok (.iload_n 1, 1)) rfl
theorem x_85_62 (h : kd t r = 6) (hi : inB x (ln t r) = true) : Ev d 85 62 L (.int y :: .int x :: .ref r :: st) (t, V, A, P) Q = Ev d 85 63 L st (t, V, up1 A r (upd (A r) x.toNatClampNeg y), P) Q := e_iast (by decide +kernel : decode (bOf 85) 62 = .ok (.iastore, 1)) h hi
theorem x_85_63 : Ev d 85 63 (.ref r :: L) st μ Q = Ev d 85 64 (.ref r :: L) (.ref r :: st) μ Q := e_aload_n (by decide +kernel : decode (bOf 85) 63 = .ok (.aload_n 0, 1)) rfl
theorem x_85_64 (h : kd t r = 5) : Ev d 85 64 L (.ref r :: st) (t, V, A, P) Q = Ev d 85 67 L (V r 11 :: st) (t, V, A, P) Q := e_getf (by decide +kernel : decode (bOf 85) 64 = .ok (.getfield 32, 3)) (by decide +kernel) (by decide +kernel) h
theorem x_85_67 : Ev d 85 67 (a0 :: .int x :: L) st μ Q = Ev d 85 68 (a0 :: .int x :: L) (.int x :: st) μ Q := e_iload_n (by decide +kernel : decode (bOf 85) 67 = .ok (.iload_n 1, 1)) rfl
theorem x_85_68 : Ev d 85 68 (a0 :: a1 :: .int x :: L) st μ Q = Ev d 85 69 (a0 :: a1 :: .int x :: L) (.int x :: st) μ Q := e_iload_n (by decide +kernel : decode (bOf 85) 68 = .ok (.iload_n 2, 1)) rfl
theorem x_85_69 : Ev d 85 69 L [b1, b0, s0] μ Q = Call d 84 [b0, b1] μ (fun v μ1 => Ev d 85 72 L (v.toList ++ [s0]) μ1 Q) := e_callS (a := [b0, b1]) (r := [s0]) (by decide +kernel : decode (bOf 85) 69 = .ok (.invokestatic 79, 3)) (by decide +kernel) (by decide +kernel) (by omega) rfl (by simp)
theorem x_85_72 : Ev d 85 72 L (.int x :: .ref r :: st) μ Q = Ev d 85 73 L (.int x :: .ref r :: .int x :: .ref r :: st) μ Q := e_dup2 (by decide +kernel : decode (bOf 85) 72 = .ok (.dup2, 1))
theorem x_85_73 (h : kd t r = 6) (hi : inB x (ln t r) = true) : Ev d 85 73 L (.int x :: .ref r :: st) (t, V, A, P) Q = Ev d 85 74 L (.int (A r x.toNatClampNeg) :: st) (t, V, A, P) Q := e_iald (by decide +kernel : decode (bOf 85) 73 = .ok (.iaload, 1)) h hi
theorem x_85_74 : Ev d 85 74 L st μ Q = Ev d 85 75 L (.int (iI 1) :: st) μ Q := e_iconst (by decide +kernel : decode (bOf 85) 74 = .ok (.iconst 1, 1))
theorem x_85_75 : Ev d 85 75 (a0 :: a1 :: .int x :: L) st μ Q = Ev d 85 76 (a0 :: a1 :: .int x :: L) (.int x :: st) μ Q := e_iload_n (by decide +kernel : decode (bOf 85) 75 = .ok (.iload_n 2, 1)) rfl
theorem x_85_76 : Ev d 85 76 L (.int y :: .int x :: st) μ Q = Ev d 85 77 L (.int (x <<< (y &&& 31)) :: st) μ Q := e_ishl (by decide +kernel : decode (bOf 85) 76 = .ok (.ishl, 1))
theorem x_85_77 : Ev d 85 77 L (.int y :: .int x :: st) μ Q = Ev d 85 78 L (.int (x ||| y) :: st) μ Q := e_ior (by decide +kernel : decode (bOf 85) 77 = .ok (.ior, 1))
theorem x_85_78 (h : kd t r = 6) (hi : inB x (ln t r) = true) : Ev d 85 78 L (.int y :: .int x :: .ref r :: st) (t, V, A, P) Q = Ev d 85 79 L st (t, V, up1 A r (upd (A r) x.toNatClampNeg y), P) Q := e_iast (by decide +kernel : decode (bOf 85) 78 = .ok (.iastore, 1)) h hi
theorem x_85_79 (h : a1.category = 1) : Ev d 85 79 (a0 :: a1 :: .int x :: L) st μ Q = Ev d 85 82 (a0 :: a1 :: .int (x + (iI 1)) :: L) st μ Q := e_iinc (by decide +kernel : decode (bOf 85) 79 = .ok (.iinc 2 1, 3)) rfl (by simp [stOK, h])
theorem x_85_82 : Ev d 85 82 L st μ Q = Ev d 85 47 L st μ Q := e_goto (by decide +kernel : decode (bOf 85) 82 = .ok (.goto (-35), 3)) (by omega)
theorem x_85_85 (h : a0.category = 1) : Ev d 85 85 (a0 :: .int x :: L) st μ Q = Ev d 85 88 (a0 :: .int (x + (iI 1)) :: L) st μ Q := e_iinc (by decide +kernel : decode (bOf 85) 85 = .ok (.iinc 1 1, 3)) rfl (by simp [stOK, h])
theorem x_85_88 : Ev d 85 88 L st μ Q = Ev d 85 39 L st μ Q := e_goto (by decide +kernel : decode (bOf 85) 88 = .ok (.goto (-49), 3)) (by omega)
theorem x_85_91 : Ev d 85 91 (.ref r :: L) st μ Q = Ev d 85 92 (.ref r :: L) (.ref r :: st) μ Q := e_aload_n (by decide +kernel : decode (bOf 85) 91 = .ok (.aload_n 0, 1)) rfl
theorem x_85_92 : Ev d 85 92 L st μ Q = Ev d 85 93 L (.int (iI 1) :: st) μ Q := e_iconst (by decide +kernel : decode (bOf 85) 92 = .ok (.iconst 1, 1))
theorem x_85_93 (h : kd t r = 5) (hx : mayPut 85 5 12 (.int x) = true) : Ev d 85 93 L (.int x :: .ref r :: st) (t, V, A, P) Q = Ev d 85 96 L st (t, up1 V r (up1 (V r) 12 (.int x)), A, P) Q := e_putf (by decide +kernel : decode (bOf 85) 93 = .ok (.putfield 75, 3)) (by decide +kernel) (by decide +kernel) hx h
theorem x_85_96 : Ev d 85 96 L [] μ Q = Q none μ := e_ret (by decide +kernel : decode (bOf 85) 96 = .ok (.return_, 1)) (by decide +kernel)
theorem c_86 : Call (d + 1) 86 [.ref r0, .int i1] μ Q = Ev d 86 0 [.ref r0, .int i1] [] μ Q := call_ev rfl rfl
theorem x_86_0 : Ev d 86 0 (a0 :: .int x :: L) st μ Q = Ev d 86 1 (a0 :: .int x :: L) (.int x :: st) μ Q := e_iload_n (by decide +kernel : decode (bOf 86) 0 = .ok (.iload_n 1, 1)) rfl
theorem x_86_1 : Ev d 86 1 (.ref r :: L) st μ Q = Ev d 86 2 (.ref r :: L) (.ref r :: st) μ Q := e_aload_n (by decide +kernel : decode (bOf 86) 1 = .ok (.aload_n 0, 1)) rfl
theorem x_86_2 (h : kd t r = 5) : Ev d 86 2 L (.ref r :: st) (t, V, A, P) Q = Ev d 86 5 L (V r 7 :: st) (t, V, A, P) Q := e_getf (by decide +kernel : decode (bOf 86) 2 = .ok (.getfield 82, 3)) (by decide +kernel) (by decide +kernel) h
theorem x_86_5 : Ev d 86 5 L (.int y :: .int x :: st) μ Q = if x < y then Ev d 86 8 L st μ Q else Ev d 86 17 L st μ Q := e_icmp_ge (by decide +kernel : decode (bOf 86) 5 = .ok (.if_icmp .ge 12, 3)) (by omega)
theorem x_86_8 : Ev d 86 8 (.ref r :: L) st μ Q = Ev d 86 9 (.ref r :: L) (.ref r :: st) μ Q := e_aload_n (by decide +kernel : decode (bOf 86) 8 = .ok (.aload_n 0, 1)) rfl
theorem x_86_9 (h : kd t r = 5) : Ev d 86 9 L (.ref r :: st) (t, V, A, P) Q = Ev d 86 12 L (V r 6 :: st) (t, V, A, P) Q := e_getf (by decide +kernel : decode (bOf 86) 9 = .ok (.getfield 23, 3)) (by decide +kernel) (by decide +kernel) h
theorem x_86_12 : Ev d 86 12 (a0 :: .int x :: L) st μ Q = Ev d 86 13 (a0 :: .int x :: L) (.int x :: st) μ Q := e_iload_n (by decide +kernel : decode (bOf 86) 12 = .ok (.iload_n 1, 1)) rfl
theorem x_86_13 (h : kd t r = 6) (hi : inB x (ln t r) = true) : Ev d 86 13 L (.int x :: .ref r :: st) (t, V, A, P) Q = Ev d 86 14 L (.int (A r x.toNatClampNeg) :: st) (t, V, A, P) Q := e_iald (by decide +kernel : decode (bOf 86) 13 = .ok (.iaload, 1)) h hi
theorem x_86_14 : Ev d 86 14 L st μ Q = Ev d 86 18 L st μ Q := e_goto (by decide +kernel : decode (bOf 86) 14 = .ok (.goto 4, 3)) (by omega)
theorem x_86_17 : Ev d 86 17 L st μ Q = Ev d 86 18 L (.int (iI (-1)) :: st) μ Q := e_iconst (by decide +kernel : decode (bOf 86) 17 = .ok (.iconst (-1), 1))
theorem x_86_18 : Ev d 86 18 L [.int x] μ Q = Q (some (.int x)) μ := e_iret (by decide +kernel : decode (bOf 86) 18 = .ok (.ireturn, 1)) (by decide +kernel)
theorem c_87 : Call (d + 1) 87 [.ref r0, .int i1] μ Q = Ev d 87 0 [.ref r0, .int i1] [] μ Q := call_ev rfl rfl
theorem x_87_0 : Ev d 87 0 (.ref r :: L) st μ Q = Ev d 87 1 (.ref r :: L) (.ref r :: st) μ Q := e_aload_n (by decide +kernel : decode (bOf 87) 0 = .ok (.aload_n 0, 1)) rfl
theorem x_87_1 : Ev d 87 1 L st μ Q = Ev d 87 2 L (.int (iI 0) :: st) μ Q := e_iconst (by decide +kernel : decode (bOf 87) 1 = .ok (.iconst 0, 1))
theorem x_87_2 (h : kd t r = 5) : Ev d 87 2 L (.int x :: .ref r :: st) (t, V, A, P) Q = Ev d 87 5 L st (t, up1 V r (up1 (V r) 0 (.int x)), A, P) Q := e_putf (by decide +kernel : decode (bOf 87) 2 = .ok (.putfield 59, 3)) (by decide +kernel) (by decide +kernel) rfl h
theorem x_87_5 : Ev d 87 5 (a0 :: .int x :: L) st μ Q = Ev d 87 6 (a0 :: .int x :: L) (.int x :: st) μ Q := e_iload_n (by decide +kernel : decode (bOf 87) 5 = .ok (.iload_n 1, 1)) rfl
theorem x_87_6 : Ev d 87 6 L st μ Q = Ev d 87 7 L (.int (iI 0) :: st) μ Q := e_iconst (by decide +kernel : decode (bOf 87) 6 = .ok (.iconst 0, 1))
theorem x_87_7 : Ev d 87 7 L st μ Q = Ev d 87 10 L (.int (iI 255) :: st) μ Q := e_sipush (by decide +kernel : decode (bOf 87) 7 = .ok (.sipush 255, 3)) (by decide +kernel)
theorem x_87_10 : Ev d 87 10 L [b2, b1, b0] μ Q = Call d 80 [b0, b1, b2] μ (fun v μ1 => Ev d 87 13 L (v.toList ++ []) μ1 Q) := e_callS (a := [b0, b1, b2]) (r := []) (by decide +kernel : decode (bOf 87) 10 = .ok (.invokestatic 85, 3)) (by decide +kernel) (by decide +kernel) (by omega) rfl (by simp)
theorem x_87_13 : Ev d 87 13 L (.int x :: st) μ Q = if x = iI 0 then Ev d 87 16 L st μ Q else Ev d 87 18 L st μ Q := e_if_ne (by decide +kernel : decode (bOf 87) 13 = .ok (.ifCond .ne 5, 3)) (by omega)
theorem x_87_16 : Ev d 87 16 L st μ Q = Ev d 87 17 L (.int (iI (-1)) :: st) μ Q := e_iconst (by decide +kernel : decode (bOf 87) 16 = .ok (.iconst (-1), 1))
theorem x_87_17 : Ev d 87 17 L [.int x] μ Q = Q (some (.int x)) μ := e_iret (by decide +kernel : decode (bOf 87) 17 = .ok (.ireturn, 1)) (by decide +kernel)
theorem x_87_18 : Ev d 87 18 (.ref r :: L) st μ Q = Ev d 87 19 (.ref r :: L) (.ref r :: st) μ Q := e_aload_n (by decide +kernel : decode (bOf 87) 18 = .ok (.aload_n 0, 1)) rfl
theorem x_87_19 (h : kd t r = 5) : Ev d 87 19 L (.ref r :: st) (t, V, A, P) Q = Ev d 87 22 L (V r 7 :: st) (t, V, A, P) Q := e_getf (by decide +kernel : decode (bOf 87) 19 = .ok (.getfield 82, 3)) (by decide +kernel) (by decide +kernel) h
theorem x_87_22 : Ev d 87 22 L st μ Q = Ev d 87 24 L (.int (iI 120) :: st) μ Q := e_bipush (by decide +kernel : decode (bOf 87) 22 = .ok (.bipush 120, 2)) (by decide +kernel)
theorem x_87_24 : Ev d 87 24 L (.int y :: .int x :: st) μ Q = if x = y then Ev d 87 27 L st μ Q else Ev d 87 30 L st μ Q := e_icmp_ne (by decide +kernel : decode (bOf 87) 24 = .ok (.if_icmp .ne 6, 3)) (by omega)
theorem x_87_27 : Ev d 87 27 L st μ Q = Ev d 87 29 L (.int (iI (-3)) :: st) μ Q := e_bipush (by decide +kernel : decode (bOf 87) 27 = .ok (.bipush (-3), 2)) (by decide +kernel)
theorem x_87_29 : Ev d 87 29 L [.int x] μ Q = Q (some (.int x)) μ := e_iret (by decide +kernel : decode (bOf 87) 29 = .ok (.ireturn, 1)) (by decide +kernel)
theorem x_87_30 : Ev d 87 30 (.ref r :: L) st μ Q = Ev d 87 31 (.ref r :: L) (.ref r :: st) μ Q := e_aload_n (by decide +kernel : decode (bOf 87) 30 = .ok (.aload_n 0, 1)) rfl
theorem x_87_31 (h : kd t r = 5) : Ev d 87 31 L (.ref r :: st) (t, V, A, P) Q = Ev d 87 34 L (V r 6 :: st) (t, V, A, P) Q := e_getf (by decide +kernel : decode (bOf 87) 31 = .ok (.getfield 23, 3)) (by decide +kernel) (by decide +kernel) h
theorem x_87_34 : Ev d 87 34 (.ref r :: L) st μ Q = Ev d 87 35 (.ref r :: L) (.ref r :: st) μ Q := e_aload_n (by decide +kernel : decode (bOf 87) 34 = .ok (.aload_n 0, 1)) rfl
theorem x_87_35 (h : kd t r = 5) : Ev d 87 35 L (.ref r :: st) (t, V, A, P) Q = Ev d 87 38 L (V r 7 :: st) (t, V, A, P) Q := e_getf (by decide +kernel : decode (bOf 87) 35 = .ok (.getfield 82, 3)) (by decide +kernel) (by decide +kernel) h
theorem x_87_38 : Ev d 87 38 (a0 :: .int x :: L) st μ Q = Ev d 87 39 (a0 :: .int x :: L) (.int x :: st) μ Q := e_iload_n (by decide +kernel : decode (bOf 87) 38 = .ok (.iload_n 1, 1)) rfl
theorem x_87_39 (h : kd t r = 6) (hi : inB x (ln t r) = true) : Ev d 87 39 L (.int y :: .int x :: .ref r :: st) (t, V, A, P) Q = Ev d 87 40 L st (t, V, up1 A r (upd (A r) x.toNatClampNeg y), P) Q := e_iast (by decide +kernel : decode (bOf 87) 39 = .ok (.iastore, 1)) h hi
theorem x_87_40 : Ev d 87 40 (.ref r :: L) st μ Q = Ev d 87 41 (.ref r :: L) (.ref r :: st) μ Q := e_aload_n (by decide +kernel : decode (bOf 87) 40 = .ok (.aload_n 0, 1)) rfl
theorem x_87_41 : Ev d 87 41 L (.ref r :: st) μ Q = Ev d 87 42 L (.ref r :: .ref r :: st) μ Q := e_dup_a (by decide +kernel : decode (bOf 87) 41 = .ok (.dup, 1))
theorem x_87_42 (h : kd t r = 5) : Ev d 87 42 L (.ref r :: st) (t, V, A, P) Q = Ev d 87 45 L (V r 7 :: st) (t, V, A, P) Q := e_getf (by decide +kernel : decode (bOf 87) 42 = .ok (.getfield 82, 3)) (by decide +kernel) (by decide +kernel) h
theorem x_87_45 : Ev d 87 45 L st μ Q = Ev d 87 46 L (.int (iI 1) :: st) μ Q := e_iconst (by decide +kernel : decode (bOf 87) 45 = .ok (.iconst 1, 1))
theorem x_87_46 : Ev d 87 46 L (.int y :: .int x :: st) μ Q = Ev d 87 47 L (.int (x + y) :: st) μ Q := e_iadd (by decide +kernel : decode (bOf 87) 46 = .ok (.iadd, 1))
theorem x_87_47 (h : kd t r = 5) : Ev d 87 47 L (.int x :: .ref r :: st) (t, V, A, P) Q = Ev d 87 50 L st (t, up1 V r (up1 (V r) 7 (.int x)), A, P) Q := e_putf (by decide +kernel : decode (bOf 87) 47 = .ok (.putfield 82, 3)) (by decide +kernel) (by decide +kernel) rfl h
theorem x_87_50 : Ev d 87 50 (.ref r :: L) st μ Q = Ev d 87 51 (.ref r :: L) (.ref r :: st) μ Q := e_aload_n (by decide +kernel : decode (bOf 87) 50 = .ok (.aload_n 0, 1)) rfl
theorem x_87_51 (h : kd t r = 5) : Ev d 87 51 L (.ref r :: st) (t, V, A, P) Q = Ev d 87 54 L (V r 7 :: st) (t, V, A, P) Q := e_getf (by decide +kernel : decode (bOf 87) 51 = .ok (.getfield 82, 3)) (by decide +kernel) (by decide +kernel) h
theorem x_87_54 : Ev d 87 54 L [.int x] μ Q = Q (some (.int x)) μ := e_iret (by decide +kernel : decode (bOf 87) 54 = .ok (.ireturn, 1)) (by decide +kernel)
theorem c_88 : Call (d + 1) 88 [.ref r0] μ Q = Ev d 88 0 [.ref r0, .null] [] μ Q := call_ev rfl rfl
theorem x_88_0 : Ev d 88 0 (.ref r :: L) st μ Q = Ev d 88 1 (.ref r :: L) (.ref r :: st) μ Q := e_aload_n (by decide +kernel : decode (bOf 88) 0 = .ok (.aload_n 0, 1)) rfl
theorem x_88_1 : Ev d 88 1 L st μ Q = Ev d 88 2 L (.int (iI 0) :: st) μ Q := e_iconst (by decide +kernel : decode (bOf 88) 1 = .ok (.iconst 0, 1))
theorem x_88_2 (h : kd t r = 5) : Ev d 88 2 L (.int x :: .ref r :: st) (t, V, A, P) Q = Ev d 88 5 L st (t, up1 V r (up1 (V r) 0 (.int x)), A, P) Q := e_putf (by decide +kernel : decode (bOf 88) 2 = .ok (.putfield 59, 3)) (by decide +kernel) (by decide +kernel) rfl h
theorem x_88_5 : Ev d 88 5 (.ref r :: L) st μ Q = Ev d 88 6 (.ref r :: L) (.ref r :: st) μ Q := e_aload_n (by decide +kernel : decode (bOf 88) 5 = .ok (.aload_n 0, 1)) rfl
theorem x_88_6 (h : kd t r = 5) : Ev d 88 6 L (.ref r :: st) (t, V, A, P) Q = Ev d 88 9 L (V r 7 :: st) (t, V, A, P) Q := e_getf (by decide +kernel : decode (bOf 88) 6 = .ok (.getfield 82, 3)) (by decide +kernel) (by decide +kernel) h
theorem x_88_9 (h : a0.category = 1) : Ev d 88 9 (a0 :: a1 :: L) (.int x :: st) μ Q = Ev d 88 10 (a0 :: .int x :: L) st μ Q := e_istore_n (by decide +kernel : decode (bOf 88) 9 = .ok (.istore_n 1, 1)) (by show stOK _ 1 = true; simp [stOK, h])
theorem x_88_10 : Ev d 88 10 (.ref r :: L) st μ Q = Ev d 88 11 (.ref r :: L) (.ref r :: st) μ Q := e_aload_n (by decide +kernel : decode (bOf 88) 10 = .ok (.aload_n 0, 1)) rfl
theorem x_88_11 : Ev d 88 11 L st μ Q = Ev d 88 12 L (.int (iI 0) :: st) μ Q := e_iconst (by decide +kernel : decode (bOf 88) 11 = .ok (.iconst 0, 1))
theorem x_88_12 (h : kd t r = 5) : Ev d 88 12 L (.int x :: .ref r :: st) (t, V, A, P) Q = Ev d 88 15 L st (t, up1 V r (up1 (V r) 7 (.int x)), A, P) Q := e_putf (by decide +kernel : decode (bOf 88) 12 = .ok (.putfield 82, 3)) (by decide +kernel) (by decide +kernel) rfl h
theorem x_88_15 : Ev d 88 15 (a0 :: .int x :: L) st μ Q = Ev d 88 16 (a0 :: .int x :: L) (.int x :: st) μ Q := e_iload_n (by decide +kernel : decode (bOf 88) 15 = .ok (.iload_n 1, 1)) rfl
theorem x_88_16 : Ev d 88 16 L [.int x] μ Q = Q (some (.int x)) μ := e_iret (by decide +kernel : decode (bOf 88) 16 = .ok (.ireturn, 1)) (by decide +kernel)
theorem c_89 : Call (d + 1) 89 [.ref r0] μ Q = Ev d 89 0 [.ref r0, .null] [] μ Q := call_ev rfl rfl
theorem x_89_0 : Ev d 89 0 (.ref r :: L) st μ Q = Ev d 89 1 (.ref r :: L) (.ref r :: st) μ Q := e_aload_n (by decide +kernel : decode (bOf 89) 0 = .ok (.aload_n 0, 1)) rfl
theorem x_89_1 : Ev d 89 1 (.ref r :: L) st μ Q = Ev d 89 2 (.ref r :: L) (.ref r :: st) μ Q := e_aload_n (by decide +kernel : decode (bOf 89) 1 = .ok (.aload_n 0, 1)) rfl
theorem x_89_2 (h : kd t r = 5) : Ev d 89 2 L (.ref r :: st) (t, V, A, P) Q = Ev d 89 5 L (V r 13 :: st) (t, V, A, P) Q := e_getf (by decide +kernel : decode (bOf 89) 2 = .ok (.getfield 89, 3)) (by decide +kernel) (by decide +kernel) h
theorem x_89_5 (h : kd t r = 5) : Ev d 89 5 L [b0, .ref r] (t, V, A, P) Q = Call d 86 [.ref r, b0] (t, V, A, P) (fun v μ1 => Ev d 89 8 L (v.toList ++ []) μ1 Q) := e_callV (a := [b0]) (r := []) (by decide +kernel : decode (bOf 89) 5 = .ok (.invokevirtual 92, 3)) (by decide +kernel) (by decide +kernel) (by decide +kernel) (by omega) rfl (by simp) (by decide +kernel) h
theorem x_89_8 : Ev d 89 8 L st μ Q = Ev d 89 10 L (.int (iI 32) :: st) μ Q := e_bipush (by decide +kernel : decode (bOf 89) 8 = .ok (.bipush 32, 2)) (by decide +kernel)
theorem x_89_10 : Ev d 89 10 L (.int y :: .int x :: st) μ Q = if x = y then Ev d 89 13 L st μ Q else Ev d 89 26 L st μ Q := e_icmp_ne (by decide +kernel : decode (bOf 89) 10 = .ok (.if_icmp .ne 16, 3)) (by omega)
theorem x_89_13 : Ev d 89 13 (.ref r :: L) st μ Q = Ev d 89 14 (.ref r :: L) (.ref r :: st) μ Q := e_aload_n (by decide +kernel : decode (bOf 89) 13 = .ok (.aload_n 0, 1)) rfl
theorem x_89_14 : Ev d 89 14 L (.ref r :: st) μ Q = Ev d 89 15 L (.ref r :: .ref r :: st) μ Q := e_dup_a (by decide +kernel : decode (bOf 89) 14 = .ok (.dup, 1))
theorem x_89_15 (h : kd t r = 5) : Ev d 89 15 L (.ref r :: st) (t, V, A, P) Q = Ev d 89 18 L (V r 13 :: st) (t, V, A, P) Q := e_getf (by decide +kernel : decode (bOf 89) 15 = .ok (.getfield 89, 3)) (by decide +kernel) (by decide +kernel) h
theorem x_89_18 : Ev d 89 18 L st μ Q = Ev d 89 19 L (.int (iI 1) :: st) μ Q := e_iconst (by decide +kernel : decode (bOf 89) 18 = .ok (.iconst 1, 1))
theorem x_89_19 : Ev d 89 19 L (.int y :: .int x :: st) μ Q = Ev d 89 20 L (.int (x + y) :: st) μ Q := e_iadd (by decide +kernel : decode (bOf 89) 19 = .ok (.iadd, 1))
theorem x_89_20 (h : kd t r = 5) : Ev d 89 20 L (.int x :: .ref r :: st) (t, V, A, P) Q = Ev d 89 23 L st (t, up1 V r (up1 (V r) 13 (.int x)), A, P) Q := e_putf (by decide +kernel : decode (bOf 89) 20 = .ok (.putfield 89, 3)) (by decide +kernel) (by decide +kernel) rfl h
theorem x_89_23 : Ev d 89 23 L st μ Q = Ev d 89 0 L st μ Q := e_goto (by decide +kernel : decode (bOf 89) 23 = .ok (.goto (-23), 3)) (by omega)
theorem x_89_26 : Ev d 89 26 (.ref r :: L) st μ Q = Ev d 89 27 (.ref r :: L) (.ref r :: st) μ Q := e_aload_n (by decide +kernel : decode (bOf 89) 26 = .ok (.aload_n 0, 1)) rfl
theorem x_89_27 : Ev d 89 27 (.ref r :: L) st μ Q = Ev d 89 28 (.ref r :: L) (.ref r :: st) μ Q := e_aload_n (by decide +kernel : decode (bOf 89) 27 = .ok (.aload_n 0, 1)) rfl
theorem x_89_28 (h : kd t r = 5) : Ev d 89 28 L (.ref r :: st) (t, V, A, P) Q = Ev d 89 31 L (V r 13 :: st) (t, V, A, P) Q := e_getf (by decide +kernel : decode (bOf 89) 28 = .ok (.getfield 89, 3)) (by decide +kernel) (by decide +kernel) h
theorem x_89_31 (h : kd t r = 5) : Ev d 89 31 L (.int x :: .ref r :: st) (t, V, A, P) Q = Ev d 89 34 L st (t, up1 V r (up1 (V r) 14 (.int x)), A, P) Q := e_putf (by decide +kernel : decode (bOf 89) 31 = .ok (.putfield 95, 3)) (by decide +kernel) (by decide +kernel) rfl h
theorem x_89_34 : Ev d 89 34 (.ref r :: L) st μ Q = Ev d 89 35 (.ref r :: L) (.ref r :: st) μ Q := e_aload_n (by decide +kernel : decode (bOf 89) 34 = .ok (.aload_n 0, 1)) rfl
theorem x_89_35 : Ev d 89 35 (.ref r :: L) st μ Q = Ev d 89 36 (.ref r :: L) (.ref r :: st) μ Q := e_aload_n (by decide +kernel : decode (bOf 89) 35 = .ok (.aload_n 0, 1)) rfl
theorem x_89_36 (h : kd t r = 5) : Ev d 89 36 L (.ref r :: st) (t, V, A, P) Q = Ev d 89 39 L (V r 13 :: st) (t, V, A, P) Q := e_getf (by decide +kernel : decode (bOf 89) 36 = .ok (.getfield 89, 3)) (by decide +kernel) (by decide +kernel) h
theorem x_89_39 (h : kd t r = 5) : Ev d 89 39 L [b0, .ref r] (t, V, A, P) Q = Call d 86 [.ref r, b0] (t, V, A, P) (fun v μ1 => Ev d 89 42 L (v.toList ++ []) μ1 Q) := e_callV (a := [b0]) (r := []) (by decide +kernel : decode (bOf 89) 39 = .ok (.invokevirtual 92, 3)) (by decide +kernel) (by decide +kernel) (by decide +kernel) (by omega) rfl (by simp) (by decide +kernel) h
theorem x_89_42 (h : a0.category = 1) : Ev d 89 42 (a0 :: a1 :: L) (.int x :: st) μ Q = Ev d 89 43 (a0 :: .int x :: L) st μ Q := e_istore_n (by decide +kernel : decode (bOf 89) 42 = .ok (.istore_n 1, 1)) (by show stOK _ 1 = true; simp [stOK, h])
theorem x_89_43 : Ev d 89 43 (a0 :: .int x :: L) st μ Q = Ev d 89 44 (a0 :: .int x :: L) (.int x :: st) μ Q := e_iload_n (by decide +kernel : decode (bOf 89) 43 = .ok (.iload_n 1, 1)) rfl
theorem x_89_44 : Ev d 89 44 L (.int x :: st) μ Q = if x < iI 0 then Ev d 89 47 L st μ Q else Ev d 89 55 L st μ Q := e_if_ge (by decide +kernel : decode (bOf 89) 44 = .ok (.ifCond .ge 11, 3)) (by omega)
theorem x_89_47 : Ev d 89 47 (.ref r :: L) st μ Q = Ev d 89 48 (.ref r :: L) (.ref r :: st) μ Q := e_aload_n (by decide +kernel : decode (bOf 89) 47 = .ok (.aload_n 0, 1)) rfl
theorem x_89_48 : Ev d 89 48 L st μ Q = Ev d 89 49 L (.int (iI 0) :: st) μ Q := e_iconst (by decide +kernel : decode (bOf 89) 48 = .ok (.iconst 0, 1))
theorem x_89_49 (h : kd t r = 5) : Ev d 89 49 L (.int x :: .ref r :: st) (t, V, A, P) Q = Ev d 89 52 L st (t, up1 V r (up1 (V r) 15 (.int x)), A, P) Q := e_putf (by decide +kernel : decode (bOf 89) 49 = .ok (.putfield 98, 3)) (by decide +kernel) (by decide +kernel) rfl h
theorem x_89_52 : Ev d 89 52 L st μ Q = Ev d 89 227 L st μ Q := e_goto (by decide +kernel : decode (bOf 89) 52 = .ok (.goto 175, 3)) (by omega)
theorem x_89_55 : Ev d 89 55 (a0 :: .int x :: L) st μ Q = Ev d 89 56 (a0 :: .int x :: L) (.int x :: st) μ Q := e_iload_n (by decide +kernel : decode (bOf 89) 55 = .ok (.iload_n 1, 1)) rfl
theorem x_89_56 : Ev d 89 56 L st μ Q = Ev d 89 58 L (.int (iI 48) :: st) μ Q := e_bipush (by decide +kernel : decode (bOf 89) 56 = .ok (.bipush 48, 2)) (by decide +kernel)
theorem x_89_58 : Ev d 89 58 L st μ Q = Ev d 89 60 L (.int (iI 57) :: st) μ Q := e_bipush (by decide +kernel : decode (bOf 89) 58 = .ok (.bipush 57, 2)) (by decide +kernel)
theorem x_89_60 : Ev d 89 60 L [b2, b1, b0] μ Q = Call d 80 [b0, b1, b2] μ (fun v μ1 => Ev d 89 63 L (v.toList ++ []) μ1 Q) := e_callS (a := [b0, b1, b2]) (r := []) (by decide +kernel : decode (bOf 89) 60 = .ok (.invokestatic 85, 3)) (by decide +kernel) (by decide +kernel) (by omega) rfl (by simp)
theorem x_89_63 : Ev d 89 63 L (.int x :: st) μ Q = if x = iI 0 then Ev d 89 181 L st μ Q else Ev d 89 66 L st μ Q := e_if_eq (by decide +kernel : decode (bOf 89) 63 = .ok (.ifCond .eq 118, 3)) (by omega)
theorem x_89_66 : Ev d 89 66 (.ref r :: L) st μ Q = Ev d 89 67 (.ref r :: L) (.ref r :: st) μ Q := e_aload_n (by decide +kernel : decode (bOf 89) 66 = .ok (.aload_n 0, 1)) rfl
theorem x_89_67 : Ev d 89 67 L st μ Q = Ev d 89 68 L (.int (iI 0) :: st) μ Q := e_iconst (by decide +kernel : decode (bOf 89) 67 = .ok (.iconst 0, 1))
theorem x_89_68 (h : kd t r = 5) : Ev d 89 68 L (.int x :: .ref r :: st) (t, V, A, P) Q = Ev d 89 71 L st (t, up1 V r (up1 (V r) 16 (.int x)), A, P) Q := e_putf (by decide +kernel : decode (bOf 89) 68 = .ok (.putfield 101, 3)) (by decide +kernel) (by decide +kernel) rfl h
theorem x_89_71 : Ev d 89 71 (.ref r :: L) st μ Q = Ev d 89 72 (.ref r :: L) (.ref r :: st) μ Q := e_aload_n (by decide +kernel : decode (bOf 89) 71 = .ok (.aload_n 0, 1)) rfl
theorem x_89_72 : Ev d 89 72 (.ref r :: L) st μ Q = Ev d 89 73 (.ref r :: L) (.ref r :: st) μ Q := e_aload_n (by decide +kernel : decode (bOf 89) 72 = .ok (.aload_n 0, 1)) rfl
theorem x_89_73 (h : kd t r = 5) : Ev d 89 73 L (.ref r :: st) (t, V, A, P) Q = Ev d 89 76 L (V r 13 :: st) (t, V, A, P) Q := e_getf (by decide +kernel : decode (bOf 89) 73 = .ok (.getfield 89, 3)) (by decide +kernel) (by decide +kernel) h
theorem x_89_76 (h : kd t r = 5) : Ev d 89 76 L [b0, .ref r] (t, V, A, P) Q = Call d 86 [.ref r, b0] (t, V, A, P) (fun v μ1 => Ev d 89 79 L (v.toList ++ []) μ1 Q) := e_callV (a := [b0]) (r := []) (by decide +kernel : decode (bOf 89) 76 = .ok (.invokevirtual 92, 3)) (by decide +kernel) (by decide +kernel) (by decide +kernel) (by omega) rfl (by simp) (by decide +kernel) h
theorem x_89_79 : Ev d 89 79 L st μ Q = Ev d 89 81 L (.int (iI 48) :: st) μ Q := e_bipush (by decide +kernel : decode (bOf 89) 79 = .ok (.bipush 48, 2)) (by decide +kernel)
theorem x_89_81 : Ev d 89 81 L st μ Q = Ev d 89 83 L (.int (iI 57) :: st) μ Q := e_bipush (by decide +kernel : decode (bOf 89) 81 = .ok (.bipush 57, 2)) (by decide +kernel)
theorem x_89_83 : Ev d 89 83 L [b2, b1, b0] μ Q = Call d 80 [b0, b1, b2] μ (fun v μ1 => Ev d 89 86 L (v.toList ++ []) μ1 Q) := e_callS (a := [b0, b1, b2]) (r := []) (by decide +kernel : decode (bOf 89) 83 = .ok (.invokestatic 85, 3)) (by decide +kernel) (by decide +kernel) (by omega) rfl (by simp)
theorem x_89_86 : Ev d 89 86 L (.int x :: st) μ Q = if x = iI 0 then Ev d 89 141 L st μ Q else Ev d 89 89 L st μ Q := e_if_eq (by decide +kernel : decode (bOf 89) 86 = .ok (.ifCond .eq 55, 3)) (by omega)
theorem x_89_89 : Ev d 89 89 (.ref r :: L) st μ Q = Ev d 89 90 (.ref r :: L) (.ref r :: st) μ Q := e_aload_n (by decide +kernel : decode (bOf 89) 89 = .ok (.aload_n 0, 1)) rfl
theorem x_89_90 : Ev d 89 90 (.ref r :: L) st μ Q = Ev d 89 91 (.ref r :: L) (.ref r :: st) μ Q := e_aload_n (by decide +kernel : decode (bOf 89) 90 = .ok (.aload_n 0, 1)) rfl
theorem x_89_91 (h : kd t r = 5) : Ev d 89 91 L (.ref r :: st) (t, V, A, P) Q = Ev d 89 94 L (V r 16 :: st) (t, V, A, P) Q := e_getf (by decide +kernel : decode (bOf 89) 91 = .ok (.getfield 101, 3)) (by decide +kernel) (by decide +kernel) h
theorem x_89_94 : Ev d 89 94 L st μ Q = Ev d 89 96 L (.int (iI 99) :: st) μ Q := e_bipush (by decide +kernel : decode (bOf 89) 94 = .ok (.bipush 99, 2)) (by decide +kernel)
theorem x_89_96 : Ev d 89 96 L (.int y :: .int x :: st) μ Q = if y < x then Ev d 89 99 L st μ Q else Ev d 89 106 L st μ Q := e_icmp_le (by decide +kernel : decode (bOf 89) 96 = .ok (.if_icmp .le 10, 3)) (by omega)
theorem x_89_99 : Ev d 89 99 (.ref r :: L) st μ Q = Ev d 89 100 (.ref r :: L) (.ref r :: st) μ Q := e_aload_n (by decide +kernel : decode (bOf 89) 99 = .ok (.aload_n 0, 1)) rfl
theorem x_89_100 (h : kd t r = 5) : Ev d 89 100 L (.ref r :: st) (t, V, A, P) Q = Ev d 89 103 L (V r 16 :: st) (t, V, A, P) Q := e_getf (by decide +kernel : decode (bOf 89) 100 = .ok (.getfield 101, 3)) (by decide +kernel) (by decide +kernel) h
theorem x_89_103 : Ev d 89 103 L st μ Q = Ev d 89 125 L st μ Q := e_goto (by decide +kernel : decode (bOf 89) 103 = .ok (.goto 22, 3)) (by omega)
theorem x_89_106 : Ev d 89 106 L st μ Q = Ev d 89 108 L (.int (iI 10) :: st) μ Q := e_bipush (by decide +kernel : decode (bOf 89) 106 = .ok (.bipush 10, 2)) (by decide +kernel)
theorem x_89_108 : Ev d 89 108 (.ref r :: L) st μ Q = Ev d 89 109 (.ref r :: L) (.ref r :: st) μ Q := e_aload_n (by decide +kernel : decode (bOf 89) 108 = .ok (.aload_n 0, 1)) rfl
theorem x_89_109 (h : kd t r = 5) : Ev d 89 109 L (.ref r :: st) (t, V, A, P) Q = Ev d 89 112 L (V r 16 :: st) (t, V, A, P) Q := e_getf (by decide +kernel : decode (bOf 89) 109 = .ok (.getfield 101, 3)) (by decide +kernel) (by decide +kernel) h
theorem x_89_112 : Ev d 89 112 L (.int y :: .int x :: st) μ Q = Ev d 89 113 L (.int (x * y) :: st) μ Q := e_imul (by decide +kernel : decode (bOf 89) 112 = .ok (.imul, 1))
theorem x_89_113 : Ev d 89 113 (.ref r :: L) st μ Q = Ev d 89 114 (.ref r :: L) (.ref r :: st) μ Q := e_aload_n (by decide +kernel : decode (bOf 89) 113 = .ok (.aload_n 0, 1)) rfl
theorem x_89_114 : Ev d 89 114 (.ref r :: L) st μ Q = Ev d 89 115 (.ref r :: L) (.ref r :: st) μ Q := e_aload_n (by decide +kernel : decode (bOf 89) 114 = .ok (.aload_n 0, 1)) rfl
theorem x_89_115 (h : kd t r = 5) : Ev d 89 115 L (.ref r :: st) (t, V, A, P) Q = Ev d 89 118 L (V r 13 :: st) (t, V, A, P) Q := e_getf (by decide +kernel : decode (bOf 89) 115 = .ok (.getfield 89, 3)) (by decide +kernel) (by decide +kernel) h
theorem x_89_118 (h : kd t r = 5) : Ev d 89 118 L [b0, .ref r, s0, s1] (t, V, A, P) Q = Call d 86 [.ref r, b0] (t, V, A, P) (fun v μ1 => Ev d 89 121 L (v.toList ++ [s0, s1]) μ1 Q) := e_callV (a := [b0]) (r := [s0, s1]) (by decide +kernel : decode (bOf 89) 118 = .ok (.invokevirtual 92, 3)) (by decide +kernel) (by decide +kernel) (by decide +kernel) (by omega) rfl (by simp) (by decide +kernel) h
theorem x_89_121 : Ev d 89 121 L (.int y :: .int x :: st) μ Q = Ev d 89 122 L (.int (x + y) :: st) μ Q := e_iadd (by decide +kernel : decode (bOf 89) 121 = .ok (.iadd, 1))
theorem x_89_122 : Ev d 89 122 L st μ Q = Ev d 89 124 L (.int (iI 48) :: st) μ Q := e_bipush (by decide +kernel : decode (bOf 89) 122 = .ok (.bipush 48, 2)) (by decide +kernel)
theorem x_89_124 : Ev d 89 124 L (.int y :: .int x :: st) μ Q = Ev d 89 125 L (.int (x - y) :: st) μ Q := e_isub (by decide +kernel : decode (bOf 89) 124 = .ok (.isub, 1))
theorem x_89_125 (h : kd t r = 5) : Ev d 89 125 L (.int x :: .ref r :: st) (t, V, A, P) Q = Ev d 89 128 L st (t, up1 V r (up1 (V r) 16 (.int x)), A, P) Q := e_putf (by decide +kernel : decode (bOf 89) 125 = .ok (.putfield 101, 3)) (by decide +kernel) (by decide +kernel) rfl h
theorem x_89_128 : Ev d 89 128 (.ref r :: L) st μ Q = Ev d 89 129 (.ref r :: L) (.ref r :: st) μ Q := e_aload_n (by decide +kernel : decode (bOf 89) 128 = .ok (.aload_n 0, 1)) rfl
theorem x_89_129 : Ev d 89 129 L (.ref r :: st) μ Q = Ev d 89 130 L (.ref r :: .ref r :: st) μ Q := e_dup_a (by decide +kernel : decode (bOf 89) 129 = .ok (.dup, 1))
theorem x_89_130 (h : kd t r = 5) : Ev d 89 130 L (.ref r :: st) (t, V, A, P) Q = Ev d 89 133 L (V r 13 :: st) (t, V, A, P) Q := e_getf (by decide +kernel : decode (bOf 89) 130 = .ok (.getfield 89, 3)) (by decide +kernel) (by decide +kernel) h
theorem x_89_133 : Ev d 89 133 L st μ Q = Ev d 89 134 L (.int (iI 1) :: st) μ Q := e_iconst (by decide +kernel : decode (bOf 89) 133 = .ok (.iconst 1, 1))
theorem x_89_134 : Ev d 89 134 L (.int y :: .int x :: st) μ Q = Ev d 89 135 L (.int (x + y) :: st) μ Q := e_iadd (by decide +kernel : decode (bOf 89) 134 = .ok (.iadd, 1))
theorem x_89_135 (h : kd t r = 5) : Ev d 89 135 L (.int x :: .ref r :: st) (t, V, A, P) Q = Ev d 89 138 L st (t, up1 V r (up1 (V r) 13 (.int x)), A, P) Q := e_putf (by decide +kernel : decode (bOf 89) 135 = .ok (.putfield 89, 3)) (by decide +kernel) (by decide +kernel) rfl h
theorem x_89_138 : Ev d 89 138 L st μ Q = Ev d 89 71 L st μ Q := e_goto (by decide +kernel : decode (bOf 89) 138 = .ok (.goto (-67), 3)) (by omega)
theorem x_89_141 : Ev d 89 141 (.ref r :: L) st μ Q = Ev d 89 142 (.ref r :: L) (.ref r :: st) μ Q := e_aload_n (by decide +kernel : decode (bOf 89) 141 = .ok (.aload_n 0, 1)) rfl
theorem x_89_142 : Ev d 89 142 (.ref r :: L) st μ Q = Ev d 89 143 (.ref r :: L) (.ref r :: st) μ Q := e_aload_n (by decide +kernel : decode (bOf 89) 142 = .ok (.aload_n 0, 1)) rfl
theorem x_89_143 (h : kd t r = 5) : Ev d 89 143 L (.ref r :: st) (t, V, A, P) Q = Ev d 89 146 L (V r 16 :: st) (t, V, A, P) Q := e_getf (by decide +kernel : decode (bOf 89) 143 = .ok (.getfield 101, 3)) (by decide +kernel) (by decide +kernel) h
theorem x_89_146 : Ev d 89 146 L st μ Q = Ev d 89 148 L (.int (iI 99) :: st) μ Q := e_bipush (by decide +kernel : decode (bOf 89) 146 = .ok (.bipush 99, 2)) (by decide +kernel)
theorem x_89_148 : Ev d 89 148 L (.int y :: .int x :: st) μ Q = if y < x then Ev d 89 170 L st μ Q else Ev d 89 151 L st μ Q := e_icmp_gt (by decide +kernel : decode (bOf 89) 148 = .ok (.if_icmp .gt 22, 3)) (by omega)
theorem x_89_151 : Ev d 89 151 (a0 :: .int x :: L) st μ Q = Ev d 89 152 (a0 :: .int x :: L) (.int x :: st) μ Q := e_iload_n (by decide +kernel : decode (bOf 89) 151 = .ok (.iload_n 1, 1)) rfl
theorem x_89_152 : Ev d 89 152 L st μ Q = Ev d 89 154 L (.int (iI 48) :: st) μ Q := e_bipush (by decide +kernel : decode (bOf 89) 152 = .ok (.bipush 48, 2)) (by decide +kernel)
theorem x_89_154 : Ev d 89 154 L (.int y :: .int x :: st) μ Q = if x = y then Ev d 89 157 L st μ Q else Ev d 89 174 L st μ Q := e_icmp_ne (by decide +kernel : decode (bOf 89) 154 = .ok (.if_icmp .ne 20, 3)) (by omega)
theorem x_89_157 : Ev d 89 157 (.ref r :: L) st μ Q = Ev d 89 158 (.ref r :: L) (.ref r :: st) μ Q := e_aload_n (by decide +kernel : decode (bOf 89) 157 = .ok (.aload_n 0, 1)) rfl
theorem x_89_158 (h : kd t r = 5) : Ev d 89 158 L (.ref r :: st) (t, V, A, P) Q = Ev d 89 161 L (V r 13 :: st) (t, V, A, P) Q := e_getf (by decide +kernel : decode (bOf 89) 158 = .ok (.getfield 89, 3)) (by decide +kernel) (by decide +kernel) h
theorem x_89_161 : Ev d 89 161 (.ref r :: L) st μ Q = Ev d 89 162 (.ref r :: L) (.ref r :: st) μ Q := e_aload_n (by decide +kernel : decode (bOf 89) 161 = .ok (.aload_n 0, 1)) rfl
theorem x_89_162 (h : kd t r = 5) : Ev d 89 162 L (.ref r :: st) (t, V, A, P) Q = Ev d 89 165 L (V r 14 :: st) (t, V, A, P) Q := e_getf (by decide +kernel : decode (bOf 89) 162 = .ok (.getfield 95, 3)) (by decide +kernel) (by decide +kernel) h
theorem x_89_165 : Ev d 89 165 L (.int y :: .int x :: st) μ Q = Ev d 89 166 L (.int (x - y) :: st) μ Q := e_isub (by decide +kernel : decode (bOf 89) 165 = .ok (.isub, 1))
theorem x_89_166 : Ev d 89 166 L st μ Q = Ev d 89 167 L (.int (iI 1) :: st) μ Q := e_iconst (by decide +kernel : decode (bOf 89) 166 = .ok (.iconst 1, 1))
theorem x_89_167 : Ev d 89 167 L (.int y :: .int x :: st) μ Q = if y < x then Ev d 89 170 L st μ Q else Ev d 89 174 L st μ Q := e_icmp_le (by decide +kernel : decode (bOf 89) 167 = .ok (.if_icmp .le 7, 3)) (by omega)
theorem x_89_170 : Ev d 89 170 L st μ Q = Ev d 89 171 L (.int (iI 4) :: st) μ Q := e_iconst (by decide +kernel : decode (bOf 89) 170 = .ok (.iconst 4, 1))
theorem x_89_171 : Ev d 89 171 L st μ Q = Ev d 89 175 L st μ Q := e_goto (by decide +kernel : decode (bOf 89) 171 = .ok (.goto 4, 3)) (by omega)
theorem x_89_174 : Ev d 89 174 L st μ Q = Ev d 89 175 L (.int (iI 2) :: st) μ Q := e_iconst (by decide +kernel : decode (bOf 89) 174 = .ok (.iconst 2, 1))
theorem x_89_175 (h : kd t r = 5) : Ev d 89 175 L (.int x :: .ref r :: st) (t, V, A, P) Q = Ev d 89 178 L st (t, up1 V r (up1 (V r) 15 (.int x)), A, P) Q := e_putf (by decide +kernel : decode (bOf 89) 175 = .ok (.putfield 98, 3)) (by decide +kernel) (by decide +kernel) rfl h
theorem x_89_178 : Ev d 89 178 L st μ Q = Ev d 89 227 L st μ Q := e_goto (by decide +kernel : decode (bOf 89) 178 = .ok (.goto 49, 3)) (by omega)
theorem x_89_181 : Ev d 89 181 (.ref r :: L) st μ Q = Ev d 89 182 (.ref r :: L) (.ref r :: st) μ Q := e_aload_n (by decide +kernel : decode (bOf 89) 181 = .ok (.aload_n 0, 1)) rfl
theorem x_89_182 : Ev d 89 182 L (.ref r :: st) μ Q = Ev d 89 183 L (.ref r :: .ref r :: st) μ Q := e_dup_a (by decide +kernel : decode (bOf 89) 182 = .ok (.dup, 1))
theorem x_89_183 (h : kd t r = 5) : Ev d 89 183 L (.ref r :: st) (t, V, A, P) Q = Ev d 89 186 L (V r 13 :: st) (t, V, A, P) Q := e_getf (by decide +kernel : decode (bOf 89) 183 = .ok (.getfield 89, 3)) (by decide +kernel) (by decide +kernel) h
theorem x_89_186 : Ev d 89 186 L st μ Q = Ev d 89 187 L (.int (iI 1) :: st) μ Q := e_iconst (by decide +kernel : decode (bOf 89) 186 = .ok (.iconst 1, 1))
theorem x_89_187 : Ev d 89 187 L (.int y :: .int x :: st) μ Q = Ev d 89 188 L (.int (x + y) :: st) μ Q := e_iadd (by decide +kernel : decode (bOf 89) 187 = .ok (.iadd, 1))
theorem x_89_188 (h : kd t r = 5) : Ev d 89 188 L (.int x :: .ref r :: st) (t, V, A, P) Q = Ev d 89 191 L st (t, up1 V r (up1 (V r) 13 (.int x)), A, P) Q := e_putf (by decide +kernel : decode (bOf 89) 188 = .ok (.putfield 89, 3)) (by decide +kernel) (by decide +kernel) rfl h
theorem x_89_191 : Ev d 89 191 (.ref r :: L) st μ Q = Ev d 89 192 (.ref r :: L) (.ref r :: st) μ Q := e_aload_n (by decide +kernel : decode (bOf 89) 191 = .ok (.aload_n 0, 1)) rfl
theorem x_89_192 : Ev d 89 192 (a0 :: .int x :: L) st μ Q = Ev d 89 193 (a0 :: .int x :: L) (.int x :: st) μ Q := e_iload_n (by decide +kernel : decode (bOf 89) 192 = .ok (.iload_n 1, 1)) rfl
theorem x_89_193 (h : kd t r = 5) : Ev d 89 193 L (.int x :: .ref r :: st) (t, V, A, P) Q = Ev d 89 196 L st (t, up1 V r (up1 (V r) 16 (.int x)), A, P) Q := e_putf (by decide +kernel : decode (bOf 89) 193 = .ok (.putfield 101, 3)) (by decide +kernel) (by decide +kernel) rfl h
theorem x_89_196 : Ev d 89 196 (.ref r :: L) st μ Q = Ev d 89 197 (.ref r :: L) (.ref r :: st) μ Q := e_aload_n (by decide +kernel : decode (bOf 89) 196 = .ok (.aload_n 0, 1)) rfl
theorem x_89_197 : Ev d 89 197 (a0 :: .int x :: L) st μ Q = Ev d 89 198 (a0 :: .int x :: L) (.int x :: st) μ Q := e_iload_n (by decide +kernel : decode (bOf 89) 197 = .ok (.iload_n 1, 1)) rfl
theorem x_89_198 : Ev d 89 198 L st μ Q = Ev d 89 200 L (.int (iI 59) :: st) μ Q := e_bipush (by decide +kernel : decode (bOf 89) 198 = .ok (.bipush 59, 2)) (by decide +kernel)
theorem x_89_200 : Ev d 89 200 L (.int y :: .int x :: st) μ Q = if x = y then Ev d 89 203 L st μ Q else Ev d 89 207 L st μ Q := e_icmp_ne (by decide +kernel : decode (bOf 89) 200 = .ok (.if_icmp .ne 7, 3)) (by omega)
theorem x_89_203 : Ev d 89 203 L st μ Q = Ev d 89 204 L (.int (iI 3) :: st) μ Q := e_iconst (by decide +kernel : decode (bOf 89) 203 = .ok (.iconst 3, 1))
theorem x_89_204 : Ev d 89 204 L st μ Q = Ev d 89 224 L st μ Q := e_goto (by decide +kernel : decode (bOf 89) 204 = .ok (.goto 20, 3)) (by omega)
theorem x_89_207 : Ev d 89 207 (a0 :: .int x :: L) st μ Q = Ev d 89 208 (a0 :: .int x :: L) (.int x :: st) μ Q := e_iload_n (by decide +kernel : decode (bOf 89) 207 = .ok (.iload_n 1, 1)) rfl
theorem x_89_208 : Ev d 89 208 L st μ Q = Ev d 89 210 L (.int (iI 100) :: st) μ Q := e_bipush (by decide +kernel : decode (bOf 89) 208 = .ok (.bipush 100, 2)) (by decide +kernel)
theorem x_89_210 : Ev d 89 210 L (.int y :: .int x :: st) μ Q = if x = y then Ev d 89 219 L st μ Q else Ev d 89 213 L st μ Q := e_icmp_eq (by decide +kernel : decode (bOf 89) 210 = .ok (.if_icmp .eq 9, 3)) (by omega)
theorem x_89_213 : Ev d 89 213 (a0 :: .int x :: L) st μ Q = Ev d 89 214 (a0 :: .int x :: L) (.int x :: st) μ Q := e_iload_n (by decide +kernel : decode (bOf 89) 213 = .ok (.iload_n 1, 1)) rfl
theorem x_89_214 : Ev d 89 214 L st μ Q = Ev d 89 216 L (.int (iI 107) :: st) μ Q := e_bipush (by decide +kernel : decode (bOf 89) 214 = .ok (.bipush 107, 2)) (by decide +kernel)
theorem x_89_216 : Ev d 89 216 L (.int y :: .int x :: st) μ Q = if x = y then Ev d 89 219 L st μ Q else Ev d 89 223 L st μ Q := e_icmp_ne (by decide +kernel : decode (bOf 89) 216 = .ok (.if_icmp .ne 7, 3)) (by omega)
theorem x_89_219 : Ev d 89 219 L st μ Q = Ev d 89 220 L (.int (iI 1) :: st) μ Q := e_iconst (by decide +kernel : decode (bOf 89) 219 = .ok (.iconst 1, 1))
theorem x_89_220 : Ev d 89 220 L st μ Q = Ev d 89 224 L st μ Q := e_goto (by decide +kernel : decode (bOf 89) 220 = .ok (.goto 4, 3)) (by omega)
theorem x_89_223 : Ev d 89 223 L st μ Q = Ev d 89 224 L (.int (iI 4) :: st) μ Q := e_iconst (by decide +kernel : decode (bOf 89) 223 = .ok (.iconst 4, 1))
theorem x_89_224 (h : kd t r = 5) : Ev d 89 224 L (.int x :: .ref r :: st) (t, V, A, P) Q = Ev d 89 227 L st (t, up1 V r (up1 (V r) 15 (.int x)), A, P) Q := e_putf (by decide +kernel : decode (bOf 89) 224 = .ok (.putfield 98, 3)) (by decide +kernel) (by decide +kernel) rfl h
theorem x_89_227 : Ev d 89 227 L [] μ Q = Q none μ := e_ret (by decide +kernel : decode (bOf 89) 227 = .ok (.return_, 1)) (by decide +kernel)
theorem c_90 : Call (d + 1) 90 [.ref r0, .int i1] μ Q = Ev d 90 0 [.ref r0, .int i1, .null] [] μ Q := call_ev rfl rfl
theorem x_90_0 : Ev d 90 0 (.ref r :: L) st μ Q = Ev d 90 1 (.ref r :: L) (.ref r :: st) μ Q := e_aload_n (by decide +kernel : decode (bOf 90) 0 = .ok (.aload_n 0, 1)) rfl
theorem x_90_1 (h : kd t r = 5) : Ev d 90 1 L (.ref r :: st) (t, V, A, P) Q = Ev d 90 4 L (V r 16 :: st) (t, V, A, P) Q := e_getf (by decide +kernel : decode (bOf 90) 1 = .ok (.getfield 101, 3)) (by decide +kernel) (by decide +kernel) h
theorem x_90_4 (h : a1.category = 1) : Ev d 90 4 (a0 :: a1 :: a2 :: L) (.int x :: st) μ Q = Ev d 90 5 (a0 :: a1 :: .int x :: L) st μ Q := e_istore_n (by decide +kernel : decode (bOf 90) 4 = .ok (.istore_n 2, 1)) (by show stOK _ 2 = true; simp [stOK, h])
theorem x_90_5 : Ev d 90 5 (.ref r :: L) st μ Q = Ev d 90 6 (.ref r :: L) (.ref r :: st) μ Q := e_aload_n (by decide +kernel : decode (bOf 90) 5 = .ok (.aload_n 0, 1)) rfl
theorem x_90_6 (h : kd t r = 5) : Ev d 90 6 L (.ref r :: st) (t, V, A, P) Q = Ev d 90 9 L (V r 17 :: st) (t, V, A, P) Q := e_getf (by decide +kernel : decode (bOf 90) 6 = .ok (.getfield 104, 3)) (by decide +kernel) (by decide +kernel) h
theorem x_90_9 : Ev d 90 9 L st μ Q = Ev d 90 11 L (.int (iI (-9)) :: st) μ Q := e_bipush (by decide +kernel : decode (bOf 90) 9 = .ok (.bipush (-9), 2)) (by decide +kernel)
theorem x_90_11 : Ev d 90 11 L (.int y :: .int x :: st) μ Q = if x = y then Ev d 90 14 L st μ Q else Ev d 90 33 L st μ Q := e_icmp_ne (by decide +kernel : decode (bOf 90) 11 = .ok (.if_icmp .ne 22, 3)) (by omega)
theorem x_90_14 : Ev d 90 14 (a0 :: .int x :: L) st μ Q = Ev d 90 15 (a0 :: .int x :: L) (.int x :: st) μ Q := e_iload_n (by decide +kernel : decode (bOf 90) 14 = .ok (.iload_n 1, 1)) rfl
theorem x_90_15 : Ev d 90 15 L (.int x :: st) μ Q = if x = iI 0 then Ev d 90 25 L st μ Q else Ev d 90 18 L st μ Q := e_if_eq (by decide +kernel : decode (bOf 90) 15 = .ok (.ifCond .eq 10, 3)) (by omega)
theorem x_90_18 : Ev d 90 18 (.ref r :: L) st μ Q = Ev d 90 19 (.ref r :: L) (.ref r :: st) μ Q := e_aload_n (by decide +kernel : decode (bOf 90) 18 = .ok (.aload_n 0, 1)) rfl
theorem x_90_19 (h : kd t r = 5) : Ev d 90 19 L [.ref r] (t, V, A, P) Q = Call d 89 [.ref r] (t, V, A, P) (fun v μ1 => Ev d 90 22 L (v.toList ++ []) μ1 Q) := e_callV (a := []) (r := []) (by decide +kernel : decode (bOf 90) 19 = .ok (.invokevirtual 107, 3)) (by decide +kernel) (by decide +kernel) (by decide +kernel) (by omega) rfl (by simp) (by decide +kernel) h
theorem x_90_22 : Ev d 90 22 L st μ Q = Ev d 90 33 L st μ Q := e_goto (by decide +kernel : decode (bOf 90) 22 = .ok (.goto 11, 3)) (by omega)
theorem x_90_25 : Ev d 90 25 (.ref r :: L) st μ Q = Ev d 90 26 (.ref r :: L) (.ref r :: st) μ Q := e_aload_n (by decide +kernel : decode (bOf 90) 25 = .ok (.aload_n 0, 1)) rfl
theorem x_90_26 : Ev d 90 26 (.ref r :: L) st μ Q = Ev d 90 27 (.ref r :: L) (.ref r :: st) μ Q := e_aload_n (by decide +kernel : decode (bOf 90) 26 = .ok (.aload_n 0, 1)) rfl
theorem x_90_27 (h : kd t r = 5) : Ev d 90 27 L (.ref r :: st) (t, V, A, P) Q = Ev d 90 30 L (V r 14 :: st) (t, V, A, P) Q := e_getf (by decide +kernel : decode (bOf 90) 27 = .ok (.getfield 95, 3)) (by decide +kernel) (by decide +kernel) h
theorem x_90_30 (h : kd t r = 5) : Ev d 90 30 L (.int x :: .ref r :: st) (t, V, A, P) Q = Ev d 90 33 L st (t, up1 V r (up1 (V r) 17 (.int x)), A, P) Q := e_putf (by decide +kernel : decode (bOf 90) 30 = .ok (.putfield 104, 3)) (by decide +kernel) (by decide +kernel) rfl h
theorem x_90_33 : Ev d 90 33 (a0 :: a1 :: .int x :: L) st μ Q = Ev d 90 34 (a0 :: a1 :: .int x :: L) (.int x :: st) μ Q := e_iload_n (by decide +kernel : decode (bOf 90) 33 = .ok (.iload_n 2, 1)) rfl
theorem x_90_34 : Ev d 90 34 L [.int x] μ Q = Q (some (.int x)) μ := e_iret (by decide +kernel : decode (bOf 90) 34 = .ok (.ireturn, 1)) (by decide +kernel)
theorem c_91 : Call (d + 1) 91 [.ref r0] μ Q = Ev d 91 0 [.ref r0, .null, .null] [] μ Q := call_ev rfl rfl
theorem x_91_0 : Ev d 91 0 (.ref r :: L) st μ Q = Ev d 91 1 (.ref r :: L) (.ref r :: st) μ Q := e_aload_n (by decide +kernel : decode (bOf 91) 0 = .ok (.aload_n 0, 1)) rfl
theorem x_91_1 : Ev d 91 1 L st μ Q = Ev d 91 3 L (.int (iI (-9)) :: st) μ Q := e_bipush (by decide +kernel : decode (bOf 91) 1 = .ok (.bipush (-9), 2)) (by decide +kernel)
theorem x_91_3 (h : kd t r = 5) : Ev d 91 3 L (.int x :: .ref r :: st) (t, V, A, P) Q = Ev d 91 6 L st (t, up1 V r (up1 (V r) 17 (.int x)), A, P) Q := e_putf (by decide +kernel : decode (bOf 91) 3 = .ok (.putfield 104, 3)) (by decide +kernel) (by decide +kernel) rfl h
theorem x_91_6 : Ev d 91 6 (.ref r :: L) st μ Q = Ev d 91 7 (.ref r :: L) (.ref r :: st) μ Q := e_aload_n (by decide +kernel : decode (bOf 91) 6 = .ok (.aload_n 0, 1)) rfl
theorem x_91_7 : Ev d 91 7 L st μ Q = Ev d 91 8 L (.int (iI 0) :: st) μ Q := e_iconst (by decide +kernel : decode (bOf 91) 7 = .ok (.iconst 0, 1))
theorem x_91_8 (h : kd t r = 5) : Ev d 91 8 L (.int x :: .ref r :: st) (t, V, A, P) Q = Ev d 91 11 L st (t, up1 V r (up1 (V r) 13 (.int x)), A, P) Q := e_putf (by decide +kernel : decode (bOf 91) 8 = .ok (.putfield 89, 3)) (by decide +kernel) (by decide +kernel) rfl h
theorem x_91_11 : Ev d 91 11 (.ref r :: L) st μ Q = Ev d 91 12 (.ref r :: L) (.ref r :: st) μ Q := e_aload_n (by decide +kernel : decode (bOf 91) 11 = .ok (.aload_n 0, 1)) rfl
theorem x_91_12 : Ev d 91 12 L st μ Q = Ev d 91 13 L (.int (iI 0) :: st) μ Q := e_iconst (by decide +kernel : decode (bOf 91) 12 = .ok (.iconst 0, 1))
theorem x_91_13 (h : kd t r = 5) : Ev d 91 13 L (.int x :: .ref r :: st) (t, V, A, P) Q = Ev d 91 16 L st (t, up1 V r (up1 (V r) 9 (.int x)), A, P) Q := e_putf (by decide +kernel : decode (bOf 91) 13 = .ok (.putfield 110, 3)) (by decide +kernel) (by decide +kernel) rfl h
theorem x_91_16 : Ev d 91 16 (.ref r :: L) st μ Q = Ev d 91 17 (.ref r :: L) (.ref r :: st) μ Q := e_aload_n (by decide +kernel : decode (bOf 91) 16 = .ok (.aload_n 0, 1)) rfl
theorem x_91_17 (h : kd t r = 5) : Ev d 91 17 L [.ref r] (t, V, A, P) Q = Call d 89 [.ref r] (t, V, A, P) (fun v μ1 => Ev d 91 20 L (v.toList ++ []) μ1 Q) := e_callV (a := []) (r := []) (by decide +kernel : decode (bOf 91) 17 = .ok (.invokevirtual 107, 3)) (by decide +kernel) (by decide +kernel) (by decide +kernel) (by omega) rfl (by simp) (by decide +kernel) h
theorem x_91_20 : Ev d 91 20 (.ref r :: L) st μ Q = Ev d 91 21 (.ref r :: L) (.ref r :: st) μ Q := e_aload_n (by decide +kernel : decode (bOf 91) 20 = .ok (.aload_n 0, 1)) rfl
theorem x_91_21 (h : kd t r = 5) : Ev d 91 21 L (.ref r :: st) (t, V, A, P) Q = Ev d 91 24 L (V r 17 :: st) (t, V, A, P) Q := e_getf (by decide +kernel : decode (bOf 91) 21 = .ok (.getfield 104, 3)) (by decide +kernel) (by decide +kernel) h
theorem x_91_24 : Ev d 91 24 L st μ Q = Ev d 91 26 L (.int (iI (-9)) :: st) μ Q := e_bipush (by decide +kernel : decode (bOf 91) 24 = .ok (.bipush (-9), 2)) (by decide +kernel)
theorem x_91_26 : Ev d 91 26 L (.int y :: .int x :: st) μ Q = if x = y then Ev d 91 29 L st μ Q else Ev d 91 162 L st μ Q := e_icmp_ne (by decide +kernel : decode (bOf 91) 26 = .ok (.if_icmp .ne 136, 3)) (by omega)
theorem x_91_29 : Ev d 91 29 (.ref r :: L) st μ Q = Ev d 91 30 (.ref r :: L) (.ref r :: st) μ Q := e_aload_n (by decide +kernel : decode (bOf 91) 29 = .ok (.aload_n 0, 1)) rfl
theorem x_91_30 (h : kd t r = 5) : Ev d 91 30 L (.ref r :: st) (t, V, A, P) Q = Ev d 91 33 L (V r 15 :: st) (t, V, A, P) Q := e_getf (by decide +kernel : decode (bOf 91) 30 = .ok (.getfield 98, 3)) (by decide +kernel) (by decide +kernel) h
theorem x_91_33 : Ev d 91 33 L (.int x :: st) μ Q = if x = iI 0 then Ev d 91 36 L st μ Q else Ev d 91 43 L st μ Q := e_if_ne (by decide +kernel : decode (bOf 91) 33 = .ok (.ifCond .ne 10, 3)) (by omega)
theorem x_91_36 : Ev d 91 36 (.ref r :: L) st μ Q = Ev d 91 37 (.ref r :: L) (.ref r :: st) μ Q := e_aload_n (by decide +kernel : decode (bOf 91) 36 = .ok (.aload_n 0, 1)) rfl
theorem x_91_37 (h : kd t r = 5) : Ev d 91 37 L (.ref r :: st) (t, V, A, P) Q = Ev d 91 40 L (V r 9 :: st) (t, V, A, P) Q := e_getf (by decide +kernel : decode (bOf 91) 37 = .ok (.getfield 110, 3)) (by decide +kernel) (by decide +kernel) h
theorem x_91_40 : Ev d 91 40 L (.int x :: st) μ Q = if x = iI 0 then Ev d 91 43 L st μ Q else Ev d 91 162 L st μ Q := e_if_ne (by decide +kernel : decode (bOf 91) 40 = .ok (.ifCond .ne 122, 3)) (by omega)
theorem x_91_43 : Ev d 91 43 (.ref r :: L) st μ Q = Ev d 91 44 (.ref r :: L) (.ref r :: st) μ Q := e_aload_n (by decide +kernel : decode (bOf 91) 43 = .ok (.aload_n 0, 1)) rfl
theorem x_91_44 : Ev d 91 44 (.ref r :: L) st μ Q = Ev d 91 45 (.ref r :: L) (.ref r :: st) μ Q := e_aload_n (by decide +kernel : decode (bOf 91) 44 = .ok (.aload_n 0, 1)) rfl
theorem x_91_45 (h : kd t r = 5) : Ev d 91 45 L (.ref r :: st) (t, V, A, P) Q = Ev d 91 48 L (V r 15 :: st) (t, V, A, P) Q := e_getf (by decide +kernel : decode (bOf 91) 45 = .ok (.getfield 98, 3)) (by decide +kernel) (by decide +kernel) h
theorem x_91_48 : Ev d 91 48 L st μ Q = Ev d 91 49 L (.int (iI 1) :: st) μ Q := e_iconst (by decide +kernel : decode (bOf 91) 48 = .ok (.iconst 1, 1))
theorem x_91_49 : Ev d 91 49 L (.int y :: .int x :: st) μ Q = if x = y then Ev d 91 52 L st μ Q else Ev d 91 56 L st μ Q := e_icmp_ne (by decide +kernel : decode (bOf 91) 49 = .ok (.if_icmp .ne 7, 3)) (by omega)
theorem x_91_52 : Ev d 91 52 L st μ Q = Ev d 91 53 L (.int (iI 1) :: st) μ Q := e_iconst (by decide +kernel : decode (bOf 91) 52 = .ok (.iconst 1, 1))
theorem x_91_53 : Ev d 91 53 L st μ Q = Ev d 91 57 L st μ Q := e_goto (by decide +kernel : decode (bOf 91) 53 = .ok (.goto 4, 3)) (by omega)
theorem x_91_56 : Ev d 91 56 L st μ Q = Ev d 91 57 L (.int (iI 0) :: st) μ Q := e_iconst (by decide +kernel : decode (bOf 91) 56 = .ok (.iconst 0, 1))
theorem x_91_57 (h : kd t r = 5) : Ev d 91 57 L [b0, .ref r] (t, V, A, P) Q = Call d 90 [.ref r, b0] (t, V, A, P) (fun v μ1 => Ev d 91 60 L (v.toList ++ []) μ1 Q) := e_callV (a := [b0]) (r := []) (by decide +kernel : decode (bOf 91) 57 = .ok (.invokevirtual 113, 3)) (by decide +kernel) (by decide +kernel) (by decide +kernel) (by omega) rfl (by simp) (by decide +kernel) h
theorem x_91_60 : Ev d 91 60 L st μ Q = Ev d 91 62 L (.int (iI 100) :: st) μ Q := e_bipush (by decide +kernel : decode (bOf 91) 60 = .ok (.bipush 100, 2)) (by decide +kernel)
theorem x_91_62 : Ev d 91 62 L (.int y :: .int x :: st) μ Q = if x = y then Ev d 91 65 L st μ Q else Ev d 91 69 L st μ Q := e_icmp_ne (by decide +kernel : decode (bOf 91) 62 = .ok (.if_icmp .ne 7, 3)) (by omega)
theorem x_91_65 : Ev d 91 65 L st μ Q = Ev d 91 66 L (.int (iI 1) :: st) μ Q := e_iconst (by decide +kernel : decode (bOf 91) 65 = .ok (.iconst 1, 1))
theorem x_91_66 : Ev d 91 66 L st μ Q = Ev d 91 70 L st μ Q := e_goto (by decide +kernel : decode (bOf 91) 66 = .ok (.goto 4, 3)) (by omega)
theorem x_91_69 : Ev d 91 69 L st μ Q = Ev d 91 70 L (.int (iI 0) :: st) μ Q := e_iconst (by decide +kernel : decode (bOf 91) 69 = .ok (.iconst 0, 1))
theorem x_91_70 (h : a0.category = 1) : Ev d 91 70 (a0 :: a1 :: L) (.int x :: st) μ Q = Ev d 91 71 (a0 :: .int x :: L) st μ Q := e_istore_n (by decide +kernel : decode (bOf 91) 70 = .ok (.istore_n 1, 1)) (by show stOK _ 1 = true; simp [stOK, h])
theorem x_91_71 : Ev d 91 71 (.ref r :: L) st μ Q = Ev d 91 72 (.ref r :: L) (.ref r :: st) μ Q := e_aload_n (by decide +kernel : decode (bOf 91) 71 = .ok (.aload_n 0, 1)) rfl
theorem x_91_72 : Ev d 91 72 (.ref r :: L) st μ Q = Ev d 91 73 (.ref r :: L) (.ref r :: st) μ Q := e_aload_n (by decide +kernel : decode (bOf 91) 72 = .ok (.aload_n 0, 1)) rfl
theorem x_91_73 (h : kd t r = 5) : Ev d 91 73 L (.ref r :: st) (t, V, A, P) Q = Ev d 91 76 L (V r 15 :: st) (t, V, A, P) Q := e_getf (by decide +kernel : decode (bOf 91) 73 = .ok (.getfield 98, 3)) (by decide +kernel) (by decide +kernel) h
theorem x_91_76 : Ev d 91 76 L st μ Q = Ev d 91 77 L (.int (iI 2) :: st) μ Q := e_iconst (by decide +kernel : decode (bOf 91) 76 = .ok (.iconst 2, 1))
theorem x_91_77 : Ev d 91 77 L (.int y :: .int x :: st) μ Q = if x = y then Ev d 91 80 L st μ Q else Ev d 91 105 L st μ Q := e_icmp_ne (by decide +kernel : decode (bOf 91) 77 = .ok (.if_icmp .ne 28, 3)) (by omega)
theorem x_91_80 : Ev d 91 80 (.ref r :: L) st μ Q = Ev d 91 81 (.ref r :: L) (.ref r :: st) μ Q := e_aload_n (by decide +kernel : decode (bOf 91) 80 = .ok (.aload_n 0, 1)) rfl
theorem x_91_81 (h : kd t r = 5) : Ev d 91 81 L (.ref r :: st) (t, V, A, P) Q = Ev d 91 84 L (V r 16 :: st) (t, V, A, P) Q := e_getf (by decide +kernel : decode (bOf 91) 81 = .ok (.getfield 101, 3)) (by decide +kernel) (by decide +kernel) h
theorem x_91_84 : Ev d 91 84 L st μ Q = Ev d 91 85 L (.int (iI 0) :: st) μ Q := e_iconst (by decide +kernel : decode (bOf 91) 84 = .ok (.iconst 0, 1))
theorem x_91_85 : Ev d 91 85 (a0 :: .int x :: L) st μ Q = Ev d 91 86 (a0 :: .int x :: L) (.int x :: st) μ Q := e_iload_n (by decide +kernel : decode (bOf 91) 85 = .ok (.iload_n 1, 1)) rfl
theorem x_91_86 : Ev d 91 86 L (.int x :: st) μ Q = if x = iI 0 then Ev d 91 94 L st μ Q else Ev d 91 89 L st μ Q := e_if_eq (by decide +kernel : decode (bOf 91) 86 = .ok (.ifCond .eq 8, 3)) (by omega)
theorem x_91_89 : Ev d 91 89 L st μ Q = Ev d 91 91 L (.int (iI 30) :: st) μ Q := e_bipush (by decide +kernel : decode (bOf 91) 89 = .ok (.bipush 30, 2)) (by decide +kernel)
theorem x_91_91 : Ev d 91 91 L st μ Q = Ev d 91 95 L st μ Q := e_goto (by decide +kernel : decode (bOf 91) 91 = .ok (.goto 4, 3)) (by omega)
theorem x_91_94 : Ev d 91 94 L st μ Q = Ev d 91 95 L (.int (iI 2) :: st) μ Q := e_iconst (by decide +kernel : decode (bOf 91) 94 = .ok (.iconst 2, 1))
theorem x_91_95 : Ev d 91 95 L [b2, b1, b0, s0] μ Q = Call d 80 [b0, b1, b2] μ (fun v μ1 => Ev d 91 98 L (v.toList ++ [s0]) μ1 Q) := e_callS (a := [b0, b1, b2]) (r := [s0]) (by decide +kernel : decode (bOf 91) 95 = .ok (.invokestatic 85, 3)) (by decide +kernel) (by decide +kernel) (by omega) rfl (by simp)
theorem x_91_98 : Ev d 91 98 L (.int x :: st) μ Q = if x = iI 0 then Ev d 91 105 L st μ Q else Ev d 91 101 L st μ Q := e_if_eq (by decide +kernel : decode (bOf 91) 98 = .ok (.ifCond .eq 7, 3)) (by omega)
theorem x_91_101 : Ev d 91 101 L st μ Q = Ev d 91 102 L (.int (iI 1) :: st) μ Q := e_iconst (by decide +kernel : decode (bOf 91) 101 = .ok (.iconst 1, 1))
theorem x_91_102 : Ev d 91 102 L st μ Q = Ev d 91 106 L st μ Q := e_goto (by decide +kernel : decode (bOf 91) 102 = .ok (.goto 4, 3)) (by omega)
theorem x_91_105 : Ev d 91 105 L st μ Q = Ev d 91 106 L (.int (iI 0) :: st) μ Q := e_iconst (by decide +kernel : decode (bOf 91) 105 = .ok (.iconst 0, 1))
theorem x_91_106 (h : kd t r = 5) : Ev d 91 106 L [b0, .ref r] (t, V, A, P) Q = Call d 90 [.ref r, b0] (t, V, A, P) (fun v μ1 => Ev d 91 109 L (v.toList ++ []) μ1 Q) := e_callV (a := [b0]) (r := []) (by decide +kernel : decode (bOf 91) 106 = .ok (.invokevirtual 113, 3)) (by decide +kernel) (by decide +kernel) (by decide +kernel) (by omega) rfl (by simp) (by decide +kernel) h
theorem x_91_109 (h : a1.category = 1) : Ev d 91 109 (a0 :: a1 :: a2 :: L) (.int x :: st) μ Q = Ev d 91 110 (a0 :: a1 :: .int x :: L) st μ Q := e_istore_n (by decide +kernel : decode (bOf 91) 109 = .ok (.istore_n 2, 1)) (by show stOK _ 2 = true; simp [stOK, h])
theorem x_91_110 : Ev d 91 110 (.ref r :: L) st μ Q = Ev d 91 111 (.ref r :: L) (.ref r :: st) μ Q := e_aload_n (by decide +kernel : decode (bOf 91) 110 = .ok (.aload_n 0, 1)) rfl
theorem x_91_111 : Ev d 91 111 (.ref r :: L) st μ Q = Ev d 91 112 (.ref r :: L) (.ref r :: st) μ Q := e_aload_n (by decide +kernel : decode (bOf 91) 111 = .ok (.aload_n 0, 1)) rfl
theorem x_91_112 (h : kd t r = 5) : Ev d 91 112 L (.ref r :: st) (t, V, A, P) Q = Ev d 91 115 L (V r 15 :: st) (t, V, A, P) Q := e_getf (by decide +kernel : decode (bOf 91) 112 = .ok (.getfield 98, 3)) (by decide +kernel) (by decide +kernel) h
theorem x_91_115 : Ev d 91 115 L st μ Q = Ev d 91 116 L (.int (iI 3) :: st) μ Q := e_iconst (by decide +kernel : decode (bOf 91) 115 = .ok (.iconst 3, 1))
theorem x_91_116 : Ev d 91 116 L (.int y :: .int x :: st) μ Q = if x = y then Ev d 91 119 L st μ Q else Ev d 91 123 L st μ Q := e_icmp_ne (by decide +kernel : decode (bOf 91) 116 = .ok (.if_icmp .ne 7, 3)) (by omega)
theorem x_91_119 : Ev d 91 119 L st μ Q = Ev d 91 120 L (.int (iI 1) :: st) μ Q := e_iconst (by decide +kernel : decode (bOf 91) 119 = .ok (.iconst 1, 1))
theorem x_91_120 : Ev d 91 120 L st μ Q = Ev d 91 124 L st μ Q := e_goto (by decide +kernel : decode (bOf 91) 120 = .ok (.goto 4, 3)) (by omega)
theorem x_91_123 : Ev d 91 123 L st μ Q = Ev d 91 124 L (.int (iI 0) :: st) μ Q := e_iconst (by decide +kernel : decode (bOf 91) 123 = .ok (.iconst 0, 1))
theorem x_91_124 (h : kd t r = 5) : Ev d 91 124 L [b0, .ref r] (t, V, A, P) Q = Call d 90 [.ref r, b0] (t, V, A, P) (fun v μ1 => Ev d 91 127 L (v.toList ++ []) μ1 Q) := e_callV (a := [b0]) (r := []) (by decide +kernel : decode (bOf 91) 124 = .ok (.invokevirtual 113, 3)) (by decide +kernel) (by decide +kernel) (by decide +kernel) (by omega) rfl (by simp) (by decide +kernel) h
theorem x_91_127 : Ev d 91 127 L (.int x :: st) μ Q = Ev d 91 128 L st μ Q := e_pop (by decide +kernel : decode (bOf 91) 127 = .ok (.pop, 1))
theorem x_91_128 : Ev d 91 128 (.ref r :: L) st μ Q = Ev d 91 129 (.ref r :: L) (.ref r :: st) μ Q := e_aload_n (by decide +kernel : decode (bOf 91) 128 = .ok (.aload_n 0, 1)) rfl
theorem x_91_129 (h : kd t r = 5) : Ev d 91 129 L (.ref r :: st) (t, V, A, P) Q = Ev d 91 132 L (V r 8 :: st) (t, V, A, P) Q := e_getf (by decide +kernel : decode (bOf 91) 129 = .ok (.getfield 26, 3)) (by decide +kernel) (by decide +kernel) h
theorem x_91_132 : Ev d 91 132 (.ref r :: L) st μ Q = Ev d 91 133 (.ref r :: L) (.ref r :: st) μ Q := e_aload_n (by decide +kernel : decode (bOf 91) 132 = .ok (.aload_n 0, 1)) rfl
theorem x_91_133 (h : kd t r = 5) : Ev d 91 133 L (.ref r :: st) (t, V, A, P) Q = Ev d 91 136 L (V r 9 :: st) (t, V, A, P) Q := e_getf (by decide +kernel : decode (bOf 91) 133 = .ok (.getfield 110, 3)) (by decide +kernel) (by decide +kernel) h
theorem x_91_136 : Ev d 91 136 (a0 :: .int x :: L) st μ Q = Ev d 91 137 (a0 :: .int x :: L) (.int x :: st) μ Q := e_iload_n (by decide +kernel : decode (bOf 91) 136 = .ok (.iload_n 1, 1)) rfl
theorem x_91_137 : Ev d 91 137 L (.int x :: st) μ Q = if x = iI 0 then Ev d 91 144 L st μ Q else Ev d 91 140 L st μ Q := e_if_eq (by decide +kernel : decode (bOf 91) 137 = .ok (.ifCond .eq 7, 3)) (by omega)
theorem x_91_140 : Ev d 91 140 (a0 :: a1 :: .int x :: L) st μ Q = Ev d 91 141 (a0 :: a1 :: .int x :: L) (.int x :: st) μ Q := e_iload_n (by decide +kernel : decode (bOf 91) 140 = .ok (.iload_n 2, 1)) rfl
theorem x_91_141 : Ev d 91 141 L st μ Q = Ev d 91 148 L st μ Q := e_goto (by decide +kernel : decode (bOf 91) 141 = .ok (.goto 7, 3)) (by omega)
theorem x_91_144 : Ev d 91 144 L st μ Q = Ev d 91 146 L (.int (iI 31) :: st) μ Q := e_bipush (by decide +kernel : decode (bOf 91) 144 = .ok (.bipush 31, 2)) (by decide +kernel)
theorem x_91_146 : Ev d 91 146 (a0 :: a1 :: .int x :: L) st μ Q = Ev d 91 147 (a0 :: a1 :: .int x :: L) (.int x :: st) μ Q := e_iload_n (by decide +kernel : decode (bOf 91) 146 = .ok (.iload_n 2, 1)) rfl
theorem x_91_147 : Ev d 91 147 L (.int y :: .int x :: st) μ Q = Ev d 91 148 L (.int (x + y) :: st) μ Q := e_iadd (by decide +kernel : decode (bOf 91) 147 = .ok (.iadd, 1))
theorem x_91_148 (h : kd t r = 6) (hi : inB x (ln t r) = true) : Ev d 91 148 L (.int y :: .int x :: .ref r :: st) (t, V, A, P) Q = Ev d 91 149 L st (t, V, up1 A r (upd (A r) x.toNatClampNeg y), P) Q := e_iast (by decide +kernel : decode (bOf 91) 148 = .ok (.iastore, 1)) h hi
theorem x_91_149 : Ev d 91 149 (.ref r :: L) st μ Q = Ev d 91 150 (.ref r :: L) (.ref r :: st) μ Q := e_aload_n (by decide +kernel : decode (bOf 91) 149 = .ok (.aload_n 0, 1)) rfl
theorem x_91_150 : Ev d 91 150 L (.ref r :: st) μ Q = Ev d 91 151 L (.ref r :: .ref r :: st) μ Q := e_dup_a (by decide +kernel : decode (bOf 91) 150 = .ok (.dup, 1))
theorem x_91_151 (h : kd t r = 5) : Ev d 91 151 L (.ref r :: st) (t, V, A, P) Q = Ev d 91 154 L (V r 9 :: st) (t, V, A, P) Q := e_getf (by decide +kernel : decode (bOf 91) 151 = .ok (.getfield 110, 3)) (by decide +kernel) (by decide +kernel) h
theorem x_91_154 : Ev d 91 154 L st μ Q = Ev d 91 155 L (.int (iI 1) :: st) μ Q := e_iconst (by decide +kernel : decode (bOf 91) 154 = .ok (.iconst 1, 1))
theorem x_91_155 : Ev d 91 155 L (.int y :: .int x :: st) μ Q = Ev d 91 156 L (.int (x + y) :: st) μ Q := e_iadd (by decide +kernel : decode (bOf 91) 155 = .ok (.iadd, 1))
theorem x_91_156 (h : kd t r = 5) : Ev d 91 156 L (.int x :: .ref r :: st) (t, V, A, P) Q = Ev d 91 159 L st (t, up1 V r (up1 (V r) 9 (.int x)), A, P) Q := e_putf (by decide +kernel : decode (bOf 91) 156 = .ok (.putfield 110, 3)) (by decide +kernel) (by decide +kernel) rfl h
theorem x_91_159 : Ev d 91 159 L st μ Q = Ev d 91 20 L st μ Q := e_goto (by decide +kernel : decode (bOf 91) 159 = .ok (.goto (-139), 3)) (by omega)
theorem x_91_162 : Ev d 91 162 L [] μ Q = Q none μ := e_ret (by decide +kernel : decode (bOf 91) 162 = .ok (.return_, 1)) (by decide +kernel)
theorem c_92 : Call (d + 1) 92 [.ref r0] μ Q = Ev d 92 0 [.ref r0, .null] [] μ Q := call_ev rfl rfl
theorem x_92_0 : Ev d 92 0 (.ref r :: L) st μ Q = Ev d 92 1 (.ref r :: L) (.ref r :: st) μ Q := e_aload_n (by decide +kernel : decode (bOf 92) 0 = .ok (.aload_n 0, 1)) rfl
theorem x_92_1 : Ev d 92 1 L st μ Q = Ev d 92 2 L (.int (iI 0) :: st) μ Q := e_iconst (by decide +kernel : decode (bOf 92) 1 = .ok (.iconst 0, 1))
theorem x_92_2 (h : kd t r = 5) : Ev d 92 2 L (.int x :: .ref r :: st) (t, V, A, P) Q = Ev d 92 5 L st (t, up1 V r (up1 (V r) 0 (.int x)), A, P) Q := e_putf (by decide +kernel : decode (bOf 92) 2 = .ok (.putfield 59, 3)) (by decide +kernel) (by decide +kernel) rfl h
theorem x_92_5 : Ev d 92 5 (.ref r :: L) st μ Q = Ev d 92 6 (.ref r :: L) (.ref r :: st) μ Q := e_aload_n (by decide +kernel : decode (bOf 92) 5 = .ok (.aload_n 0, 1)) rfl
theorem x_92_6 (h : kd t r = 5) : Ev d 92 6 L [.ref r] (t, V, A, P) Q = Call d 91 [.ref r] (t, V, A, P) (fun v μ1 => Ev d 92 9 L (v.toList ++ []) μ1 Q) := e_callV (a := []) (r := []) (by decide +kernel : decode (bOf 92) 6 = .ok (.invokevirtual 117, 3)) (by decide +kernel) (by decide +kernel) (by decide +kernel) (by omega) rfl (by simp) (by decide +kernel) h
theorem x_92_9 : Ev d 92 9 (.ref r :: L) st μ Q = Ev d 92 10 (.ref r :: L) (.ref r :: st) μ Q := e_aload_n (by decide +kernel : decode (bOf 92) 9 = .ok (.aload_n 0, 1)) rfl
theorem x_92_10 (h : kd t r = 5) : Ev d 92 10 L (.ref r :: st) (t, V, A, P) Q = Ev d 92 13 L (V r 17 :: st) (t, V, A, P) Q := e_getf (by decide +kernel : decode (bOf 92) 10 = .ok (.getfield 104, 3)) (by decide +kernel) (by decide +kernel) h
theorem x_92_13 : Ev d 92 13 L st μ Q = Ev d 92 15 L (.int (iI (-9)) :: st) μ Q := e_bipush (by decide +kernel : decode (bOf 92) 13 = .ok (.bipush (-9), 2)) (by decide +kernel)
theorem x_92_15 : Ev d 92 15 L (.int y :: .int x :: st) μ Q = if x = y then Ev d 92 26 L st μ Q else Ev d 92 18 L st μ Q := e_icmp_eq (by decide +kernel : decode (bOf 92) 15 = .ok (.if_icmp .eq 11, 3)) (by omega)
theorem x_92_18 : Ev d 92 18 L st μ Q = Ev d 92 20 L (.int (iI (-10)) :: st) μ Q := e_bipush (by decide +kernel : decode (bOf 92) 18 = .ok (.bipush (-10), 2)) (by decide +kernel)
theorem x_92_20 : Ev d 92 20 (.ref r :: L) st μ Q = Ev d 92 21 (.ref r :: L) (.ref r :: st) μ Q := e_aload_n (by decide +kernel : decode (bOf 92) 20 = .ok (.aload_n 0, 1)) rfl
theorem x_92_21 (h : kd t r = 5) : Ev d 92 21 L (.ref r :: st) (t, V, A, P) Q = Ev d 92 24 L (V r 17 :: st) (t, V, A, P) Q := e_getf (by decide +kernel : decode (bOf 92) 21 = .ok (.getfield 104, 3)) (by decide +kernel) (by decide +kernel) h
theorem x_92_24 : Ev d 92 24 L (.int y :: .int x :: st) μ Q = Ev d 92 25 L (.int (x - y) :: st) μ Q := e_isub (by decide +kernel : decode (bOf 92) 24 = .ok (.isub, 1))
theorem x_92_25 : Ev d 92 25 L [.int x] μ Q = Q (some (.int x)) μ := e_iret (by decide +kernel : decode (bOf 92) 25 = .ok (.ireturn, 1)) (by decide +kernel)
theorem x_92_26 : Ev d 92 26 (.ref r :: L) st μ Q = Ev d 92 27 (.ref r :: L) (.ref r :: st) μ Q := e_aload_n (by decide +kernel : decode (bOf 92) 26 = .ok (.aload_n 0, 1)) rfl
theorem x_92_27 (h : kd t r = 5) : Ev d 92 27 L (.ref r :: st) (t, V, A, P) Q = Ev d 92 30 L (V r 1 :: st) (t, V, A, P) Q := e_getf (by decide +kernel : decode (bOf 92) 27 = .ok (.getfield 7, 3)) (by decide +kernel) (by decide +kernel) h
theorem x_92_30 : Ev d 92 30 L st μ Q = Ev d 92 31 L (.int (iI 0) :: st) μ Q := e_iconst (by decide +kernel : decode (bOf 92) 30 = .ok (.iconst 0, 1))
theorem x_92_31 (h : kd t r = 6) (hi : inB x (ln t r) = true) : Ev d 92 31 L (.int x :: .ref r :: st) (t, V, A, P) Q = Ev d 92 32 L (.int (A r x.toNatClampNeg) :: st) (t, V, A, P) Q := e_iald (by decide +kernel : decode (bOf 92) 31 = .ok (.iaload, 1)) h hi
theorem x_92_32 : Ev d 92 32 (.ref r :: L) st μ Q = Ev d 92 33 (.ref r :: L) (.ref r :: st) μ Q := e_aload_n (by decide +kernel : decode (bOf 92) 32 = .ok (.aload_n 0, 1)) rfl
theorem x_92_33 (h : kd t r = 5) : Ev d 92 33 L (.ref r :: st) (t, V, A, P) Q = Ev d 92 36 L (V r 9 :: st) (t, V, A, P) Q := e_getf (by decide +kernel : decode (bOf 92) 33 = .ok (.getfield 110, 3)) (by decide +kernel) (by decide +kernel) h
theorem x_92_36 : Ev d 92 36 L (.int y :: .int x :: st) μ Q = Ev d 92 37 L (.int (x + y) :: st) μ Q := e_iadd (by decide +kernel : decode (bOf 92) 36 = .ok (.iadd, 1))
theorem x_92_37 : Ev d 92 37 L st μ Q = Ev d 92 39 L (.int (iI 32) :: st) μ Q := e_bipush (by decide +kernel : decode (bOf 92) 37 = .ok (.bipush 32, 2)) (by decide +kernel)
theorem x_92_39 : Ev d 92 39 L (.int y :: .int x :: st) μ Q = if y < x then Ev d 92 42 L st μ Q else Ev d 92 45 L st μ Q := e_icmp_le (by decide +kernel : decode (bOf 92) 39 = .ok (.if_icmp .le 6, 3)) (by omega)
theorem x_92_42 : Ev d 92 42 L st μ Q = Ev d 92 44 L (.int (iI (-3)) :: st) μ Q := e_bipush (by decide +kernel : decode (bOf 92) 42 = .ok (.bipush (-3), 2)) (by decide +kernel)
theorem x_92_44 : Ev d 92 44 L [.int x] μ Q = Q (some (.int x)) μ := e_iret (by decide +kernel : decode (bOf 92) 44 = .ok (.ireturn, 1)) (by decide +kernel)
theorem x_92_45 : Ev d 92 45 (.ref r :: L) st μ Q = Ev d 92 46 (.ref r :: L) (.ref r :: st) μ Q := e_aload_n (by decide +kernel : decode (bOf 92) 45 = .ok (.aload_n 0, 1)) rfl
theorem x_92_46 (h : kd t r = 5) : Ev d 92 46 L [.ref r] (t, V, A, P) Q = Call d 93 [.ref r] (t, V, A, P) (fun v μ1 => Ev d 92 49 L (v.toList ++ []) μ1 Q) := e_callV (a := []) (r := []) (by decide +kernel : decode (bOf 92) 46 = .ok (.invokevirtual 120, 3)) (by decide +kernel) (by decide +kernel) (by decide +kernel) (by omega) rfl (by simp) (by decide +kernel) h
theorem x_92_49 : Ev d 92 49 L st μ Q = Ev d 92 50 L (.int (iI 0) :: st) μ Q := e_iconst (by decide +kernel : decode (bOf 92) 49 = .ok (.iconst 0, 1))
theorem x_92_50 (h : a0.category = 1) : Ev d 92 50 (a0 :: a1 :: L) (.int x :: st) μ Q = Ev d 92 51 (a0 :: .int x :: L) st μ Q := e_istore_n (by decide +kernel : decode (bOf 92) 50 = .ok (.istore_n 1, 1)) (by show stOK _ 1 = true; simp [stOK, h])
theorem x_92_51 : Ev d 92 51 (a0 :: .int x :: L) st μ Q = Ev d 92 52 (a0 :: .int x :: L) (.int x :: st) μ Q := e_iload_n (by decide +kernel : decode (bOf 92) 51 = .ok (.iload_n 1, 1)) rfl
theorem x_92_52 : Ev d 92 52 (.ref r :: L) st μ Q = Ev d 92 53 (.ref r :: L) (.ref r :: st) μ Q := e_aload_n (by decide +kernel : decode (bOf 92) 52 = .ok (.aload_n 0, 1)) rfl
theorem x_92_53 (h : kd t r = 5) : Ev d 92 53 L (.ref r :: st) (t, V, A, P) Q = Ev d 92 56 L (V r 9 :: st) (t, V, A, P) Q := e_getf (by decide +kernel : decode (bOf 92) 53 = .ok (.getfield 110, 3)) (by decide +kernel) (by decide +kernel) h
theorem x_92_56 : Ev d 92 56 L (.int y :: .int x :: st) μ Q = if x < y then Ev d 92 59 L st μ Q else Ev d 92 76 L st μ Q := e_icmp_ge (by decide +kernel : decode (bOf 92) 56 = .ok (.if_icmp .ge 20, 3)) (by omega)
theorem x_92_59 : Ev d 92 59 (.ref r :: L) st μ Q = Ev d 92 60 (.ref r :: L) (.ref r :: st) μ Q := e_aload_n (by decide +kernel : decode (bOf 92) 59 = .ok (.aload_n 0, 1)) rfl
theorem x_92_60 : Ev d 92 60 (.ref r :: L) st μ Q = Ev d 92 61 (.ref r :: L) (.ref r :: st) μ Q := e_aload_n (by decide +kernel : decode (bOf 92) 60 = .ok (.aload_n 0, 1)) rfl
theorem x_92_61 (h : kd t r = 5) : Ev d 92 61 L (.ref r :: st) (t, V, A, P) Q = Ev d 92 64 L (V r 8 :: st) (t, V, A, P) Q := e_getf (by decide +kernel : decode (bOf 92) 61 = .ok (.getfield 26, 3)) (by decide +kernel) (by decide +kernel) h
theorem x_92_64 : Ev d 92 64 (a0 :: .int x :: L) st μ Q = Ev d 92 65 (a0 :: .int x :: L) (.int x :: st) μ Q := e_iload_n (by decide +kernel : decode (bOf 92) 64 = .ok (.iload_n 1, 1)) rfl
theorem x_92_65 (h : kd t r = 6) (hi : inB x (ln t r) = true) : Ev d 92 65 L (.int x :: .ref r :: st) (t, V, A, P) Q = Ev d 92 66 L (.int (A r x.toNatClampNeg) :: st) (t, V, A, P) Q := e_iald (by decide +kernel : decode (bOf 92) 65 = .ok (.iaload, 1)) h hi
theorem x_92_66 (h : kd t r = 5) : Ev d 92 66 L [b0, .ref r] (t, V, A, P) Q = Call d 95 [.ref r, b0] (t, V, A, P) (fun v μ1 => Ev d 92 69 L (v.toList ++ []) μ1 Q) := e_callV (a := [b0]) (r := []) (by decide +kernel : decode (bOf 92) 66 = .ok (.invokevirtual 123, 3)) (by decide +kernel) (by decide +kernel) (by decide +kernel) (by omega) rfl (by simp) (by decide +kernel) h
theorem x_92_69 : Ev d 92 69 L (.int x :: st) μ Q = Ev d 92 70 L st μ Q := e_pop (by decide +kernel : decode (bOf 92) 69 = .ok (.pop, 1))
theorem x_92_70 (h : a0.category = 1) : Ev d 92 70 (a0 :: .int x :: L) st μ Q = Ev d 92 73 (a0 :: .int (x + (iI 1)) :: L) st μ Q := e_iinc (by decide +kernel : decode (bOf 92) 70 = .ok (.iinc 1 1, 3)) rfl (by simp [stOK, h])
theorem x_92_73 : Ev d 92 73 L st μ Q = Ev d 92 51 L st μ Q := e_goto (by decide +kernel : decode (bOf 92) 73 = .ok (.goto (-22), 3)) (by omega)
theorem x_92_76 : Ev d 92 76 (.ref r :: L) st μ Q = Ev d 92 77 (.ref r :: L) (.ref r :: st) μ Q := e_aload_n (by decide +kernel : decode (bOf 92) 76 = .ok (.aload_n 0, 1)) rfl
theorem x_92_77 : Ev d 92 77 L st μ Q = Ev d 92 78 L (.int (iI 0) :: st) μ Q := e_iconst (by decide +kernel : decode (bOf 92) 77 = .ok (.iconst 0, 1))
theorem x_92_78 (h : kd t r = 5) : Ev d 92 78 L (.int x :: .ref r :: st) (t, V, A, P) Q = Ev d 92 81 L st (t, up1 V r (up1 (V r) 7 (.int x)), A, P) Q := e_putf (by decide +kernel : decode (bOf 92) 78 = .ok (.putfield 82, 3)) (by decide +kernel) (by decide +kernel) rfl h
theorem x_92_81 : Ev d 92 81 (.ref r :: L) st μ Q = Ev d 92 82 (.ref r :: L) (.ref r :: st) μ Q := e_aload_n (by decide +kernel : decode (bOf 92) 81 = .ok (.aload_n 0, 1)) rfl
theorem x_92_82 (h : kd t r = 5) : Ev d 92 82 L (.ref r :: st) (t, V, A, P) Q = Ev d 92 85 L (V r 9 :: st) (t, V, A, P) Q := e_getf (by decide +kernel : decode (bOf 92) 82 = .ok (.getfield 110, 3)) (by decide +kernel) (by decide +kernel) h
theorem x_92_85 : Ev d 92 85 L [.int x] μ Q = Q (some (.int x)) μ := e_iret (by decide +kernel : decode (bOf 92) 85 = .ok (.ireturn, 1)) (by decide +kernel)
theorem c_93 : Call (d + 1) 93 [.ref r0] μ Q = Ev d 93 0 [.ref r0, .null] [] μ Q := call_ev rfl rfl
theorem x_93_0 : Ev d 93 0 (.ref r :: L) st μ Q = Ev d 93 1 (.ref r :: L) (.ref r :: st) μ Q := e_aload_n (by decide +kernel : decode (bOf 93) 0 = .ok (.aload_n 0, 1)) rfl
theorem x_93_1 (h : kd t r = 5) : Ev d 93 1 L (.ref r :: st) (t, V, A, P) Q = Ev d 93 4 L (V r 3 :: st) (t, V, A, P) Q := e_getf (by decide +kernel : decode (bOf 93) 1 = .ok (.getfield 126, 3)) (by decide +kernel) (by decide +kernel) h
theorem x_93_4 : Ev d 93 4 L st μ Q = Ev d 93 6 L (.int (iI 6) :: st) μ Q := e_bipush (by decide +kernel : decode (bOf 93) 4 = .ok (.bipush 6, 2)) (by decide +kernel)
theorem x_93_6 : Ev d 93 6 L (.int y :: .int x :: st) μ Q = if x = y then Ev d 93 9 L st μ Q else Ev d 93 50 L st μ Q := e_icmp_ne (by decide +kernel : decode (bOf 93) 6 = .ok (.if_icmp .ne 44, 3)) (by omega)
theorem x_93_9 : Ev d 93 9 L st μ Q = Ev d 93 10 L (.int (iI 0) :: st) μ Q := e_iconst (by decide +kernel : decode (bOf 93) 9 = .ok (.iconst 0, 1))
theorem x_93_10 (h : a0.category = 1) : Ev d 93 10 (a0 :: a1 :: L) (.int x :: st) μ Q = Ev d 93 11 (a0 :: .int x :: L) st μ Q := e_istore_n (by decide +kernel : decode (bOf 93) 10 = .ok (.istore_n 1, 1)) (by show stOK _ 1 = true; simp [stOK, h])
theorem x_93_11 : Ev d 93 11 (a0 :: .int x :: L) st μ Q = Ev d 93 12 (a0 :: .int x :: L) (.int x :: st) μ Q := e_iload_n (by decide +kernel : decode (bOf 93) 11 = .ok (.iload_n 1, 1)) rfl
theorem x_93_12 : Ev d 93 12 L st μ Q = Ev d 93 15 L (.int (iI 1140) :: st) μ Q := e_sipush (by decide +kernel : decode (bOf 93) 12 = .ok (.sipush 1140, 3)) (by decide +kernel)
theorem x_93_15 : Ev d 93 15 L (.int y :: .int x :: st) μ Q = if x < y then Ev d 93 18 L st μ Q else Ev d 93 40 L st μ Q := e_icmp_ge (by decide +kernel : decode (bOf 93) 15 = .ok (.if_icmp .ge 25, 3)) (by omega)
theorem x_93_18 : Ev d 93 18 (.ref r :: L) st μ Q = Ev d 93 19 (.ref r :: L) (.ref r :: st) μ Q := e_aload_n (by decide +kernel : decode (bOf 93) 18 = .ok (.aload_n 0, 1)) rfl
theorem x_93_19 (h : kd t r = 5) : Ev d 93 19 L (.ref r :: st) (t, V, A, P) Q = Ev d 93 22 L (V r 2 :: st) (t, V, A, P) Q := e_getf (by decide +kernel : decode (bOf 93) 19 = .ok (.getfield 13, 3)) (by decide +kernel) (by decide +kernel) h
theorem x_93_22 : Ev d 93 22 (a0 :: .int x :: L) st μ Q = Ev d 93 23 (a0 :: .int x :: L) (.int x :: st) μ Q := e_iload_n (by decide +kernel : decode (bOf 93) 22 = .ok (.iload_n 1, 1)) rfl
theorem x_93_23 : Ev d 93 23 (.ref r :: L) st μ Q = Ev d 93 24 (.ref r :: L) (.ref r :: st) μ Q := e_aload_n (by decide +kernel : decode (bOf 93) 23 = .ok (.aload_n 0, 1)) rfl
theorem x_93_24 (h : kd t r = 5) : Ev d 93 24 L (.ref r :: st) (t, V, A, P) Q = Ev d 93 27 L (V r 2 :: st) (t, V, A, P) Q := e_getf (by decide +kernel : decode (bOf 93) 24 = .ok (.getfield 13, 3)) (by decide +kernel) (by decide +kernel) h
theorem x_93_27 : Ev d 93 27 L st μ Q = Ev d 93 30 L (.int (iI 228) :: st) μ Q := e_sipush (by decide +kernel : decode (bOf 93) 27 = .ok (.sipush 228, 3)) (by decide +kernel)
theorem x_93_30 : Ev d 93 30 (a0 :: .int x :: L) st μ Q = Ev d 93 31 (a0 :: .int x :: L) (.int x :: st) μ Q := e_iload_n (by decide +kernel : decode (bOf 93) 30 = .ok (.iload_n 1, 1)) rfl
theorem x_93_31 : Ev d 93 31 L (.int y :: .int x :: st) μ Q = Ev d 93 32 L (.int (x + y) :: st) μ Q := e_iadd (by decide +kernel : decode (bOf 93) 31 = .ok (.iadd, 1))
theorem x_93_32 (h : kd t r = 6) (hi : inB x (ln t r) = true) : Ev d 93 32 L (.int x :: .ref r :: st) (t, V, A, P) Q = Ev d 93 33 L (.int (A r x.toNatClampNeg) :: st) (t, V, A, P) Q := e_iald (by decide +kernel : decode (bOf 93) 32 = .ok (.iaload, 1)) h hi
theorem x_93_33 (h : kd t r = 6) (hi : inB x (ln t r) = true) : Ev d 93 33 L (.int y :: .int x :: .ref r :: st) (t, V, A, P) Q = Ev d 93 34 L st (t, V, up1 A r (upd (A r) x.toNatClampNeg y), P) Q := e_iast (by decide +kernel : decode (bOf 93) 33 = .ok (.iastore, 1)) h hi
theorem x_93_34 (h : a0.category = 1) : Ev d 93 34 (a0 :: .int x :: L) st μ Q = Ev d 93 37 (a0 :: .int (x + (iI 1)) :: L) st μ Q := e_iinc (by decide +kernel : decode (bOf 93) 34 = .ok (.iinc 1 1, 3)) rfl (by simp [stOK, h])
theorem x_93_37 : Ev d 93 37 L st μ Q = Ev d 93 11 L st μ Q := e_goto (by decide +kernel : decode (bOf 93) 37 = .ok (.goto (-26), 3)) (by omega)
theorem x_93_40 : Ev d 93 40 (.ref r :: L) st μ Q = Ev d 93 41 (.ref r :: L) (.ref r :: st) μ Q := e_aload_n (by decide +kernel : decode (bOf 93) 40 = .ok (.aload_n 0, 1)) rfl
theorem x_93_41 : Ev d 93 41 L (.ref r :: st) μ Q = Ev d 93 42 L (.ref r :: .ref r :: st) μ Q := e_dup_a (by decide +kernel : decode (bOf 93) 41 = .ok (.dup, 1))
theorem x_93_42 (h : kd t r = 5) : Ev d 93 42 L (.ref r :: st) (t, V, A, P) Q = Ev d 93 45 L (V r 3 :: st) (t, V, A, P) Q := e_getf (by decide +kernel : decode (bOf 93) 42 = .ok (.getfield 126, 3)) (by decide +kernel) (by decide +kernel) h
theorem x_93_45 : Ev d 93 45 L st μ Q = Ev d 93 46 L (.int (iI 1) :: st) μ Q := e_iconst (by decide +kernel : decode (bOf 93) 45 = .ok (.iconst 1, 1))
theorem x_93_46 : Ev d 93 46 L (.int y :: .int x :: st) μ Q = Ev d 93 47 L (.int (x - y) :: st) μ Q := e_isub (by decide +kernel : decode (bOf 93) 46 = .ok (.isub, 1))
theorem x_93_47 (h : kd t r = 5) : Ev d 93 47 L (.int x :: .ref r :: st) (t, V, A, P) Q = Ev d 93 50 L st (t, up1 V r (up1 (V r) 3 (.int x)), A, P) Q := e_putf (by decide +kernel : decode (bOf 93) 47 = .ok (.putfield 126, 3)) (by decide +kernel) (by decide +kernel) rfl h
theorem x_93_50 : Ev d 93 50 L st μ Q = Ev d 93 51 L (.int (iI 0) :: st) μ Q := e_iconst (by decide +kernel : decode (bOf 93) 50 = .ok (.iconst 0, 1))
theorem x_93_51 (h : a0.category = 1) : Ev d 93 51 (a0 :: a1 :: L) (.int x :: st) μ Q = Ev d 93 52 (a0 :: .int x :: L) st μ Q := e_istore_n (by decide +kernel : decode (bOf 93) 51 = .ok (.istore_n 1, 1)) (by show stOK _ 1 = true; simp [stOK, h])
theorem x_93_52 : Ev d 93 52 (a0 :: .int x :: L) st μ Q = Ev d 93 53 (a0 :: .int x :: L) (.int x :: st) μ Q := e_iload_n (by decide +kernel : decode (bOf 93) 52 = .ok (.iload_n 1, 1)) rfl
theorem x_93_53 : Ev d 93 53 L st μ Q = Ev d 93 56 L (.int (iI 228) :: st) μ Q := e_sipush (by decide +kernel : decode (bOf 93) 53 = .ok (.sipush 228, 3)) (by decide +kernel)
theorem x_93_56 : Ev d 93 56 L (.int y :: .int x :: st) μ Q = if x < y then Ev d 93 59 L st μ Q else Ev d 93 86 L st μ Q := e_icmp_ge (by decide +kernel : decode (bOf 93) 56 = .ok (.if_icmp .ge 30, 3)) (by omega)
theorem x_93_59 : Ev d 93 59 (.ref r :: L) st μ Q = Ev d 93 60 (.ref r :: L) (.ref r :: st) μ Q := e_aload_n (by decide +kernel : decode (bOf 93) 59 = .ok (.aload_n 0, 1)) rfl
theorem x_93_60 (h : kd t r = 5) : Ev d 93 60 L (.ref r :: st) (t, V, A, P) Q = Ev d 93 63 L (V r 2 :: st) (t, V, A, P) Q := e_getf (by decide +kernel : decode (bOf 93) 60 = .ok (.getfield 13, 3)) (by decide +kernel) (by decide +kernel) h
theorem x_93_63 : Ev d 93 63 L st μ Q = Ev d 93 66 L (.int (iI 228) :: st) μ Q := e_sipush (by decide +kernel : decode (bOf 93) 63 = .ok (.sipush 228, 3)) (by decide +kernel)
theorem x_93_66 : Ev d 93 66 (.ref r :: L) st μ Q = Ev d 93 67 (.ref r :: L) (.ref r :: st) μ Q := e_aload_n (by decide +kernel : decode (bOf 93) 66 = .ok (.aload_n 0, 1)) rfl
theorem x_93_67 (h : kd t r = 5) : Ev d 93 67 L (.ref r :: st) (t, V, A, P) Q = Ev d 93 70 L (V r 3 :: st) (t, V, A, P) Q := e_getf (by decide +kernel : decode (bOf 93) 67 = .ok (.getfield 126, 3)) (by decide +kernel) (by decide +kernel) h
theorem x_93_70 : Ev d 93 70 L (.int y :: .int x :: st) μ Q = Ev d 93 71 L (.int (x * y) :: st) μ Q := e_imul (by decide +kernel : decode (bOf 93) 70 = .ok (.imul, 1))
theorem x_93_71 : Ev d 93 71 (a0 :: .int x :: L) st μ Q = Ev d 93 72 (a0 :: .int x :: L) (.int x :: st) μ Q := e_iload_n (by decide +kernel : decode (bOf 93) 71 = .ok (.iload_n 1, 1)) rfl
theorem x_93_72 : Ev d 93 72 L (.int y :: .int x :: st) μ Q = Ev d 93 73 L (.int (x + y) :: st) μ Q := e_iadd (by decide +kernel : decode (bOf 93) 72 = .ok (.iadd, 1))
theorem x_93_73 : Ev d 93 73 (.ref r :: L) st μ Q = Ev d 93 74 (.ref r :: L) (.ref r :: st) μ Q := e_aload_n (by decide +kernel : decode (bOf 93) 73 = .ok (.aload_n 0, 1)) rfl
theorem x_93_74 (h : kd t r = 5) : Ev d 93 74 L (.ref r :: st) (t, V, A, P) Q = Ev d 93 77 L (V r 1 :: st) (t, V, A, P) Q := e_getf (by decide +kernel : decode (bOf 93) 74 = .ok (.getfield 7, 3)) (by decide +kernel) (by decide +kernel) h
theorem x_93_77 : Ev d 93 77 (a0 :: .int x :: L) st μ Q = Ev d 93 78 (a0 :: .int x :: L) (.int x :: st) μ Q := e_iload_n (by decide +kernel : decode (bOf 93) 77 = .ok (.iload_n 1, 1)) rfl
theorem x_93_78 (h : kd t r = 6) (hi : inB x (ln t r) = true) : Ev d 93 78 L (.int x :: .ref r :: st) (t, V, A, P) Q = Ev d 93 79 L (.int (A r x.toNatClampNeg) :: st) (t, V, A, P) Q := e_iald (by decide +kernel : decode (bOf 93) 78 = .ok (.iaload, 1)) h hi
theorem x_93_79 (h : kd t r = 6) (hi : inB x (ln t r) = true) : Ev d 93 79 L (.int y :: .int x :: .ref r :: st) (t, V, A, P) Q = Ev d 93 80 L st (t, V, up1 A r (upd (A r) x.toNatClampNeg y), P) Q := e_iast (by decide +kernel : decode (bOf 93) 79 = .ok (.iastore, 1)) h hi
theorem x_93_80 (h : a0.category = 1) : Ev d 93 80 (a0 :: .int x :: L) st μ Q = Ev d 93 83 (a0 :: .int (x + (iI 1)) :: L) st μ Q := e_iinc (by decide +kernel : decode (bOf 93) 80 = .ok (.iinc 1 1, 3)) rfl (by simp [stOK, h])
theorem x_93_83 : Ev d 93 83 L st μ Q = Ev d 93 52 L st μ Q := e_goto (by decide +kernel : decode (bOf 93) 83 = .ok (.goto (-31), 3)) (by omega)
theorem x_93_86 : Ev d 93 86 (.ref r :: L) st μ Q = Ev d 93 87 (.ref r :: L) (.ref r :: st) μ Q := e_aload_n (by decide +kernel : decode (bOf 93) 86 = .ok (.aload_n 0, 1)) rfl
theorem x_93_87 : Ev d 93 87 L (.ref r :: st) μ Q = Ev d 93 88 L (.ref r :: .ref r :: st) μ Q := e_dup_a (by decide +kernel : decode (bOf 93) 87 = .ok (.dup, 1))
theorem x_93_88 (h : kd t r = 5) : Ev d 93 88 L (.ref r :: st) (t, V, A, P) Q = Ev d 93 91 L (V r 3 :: st) (t, V, A, P) Q := e_getf (by decide +kernel : decode (bOf 93) 88 = .ok (.getfield 126, 3)) (by decide +kernel) (by decide +kernel) h
theorem x_93_91 : Ev d 93 91 L st μ Q = Ev d 93 92 L (.int (iI 1) :: st) μ Q := e_iconst (by decide +kernel : decode (bOf 93) 91 = .ok (.iconst 1, 1))
theorem x_93_92 : Ev d 93 92 L (.int y :: .int x :: st) μ Q = Ev d 93 93 L (.int (x + y) :: st) μ Q := e_iadd (by decide +kernel : decode (bOf 93) 92 = .ok (.iadd, 1))
theorem x_93_93 (h : kd t r = 5) : Ev d 93 93 L (.int x :: .ref r :: st) (t, V, A, P) Q = Ev d 93 96 L st (t, up1 V r (up1 (V r) 3 (.int x)), A, P) Q := e_putf (by decide +kernel : decode (bOf 93) 93 = .ok (.putfield 126, 3)) (by decide +kernel) (by decide +kernel) rfl h
theorem x_93_96 : Ev d 93 96 L [] μ Q = Q none μ := e_ret (by decide +kernel : decode (bOf 93) 96 = .ok (.return_, 1)) (by decide +kernel)
theorem c_94 : Call (d + 1) 94 [.ref r0, .int i1] μ Q = Ev d 94 0 [.ref r0, .int i1] [] μ Q := call_ev rfl rfl
theorem x_94_0 : Ev d 94 0 (.ref r :: L) st μ Q = Ev d 94 1 (.ref r :: L) (.ref r :: st) μ Q := e_aload_n (by decide +kernel : decode (bOf 94) 0 = .ok (.aload_n 0, 1)) rfl
theorem x_94_1 (h : kd t r = 5) : Ev d 94 1 L (.ref r :: st) (t, V, A, P) Q = Ev d 94 4 L (V r 1 :: st) (t, V, A, P) Q := e_getf (by decide +kernel : decode (bOf 94) 1 = .ok (.getfield 7, 3)) (by decide +kernel) (by decide +kernel) h
theorem x_94_4 : Ev d 94 4 L st μ Q = Ev d 94 5 L (.int (iI 3) :: st) μ Q := e_iconst (by decide +kernel : decode (bOf 94) 4 = .ok (.iconst 3, 1))
theorem x_94_5 (h : kd t r = 6) (hi : inB x (ln t r) = true) : Ev d 94 5 L (.int x :: .ref r :: st) (t, V, A, P) Q = Ev d 94 6 L (.int (A r x.toNatClampNeg) :: st) (t, V, A, P) Q := e_iald (by decide +kernel : decode (bOf 94) 5 = .ok (.iaload, 1)) h hi
theorem x_94_6 : Ev d 94 6 (a0 :: .int x :: L) st μ Q = Ev d 94 7 (a0 :: .int x :: L) (.int x :: st) μ Q := e_iload_n (by decide +kernel : decode (bOf 94) 6 = .ok (.iload_n 1, 1)) rfl
theorem x_94_7 : Ev d 94 7 L (.int y :: .int x :: st) μ Q = if x = y then Ev d 94 10 L st μ Q else Ev d 94 11 L st μ Q := e_icmp_ne (by decide +kernel : decode (bOf 94) 7 = .ok (.if_icmp .ne 4, 3)) (by omega)
theorem x_94_10 : Ev d 94 10 L [] μ Q = Q none μ := e_ret (by decide +kernel : decode (bOf 94) 10 = .ok (.return_, 1)) (by decide +kernel)
theorem x_94_11 : Ev d 94 11 (.ref r :: L) st μ Q = Ev d 94 12 (.ref r :: L) (.ref r :: st) μ Q := e_aload_n (by decide +kernel : decode (bOf 94) 11 = .ok (.aload_n 0, 1)) rfl
theorem x_94_12 (h : kd t r = 5) : Ev d 94 12 L (.ref r :: st) (t, V, A, P) Q = Ev d 94 15 L (V r 1 :: st) (t, V, A, P) Q := e_getf (by decide +kernel : decode (bOf 94) 12 = .ok (.getfield 7, 3)) (by decide +kernel) (by decide +kernel) h
theorem x_94_15 : Ev d 94 15 L st μ Q = Ev d 94 16 L (.int (iI 2) :: st) μ Q := e_iconst (by decide +kernel : decode (bOf 94) 15 = .ok (.iconst 2, 1))
theorem x_94_16 : Ev d 94 16 (.ref r :: L) st μ Q = Ev d 94 17 (.ref r :: L) (.ref r :: st) μ Q := e_aload_n (by decide +kernel : decode (bOf 94) 16 = .ok (.aload_n 0, 1)) rfl
theorem x_94_17 (h : kd t r = 5) : Ev d 94 17 L (.ref r :: st) (t, V, A, P) Q = Ev d 94 20 L (V r 1 :: st) (t, V, A, P) Q := e_getf (by decide +kernel : decode (bOf 94) 17 = .ok (.getfield 7, 3)) (by decide +kernel) (by decide +kernel) h
theorem x_94_20 : Ev d 94 20 L st μ Q = Ev d 94 21 L (.int (iI 3) :: st) μ Q := e_iconst (by decide +kernel : decode (bOf 94) 20 = .ok (.iconst 3, 1))
theorem x_94_21 (h : kd t r = 6) (hi : inB x (ln t r) = true) : Ev d 94 21 L (.int x :: .ref r :: st) (t, V, A, P) Q = Ev d 94 22 L (.int (A r x.toNatClampNeg) :: st) (t, V, A, P) Q := e_iald (by decide +kernel : decode (bOf 94) 21 = .ok (.iaload, 1)) h hi
theorem x_94_22 (h : kd t r = 6) (hi : inB x (ln t r) = true) : Ev d 94 22 L (.int y :: .int x :: .ref r :: st) (t, V, A, P) Q = Ev d 94 23 L st (t, V, up1 A r (upd (A r) x.toNatClampNeg y), P) Q := e_iast (by decide +kernel : decode (bOf 94) 22 = .ok (.iastore, 1)) h hi
theorem x_94_23 : Ev d 94 23 (.ref r :: L) st μ Q = Ev d 94 24 (.ref r :: L) (.ref r :: st) μ Q := e_aload_n (by decide +kernel : decode (bOf 94) 23 = .ok (.aload_n 0, 1)) rfl
theorem x_94_24 (h : kd t r = 5) : Ev d 94 24 L (.ref r :: st) (t, V, A, P) Q = Ev d 94 27 L (V r 1 :: st) (t, V, A, P) Q := e_getf (by decide +kernel : decode (bOf 94) 24 = .ok (.getfield 7, 3)) (by decide +kernel) (by decide +kernel) h
theorem x_94_27 : Ev d 94 27 L st μ Q = Ev d 94 28 L (.int (iI 3) :: st) μ Q := e_iconst (by decide +kernel : decode (bOf 94) 27 = .ok (.iconst 3, 1))
theorem x_94_28 : Ev d 94 28 (a0 :: .int x :: L) st μ Q = Ev d 94 29 (a0 :: .int x :: L) (.int x :: st) μ Q := e_iload_n (by decide +kernel : decode (bOf 94) 28 = .ok (.iload_n 1, 1)) rfl
theorem x_94_29 (h : kd t r = 6) (hi : inB x (ln t r) = true) : Ev d 94 29 L (.int y :: .int x :: .ref r :: st) (t, V, A, P) Q = Ev d 94 30 L st (t, V, up1 A r (upd (A r) x.toNatClampNeg y), P) Q := e_iast (by decide +kernel : decode (bOf 94) 29 = .ok (.iastore, 1)) h hi
theorem x_94_30 : Ev d 94 30 L [] μ Q = Q none μ := e_ret (by decide +kernel : decode (bOf 94) 30 = .ok (.return_, 1)) (by decide +kernel)
theorem c_95 : Call (d + 1) 95 [.ref r0, .int i1] μ Q = Ev d 95 0 [.ref r0, .int i1, .null, .null] [] μ Q := call_ev rfl rfl
theorem x_95_0 : Ev d 95 0 (a0 :: .int x :: L) st μ Q = Ev d 95 1 (a0 :: .int x :: L) (.int x :: st) μ Q := e_iload_n (by decide +kernel : decode (bOf 95) 0 = .ok (.iload_n 1, 1)) rfl
theorem x_95_1 : Ev d 95 1 (.ref r :: L) st μ Q = Ev d 95 2 (.ref r :: L) (.ref r :: st) μ Q := e_aload_n (by decide +kernel : decode (bOf 95) 1 = .ok (.aload_n 0, 1)) rfl
theorem x_95_2 (h : kd t r = 5) : Ev d 95 2 L (.ref r :: st) (t, V, A, P) Q = Ev d 95 5 L (V r 1 :: st) (t, V, A, P) Q := e_getf (by decide +kernel : decode (bOf 95) 2 = .ok (.getfield 7, 3)) (by decide +kernel) (by decide +kernel) h
theorem x_95_5 : Ev d 95 5 L st μ Q = Ev d 95 6 L (.int (iI 1) :: st) μ Q := e_iconst (by decide +kernel : decode (bOf 95) 5 = .ok (.iconst 1, 1))
theorem x_95_6 (h : kd t r = 6) (hi : inB x (ln t r) = true) : Ev d 95 6 L (.int x :: .ref r :: st) (t, V, A, P) Q = Ev d 95 7 L (.int (A r x.toNatClampNeg) :: st) (t, V, A, P) Q := e_iald (by decide +kernel : decode (bOf 95) 6 = .ok (.iaload, 1)) h hi
theorem x_95_7 : Ev d 95 7 L (.int x :: st) μ Q = if x < iI 0 then Ev d 95 10 L st μ Q else Ev d 95 14 L st μ Q := e_if_ge (by decide +kernel : decode (bOf 95) 7 = .ok (.ifCond .ge 7, 3)) (by omega)
theorem x_95_10 : Ev d 95 10 L st μ Q = Ev d 95 11 L (.int (iI 0) :: st) μ Q := e_iconst (by decide +kernel : decode (bOf 95) 10 = .ok (.iconst 0, 1))
theorem x_95_11 : Ev d 95 11 L st μ Q = Ev d 95 15 L st μ Q := e_goto (by decide +kernel : decode (bOf 95) 11 = .ok (.goto 4, 3)) (by omega)
theorem x_95_14 : Ev d 95 14 L st μ Q = Ev d 95 15 L (.int (iI 1) :: st) μ Q := e_iconst (by decide +kernel : decode (bOf 95) 14 = .ok (.iconst 1, 1))
theorem x_95_15 : Ev d 95 15 L [b1, b0] μ Q = Call d 84 [b0, b1] μ (fun v μ1 => Ev d 95 18 L (v.toList ++ []) μ1 Q) := e_callS (a := [b0, b1]) (r := []) (by decide +kernel : decode (bOf 95) 15 = .ok (.invokestatic 79, 3)) (by decide +kernel) (by decide +kernel) (by omega) rfl (by simp)
theorem x_95_18 (h : a1.category = 1) : Ev d 95 18 (a0 :: a1 :: a2 :: L) (.int x :: st) μ Q = Ev d 95 19 (a0 :: a1 :: .int x :: L) st μ Q := e_istore_n (by decide +kernel : decode (bOf 95) 18 = .ok (.istore_n 2, 1)) (by show stOK _ 2 = true; simp [stOK, h])
theorem x_95_19 : Ev d 95 19 L st μ Q = Ev d 95 20 L (.int (iI 0) :: st) μ Q := e_iconst (by decide +kernel : decode (bOf 95) 19 = .ok (.iconst 0, 1))
theorem x_95_20 (h : a2.category = 1) : Ev d 95 20 (a0 :: a1 :: a2 :: a3 :: L) (.int x :: st) μ Q = Ev d 95 21 (a0 :: a1 :: a2 :: .int x :: L) st μ Q := e_istore_n (by decide +kernel : decode (bOf 95) 20 = .ok (.istore_n 3, 1)) (by show stOK _ 3 = true; simp [stOK, h])
theorem x_95_21 : Ev d 95 21 (a0 :: a1 :: a2 :: .int x :: L) st μ Q = Ev d 95 22 (a0 :: a1 :: a2 :: .int x :: L) (.int x :: st) μ Q := e_iload_n (by decide +kernel : decode (bOf 95) 21 = .ok (.iload_n 3, 1)) rfl
theorem x_95_22 : Ev d 95 22 L st μ Q = Ev d 95 24 L (.int (iI 6) :: st) μ Q := e_bipush (by decide +kernel : decode (bOf 95) 22 = .ok (.bipush 6, 2)) (by decide +kernel)
theorem x_95_24 : Ev d 95 24 L (.int y :: .int x :: st) μ Q = if x < y then Ev d 95 27 L st μ Q else Ev d 95 59 L st μ Q := e_icmp_ge (by decide +kernel : decode (bOf 95) 24 = .ok (.if_icmp .ge 35, 3)) (by omega)
theorem x_95_27 : Ev d 95 27 (.ref r :: L) st μ Q = Ev d 95 28 (.ref r :: L) (.ref r :: st) μ Q := e_aload_n (by decide +kernel : decode (bOf 95) 27 = .ok (.aload_n 0, 1)) rfl
theorem x_95_28 (h : kd t r = 5) : Ev d 95 28 L (.ref r :: st) (t, V, A, P) Q = Ev d 95 31 L (V r 1 :: st) (t, V, A, P) Q := e_getf (by decide +kernel : decode (bOf 95) 28 = .ok (.getfield 7, 3)) (by decide +kernel) (by decide +kernel) h
theorem x_95_31 : Ev d 95 31 L st μ Q = Ev d 95 33 L (.int (iI 36) :: st) μ Q := e_bipush (by decide +kernel : decode (bOf 95) 31 = .ok (.bipush 36, 2)) (by decide +kernel)
theorem x_95_33 : Ev d 95 33 L st μ Q = Ev d 95 35 L (.int (iI 6) :: st) μ Q := e_bipush (by decide +kernel : decode (bOf 95) 33 = .ok (.bipush 6, 2)) (by decide +kernel)
theorem x_95_35 : Ev d 95 35 (.ref r :: L) st μ Q = Ev d 95 36 (.ref r :: L) (.ref r :: st) μ Q := e_aload_n (by decide +kernel : decode (bOf 95) 35 = .ok (.aload_n 0, 1)) rfl
theorem x_95_36 (h : kd t r = 5) : Ev d 95 36 L (.ref r :: st) (t, V, A, P) Q = Ev d 95 39 L (V r 1 :: st) (t, V, A, P) Q := e_getf (by decide +kernel : decode (bOf 95) 36 = .ok (.getfield 7, 3)) (by decide +kernel) (by decide +kernel) h
theorem x_95_39 : Ev d 95 39 L st μ Q = Ev d 95 40 L (.int (iI 0) :: st) μ Q := e_iconst (by decide +kernel : decode (bOf 95) 39 = .ok (.iconst 0, 1))
theorem x_95_40 (h : kd t r = 6) (hi : inB x (ln t r) = true) : Ev d 95 40 L (.int x :: .ref r :: st) (t, V, A, P) Q = Ev d 95 41 L (.int (A r x.toNatClampNeg) :: st) (t, V, A, P) Q := e_iald (by decide +kernel : decode (bOf 95) 40 = .ok (.iaload, 1)) h hi
theorem x_95_41 : Ev d 95 41 L (.int y :: .int x :: st) μ Q = Ev d 95 42 L (.int (x * y) :: st) μ Q := e_imul (by decide +kernel : decode (bOf 95) 41 = .ok (.imul, 1))
theorem x_95_42 : Ev d 95 42 L (.int y :: .int x :: st) μ Q = Ev d 95 43 L (.int (x + y) :: st) μ Q := e_iadd (by decide +kernel : decode (bOf 95) 42 = .ok (.iadd, 1))
theorem x_95_43 : Ev d 95 43 (a0 :: a1 :: a2 :: .int x :: L) st μ Q = Ev d 95 44 (a0 :: a1 :: a2 :: .int x :: L) (.int x :: st) μ Q := e_iload_n (by decide +kernel : decode (bOf 95) 43 = .ok (.iload_n 3, 1)) rfl
theorem x_95_44 : Ev d 95 44 L (.int y :: .int x :: st) μ Q = Ev d 95 45 L (.int (x + y) :: st) μ Q := e_iadd (by decide +kernel : decode (bOf 95) 44 = .ok (.iadd, 1))
theorem x_95_45 : Ev d 95 45 (a0 :: a1 :: .int x :: L) st μ Q = Ev d 95 46 (a0 :: a1 :: .int x :: L) (.int x :: st) μ Q := e_iload_n (by decide +kernel : decode (bOf 95) 45 = .ok (.iload_n 2, 1)) rfl
theorem x_95_46 : Ev d 95 46 L st μ Q = Ev d 95 47 L (.int (iI 5) :: st) μ Q := e_iconst (by decide +kernel : decode (bOf 95) 46 = .ok (.iconst 5, 1))
theorem x_95_47 : Ev d 95 47 (a0 :: a1 :: a2 :: .int x :: L) st μ Q = Ev d 95 48 (a0 :: a1 :: a2 :: .int x :: L) (.int x :: st) μ Q := e_iload_n (by decide +kernel : decode (bOf 95) 47 = .ok (.iload_n 3, 1)) rfl
theorem x_95_48 : Ev d 95 48 L (.int y :: .int x :: st) μ Q = Ev d 95 49 L (.int (x - y) :: st) μ Q := e_isub (by decide +kernel : decode (bOf 95) 48 = .ok (.isub, 1))
theorem x_95_49 : Ev d 95 49 L (.int y :: .int x :: st) μ Q = Ev d 95 50 L (.int (x >>> (y &&& 31)) :: st) μ Q := e_ishr (by decide +kernel : decode (bOf 95) 49 = .ok (.ishr, 1))
theorem x_95_50 : Ev d 95 50 L st μ Q = Ev d 95 51 L (.int (iI 1) :: st) μ Q := e_iconst (by decide +kernel : decode (bOf 95) 50 = .ok (.iconst 1, 1))
theorem x_95_51 : Ev d 95 51 L (.int y :: .int x :: st) μ Q = Ev d 95 52 L (.int (x &&& y) :: st) μ Q := e_iand (by decide +kernel : decode (bOf 95) 51 = .ok (.iand, 1))
theorem x_95_52 (h : kd t r = 6) (hi : inB x (ln t r) = true) : Ev d 95 52 L (.int y :: .int x :: .ref r :: st) (t, V, A, P) Q = Ev d 95 53 L st (t, V, up1 A r (upd (A r) x.toNatClampNeg y), P) Q := e_iast (by decide +kernel : decode (bOf 95) 52 = .ok (.iastore, 1)) h hi
theorem x_95_53 (h : a2.category = 1) : Ev d 95 53 (a0 :: a1 :: a2 :: .int x :: L) st μ Q = Ev d 95 56 (a0 :: a1 :: a2 :: .int (x + (iI 1)) :: L) st μ Q := e_iinc (by decide +kernel : decode (bOf 95) 53 = .ok (.iinc 3 1, 3)) rfl (by simp [stOK, h])
theorem x_95_56 : Ev d 95 56 L st μ Q = Ev d 95 21 L st μ Q := e_goto (by decide +kernel : decode (bOf 95) 56 = .ok (.goto (-35), 3)) (by omega)
theorem x_95_59 : Ev d 95 59 (.ref r :: L) st μ Q = Ev d 95 60 (.ref r :: L) (.ref r :: st) μ Q := e_aload_n (by decide +kernel : decode (bOf 95) 59 = .ok (.aload_n 0, 1)) rfl
theorem x_95_60 (h : kd t r = 5) : Ev d 95 60 L (.ref r :: st) (t, V, A, P) Q = Ev d 95 63 L (V r 1 :: st) (t, V, A, P) Q := e_getf (by decide +kernel : decode (bOf 95) 60 = .ok (.getfield 7, 3)) (by decide +kernel) (by decide +kernel) h
theorem x_95_63 : Ev d 95 63 L st μ Q = Ev d 95 64 L (.int (iI 4) :: st) μ Q := e_iconst (by decide +kernel : decode (bOf 95) 63 = .ok (.iconst 4, 1))
theorem x_95_64 : Ev d 95 64 (.ref r :: L) st μ Q = Ev d 95 65 (.ref r :: L) (.ref r :: st) μ Q := e_aload_n (by decide +kernel : decode (bOf 95) 64 = .ok (.aload_n 0, 1)) rfl
theorem x_95_65 (h : kd t r = 5) : Ev d 95 65 L (.ref r :: st) (t, V, A, P) Q = Ev d 95 68 L (V r 1 :: st) (t, V, A, P) Q := e_getf (by decide +kernel : decode (bOf 95) 65 = .ok (.getfield 7, 3)) (by decide +kernel) (by decide +kernel) h
theorem x_95_68 : Ev d 95 68 L st μ Q = Ev d 95 69 L (.int (iI 0) :: st) μ Q := e_iconst (by decide +kernel : decode (bOf 95) 68 = .ok (.iconst 0, 1))
theorem x_95_69 (h : kd t r = 6) (hi : inB x (ln t r) = true) : Ev d 95 69 L (.int x :: .ref r :: st) (t, V, A, P) Q = Ev d 95 70 L (.int (A r x.toNatClampNeg) :: st) (t, V, A, P) Q := e_iald (by decide +kernel : decode (bOf 95) 69 = .ok (.iaload, 1)) h hi
theorem x_95_70 : Ev d 95 70 L (.int y :: .int x :: st) μ Q = Ev d 95 71 L (.int (x + y) :: st) μ Q := e_iadd (by decide +kernel : decode (bOf 95) 70 = .ok (.iadd, 1))
theorem x_95_71 : Ev d 95 71 (a0 :: .int x :: L) st μ Q = Ev d 95 72 (a0 :: .int x :: L) (.int x :: st) μ Q := e_iload_n (by decide +kernel : decode (bOf 95) 71 = .ok (.iload_n 1, 1)) rfl
theorem x_95_72 (h : kd t r = 6) (hi : inB x (ln t r) = true) : Ev d 95 72 L (.int y :: .int x :: .ref r :: st) (t, V, A, P) Q = Ev d 95 73 L st (t, V, up1 A r (upd (A r) x.toNatClampNeg y), P) Q := e_iast (by decide +kernel : decode (bOf 95) 72 = .ok (.iastore, 1)) h hi
theorem x_95_73 : Ev d 95 73 (.ref r :: L) st μ Q = Ev d 95 74 (.ref r :: L) (.ref r :: st) μ Q := e_aload_n (by decide +kernel : decode (bOf 95) 73 = .ok (.aload_n 0, 1)) rfl
theorem x_95_74 (h : kd t r = 5) : Ev d 95 74 L (.ref r :: st) (t, V, A, P) Q = Ev d 95 77 L (V r 1 :: st) (t, V, A, P) Q := e_getf (by decide +kernel : decode (bOf 95) 74 = .ok (.getfield 7, 3)) (by decide +kernel) (by decide +kernel) h
theorem x_95_77 : Ev d 95 77 L st μ Q = Ev d 95 78 L (.int (iI 0) :: st) μ Q := e_iconst (by decide +kernel : decode (bOf 95) 77 = .ok (.iconst 0, 1))
theorem x_95_78 : Ev d 95 78 L (.int x :: .ref r :: st) μ Q = Ev d 95 79 L (.int x :: .ref r :: .int x :: .ref r :: st) μ Q := e_dup2 (by decide +kernel : decode (bOf 95) 78 = .ok (.dup2, 1))
theorem x_95_79 (h : kd t r = 6) (hi : inB x (ln t r) = true) : Ev d 95 79 L (.int x :: .ref r :: st) (t, V, A, P) Q = Ev d 95 80 L (.int (A r x.toNatClampNeg) :: st) (t, V, A, P) Q := e_iald (by decide +kernel : decode (bOf 95) 79 = .ok (.iaload, 1)) h hi
theorem x_95_80 : Ev d 95 80 L st μ Q = Ev d 95 81 L (.int (iI 1) :: st) μ Q := e_iconst (by decide +kernel : decode (bOf 95) 80 = .ok (.iconst 1, 1))
theorem x_95_81 : Ev d 95 81 L (.int y :: .int x :: st) μ Q = Ev d 95 82 L (.int (x + y) :: st) μ Q := e_iadd (by decide +kernel : decode (bOf 95) 81 = .ok (.iadd, 1))
theorem x_95_82 (h : kd t r = 6) (hi : inB x (ln t r) = true) : Ev d 95 82 L (.int y :: .int x :: .ref r :: st) (t, V, A, P) Q = Ev d 95 83 L st (t, V, up1 A r (upd (A r) x.toNatClampNeg y), P) Q := e_iast (by decide +kernel : decode (bOf 95) 82 = .ok (.iastore, 1)) h hi
theorem x_95_83 : Ev d 95 83 (.ref r :: L) st μ Q = Ev d 95 84 (.ref r :: L) (.ref r :: st) μ Q := e_aload_n (by decide +kernel : decode (bOf 95) 83 = .ok (.aload_n 0, 1)) rfl
theorem x_95_84 (h : kd t r = 5) : Ev d 95 84 L (.ref r :: st) (t, V, A, P) Q = Ev d 95 87 L (V r 1 :: st) (t, V, A, P) Q := e_getf (by decide +kernel : decode (bOf 95) 84 = .ok (.getfield 7, 3)) (by decide +kernel) (by decide +kernel) h
theorem x_95_87 : Ev d 95 87 L st μ Q = Ev d 95 88 L (.int (iI 1) :: st) μ Q := e_iconst (by decide +kernel : decode (bOf 95) 87 = .ok (.iconst 1, 1))
theorem x_95_88 : Ev d 95 88 (a0 :: a1 :: .int x :: L) st μ Q = Ev d 95 89 (a0 :: a1 :: .int x :: L) (.int x :: st) μ Q := e_iload_n (by decide +kernel : decode (bOf 95) 88 = .ok (.iload_n 2, 1)) rfl
theorem x_95_89 : Ev d 95 89 L [b0, s0, s1] μ Q = Call d 81 [b0] μ (fun v μ1 => Ev d 95 92 L (v.toList ++ [s0, s1]) μ1 Q) := e_callS (a := [b0]) (r := [s0, s1]) (by decide +kernel : decode (bOf 95) 89 = .ok (.invokestatic 63, 3)) (by decide +kernel) (by decide +kernel) (by omega) rfl (by simp)
theorem x_95_92 : Ev d 95 92 L st μ Q = Ev d 95 93 L (.int (iI 3) :: st) μ Q := e_iconst (by decide +kernel : decode (bOf 95) 92 = .ok (.iconst 3, 1))
theorem x_95_93 : Ev d 95 93 L (.int y :: .int x :: st) μ Q = if x = y then Ev d 95 96 L st μ Q else Ev d 95 105 L st μ Q := e_icmp_ne (by decide +kernel : decode (bOf 95) 93 = .ok (.if_icmp .ne 12, 3)) (by omega)
theorem x_95_96 : Ev d 95 96 (.ref r :: L) st μ Q = Ev d 95 97 (.ref r :: L) (.ref r :: st) μ Q := e_aload_n (by decide +kernel : decode (bOf 95) 96 = .ok (.aload_n 0, 1)) rfl
theorem x_95_97 (h : kd t r = 5) : Ev d 95 97 L (.ref r :: st) (t, V, A, P) Q = Ev d 95 100 L (V r 1 :: st) (t, V, A, P) Q := e_getf (by decide +kernel : decode (bOf 95) 97 = .ok (.getfield 7, 3)) (by decide +kernel) (by decide +kernel) h
theorem x_95_100 : Ev d 95 100 L st μ Q = Ev d 95 101 L (.int (iI 1) :: st) μ Q := e_iconst (by decide +kernel : decode (bOf 95) 100 = .ok (.iconst 1, 1))
theorem x_95_101 (h : kd t r = 6) (hi : inB x (ln t r) = true) : Ev d 95 101 L (.int x :: .ref r :: st) (t, V, A, P) Q = Ev d 95 102 L (.int (A r x.toNatClampNeg) :: st) (t, V, A, P) Q := e_iald (by decide +kernel : decode (bOf 95) 101 = .ok (.iaload, 1)) h hi
theorem x_95_102 : Ev d 95 102 L st μ Q = Ev d 95 112 L st μ Q := e_goto (by decide +kernel : decode (bOf 95) 102 = .ok (.goto 10, 3)) (by omega)
theorem x_95_105 : Ev d 95 105 (.ref r :: L) st μ Q = Ev d 95 106 (.ref r :: L) (.ref r :: st) μ Q := e_aload_n (by decide +kernel : decode (bOf 95) 105 = .ok (.aload_n 0, 1)) rfl
theorem x_95_106 (h : kd t r = 5) : Ev d 95 106 L (.ref r :: st) (t, V, A, P) Q = Ev d 95 109 L (V r 1 :: st) (t, V, A, P) Q := e_getf (by decide +kernel : decode (bOf 95) 106 = .ok (.getfield 7, 3)) (by decide +kernel) (by decide +kernel) h
theorem x_95_109 : Ev d 95 109 L st μ Q = Ev d 95 110 L (.int (iI 1) :: st) μ Q := e_iconst (by decide +kernel : decode (bOf 95) 109 = .ok (.iconst 1, 1))
theorem x_95_110 (h : kd t r = 6) (hi : inB x (ln t r) = true) : Ev d 95 110 L (.int x :: .ref r :: st) (t, V, A, P) Q = Ev d 95 111 L (.int (A r x.toNatClampNeg) :: st) (t, V, A, P) Q := e_iald (by decide +kernel : decode (bOf 95) 110 = .ok (.iaload, 1)) h hi
theorem x_95_111 : Ev d 95 111 L (.int x :: st) μ Q = Ev d 95 112 L (.int (-x) :: st) μ Q := e_ineg (by decide +kernel : decode (bOf 95) 111 = .ok (.ineg, 1))
theorem x_95_112 (h : kd t r = 6) (hi : inB x (ln t r) = true) : Ev d 95 112 L (.int y :: .int x :: .ref r :: st) (t, V, A, P) Q = Ev d 95 113 L st (t, V, up1 A r (upd (A r) x.toNatClampNeg y), P) Q := e_iast (by decide +kernel : decode (bOf 95) 112 = .ok (.iastore, 1)) h hi
theorem x_95_113 : Ev d 95 113 (a0 :: .int x :: L) st μ Q = Ev d 95 114 (a0 :: .int x :: L) (.int x :: st) μ Q := e_iload_n (by decide +kernel : decode (bOf 95) 113 = .ok (.iload_n 1, 1)) rfl
theorem x_95_114 : Ev d 95 114 L st μ Q = Ev d 95 116 L (.int (iI 30) :: st) μ Q := e_bipush (by decide +kernel : decode (bOf 95) 114 = .ok (.bipush 30, 2)) (by decide +kernel)
theorem x_95_116 : Ev d 95 116 L (.int y :: .int x :: st) μ Q = if y < x then Ev d 95 119 L st μ Q else Ev d 95 127 L st μ Q := e_icmp_le (by decide +kernel : decode (bOf 95) 116 = .ok (.if_icmp .le 11, 3)) (by omega)
theorem x_95_119 : Ev d 95 119 (.ref r :: L) st μ Q = Ev d 95 120 (.ref r :: L) (.ref r :: st) μ Q := e_aload_n (by decide +kernel : decode (bOf 95) 119 = .ok (.aload_n 0, 1)) rfl
theorem x_95_120 : Ev d 95 120 (a0 :: .int x :: L) st μ Q = Ev d 95 121 (a0 :: .int x :: L) (.int x :: st) μ Q := e_iload_n (by decide +kernel : decode (bOf 95) 120 = .ok (.iload_n 1, 1)) rfl
theorem x_95_121 : Ev d 95 121 L st μ Q = Ev d 95 123 L (.int (iI 31) :: st) μ Q := e_bipush (by decide +kernel : decode (bOf 95) 121 = .ok (.bipush 31, 2)) (by decide +kernel)
theorem x_95_123 : Ev d 95 123 L (.int y :: .int x :: st) μ Q = Ev d 95 124 L (.int (x - y) :: st) μ Q := e_isub (by decide +kernel : decode (bOf 95) 123 = .ok (.isub, 1))
theorem x_95_124 (h : kd t r = 5) : Ev d 95 124 L [b0, .ref r] (t, V, A, P) Q = Call d 94 [.ref r, b0] (t, V, A, P) (fun v μ1 => Ev d 95 127 L (v.toList ++ []) μ1 Q) := e_callV (a := [b0]) (r := []) (by decide +kernel : decode (bOf 95) 124 = .ok (.invokevirtual 129, 3)) (by decide +kernel) (by decide +kernel) (by decide +kernel) (by omega) rfl (by simp) (by decide +kernel) h
theorem x_95_127 : Ev d 95 127 (a0 :: a1 :: .int x :: L) st μ Q = Ev d 95 128 (a0 :: a1 :: .int x :: L) (.int x :: st) μ Q := e_iload_n (by decide +kernel : decode (bOf 95) 127 = .ok (.iload_n 2, 1)) rfl
theorem x_95_128 : Ev d 95 128 L [.int x] μ Q = Q (some (.int x)) μ := e_iret (by decide +kernel : decode (bOf 95) 128 = .ok (.ireturn, 1)) (by decide +kernel)
theorem c_96 : Call (d + 1) 96 [.ref r0, .int i1] μ Q = Ev d 96 0 [.ref r0, .int i1] [] μ Q := call_ev rfl rfl
theorem x_96_0 : Ev d 96 0 (.ref r :: L) st μ Q = Ev d 96 1 (.ref r :: L) (.ref r :: st) μ Q := e_aload_n (by decide +kernel : decode (bOf 96) 0 = .ok (.aload_n 0, 1)) rfl
theorem x_96_1 : Ev d 96 1 L st μ Q = Ev d 96 2 L (.int (iI 0) :: st) μ Q := e_iconst (by decide +kernel : decode (bOf 96) 1 = .ok (.iconst 0, 1))
theorem x_96_2 (h : kd t r = 5) : Ev d 96 2 L (.int x :: .ref r :: st) (t, V, A, P) Q = Ev d 96 5 L st (t, up1 V r (up1 (V r) 0 (.int x)), A, P) Q := e_putf (by decide +kernel : decode (bOf 96) 2 = .ok (.putfield 59, 3)) (by decide +kernel) (by decide +kernel) rfl h
theorem x_96_5 : Ev d 96 5 (a0 :: .int x :: L) st μ Q = Ev d 96 6 (a0 :: .int x :: L) (.int x :: st) μ Q := e_iload_n (by decide +kernel : decode (bOf 96) 5 = .ok (.iload_n 1, 1)) rfl
theorem x_96_6 : Ev d 96 6 L st μ Q = Ev d 96 7 L (.int (iI 0) :: st) μ Q := e_iconst (by decide +kernel : decode (bOf 96) 6 = .ok (.iconst 0, 1))
theorem x_96_7 : Ev d 96 7 L st μ Q = Ev d 96 9 L (.int (iI 30) :: st) μ Q := e_bipush (by decide +kernel : decode (bOf 96) 7 = .ok (.bipush 30, 2)) (by decide +kernel)
theorem x_96_9 : Ev d 96 9 L [b2, b1, b0] μ Q = Call d 80 [b0, b1, b2] μ (fun v μ1 => Ev d 96 12 L (v.toList ++ []) μ1 Q) := e_callS (a := [b0, b1, b2]) (r := []) (by decide +kernel : decode (bOf 96) 9 = .ok (.invokestatic 85, 3)) (by decide +kernel) (by decide +kernel) (by omega) rfl (by simp)
theorem x_96_12 : Ev d 96 12 L (.int x :: st) μ Q = if x = iI 0 then Ev d 96 15 L st μ Q else Ev d 96 17 L st μ Q := e_if_ne (by decide +kernel : decode (bOf 96) 12 = .ok (.ifCond .ne 5, 3)) (by omega)
theorem x_96_15 : Ev d 96 15 L st μ Q = Ev d 96 16 L (.int (iI (-1)) :: st) μ Q := e_iconst (by decide +kernel : decode (bOf 96) 15 = .ok (.iconst (-1), 1))
theorem x_96_16 : Ev d 96 16 L [.int x] μ Q = Q (some (.int x)) μ := e_iret (by decide +kernel : decode (bOf 96) 16 = .ok (.ireturn, 1)) (by decide +kernel)
theorem x_96_17 : Ev d 96 17 (.ref r :: L) st μ Q = Ev d 96 18 (.ref r :: L) (.ref r :: st) μ Q := e_aload_n (by decide +kernel : decode (bOf 96) 17 = .ok (.aload_n 0, 1)) rfl
theorem x_96_18 (h : kd t r = 5) : Ev d 96 18 L (.ref r :: st) (t, V, A, P) Q = Ev d 96 21 L (V r 1 :: st) (t, V, A, P) Q := e_getf (by decide +kernel : decode (bOf 96) 18 = .ok (.getfield 7, 3)) (by decide +kernel) (by decide +kernel) h
theorem x_96_21 : Ev d 96 21 L st μ Q = Ev d 96 22 L (.int (iI 0) :: st) μ Q := e_iconst (by decide +kernel : decode (bOf 96) 21 = .ok (.iconst 0, 1))
theorem x_96_22 (h : kd t r = 6) (hi : inB x (ln t r) = true) : Ev d 96 22 L (.int x :: .ref r :: st) (t, V, A, P) Q = Ev d 96 23 L (.int (A r x.toNatClampNeg) :: st) (t, V, A, P) Q := e_iald (by decide +kernel : decode (bOf 96) 22 = .ok (.iaload, 1)) h hi
theorem x_96_23 : Ev d 96 23 L st μ Q = Ev d 96 25 L (.int (iI 32) :: st) μ Q := e_bipush (by decide +kernel : decode (bOf 96) 23 = .ok (.bipush 32, 2)) (by decide +kernel)
theorem x_96_25 : Ev d 96 25 L (.int y :: .int x :: st) μ Q = if x = y then Ev d 96 28 L st μ Q else Ev d 96 31 L st μ Q := e_icmp_ne (by decide +kernel : decode (bOf 96) 25 = .ok (.if_icmp .ne 6, 3)) (by omega)
theorem x_96_28 : Ev d 96 28 L st μ Q = Ev d 96 30 L (.int (iI (-3)) :: st) μ Q := e_bipush (by decide +kernel : decode (bOf 96) 28 = .ok (.bipush (-3), 2)) (by decide +kernel)
theorem x_96_30 : Ev d 96 30 L [.int x] μ Q = Q (some (.int x)) μ := e_iret (by decide +kernel : decode (bOf 96) 30 = .ok (.ireturn, 1)) (by decide +kernel)
theorem x_96_31 : Ev d 96 31 (.ref r :: L) st μ Q = Ev d 96 32 (.ref r :: L) (.ref r :: st) μ Q := e_aload_n (by decide +kernel : decode (bOf 96) 31 = .ok (.aload_n 0, 1)) rfl
theorem x_96_32 (h : kd t r = 5) : Ev d 96 32 L [.ref r] (t, V, A, P) Q = Call d 93 [.ref r] (t, V, A, P) (fun v μ1 => Ev d 96 35 L (v.toList ++ []) μ1 Q) := e_callV (a := []) (r := []) (by decide +kernel : decode (bOf 96) 32 = .ok (.invokevirtual 120, 3)) (by decide +kernel) (by decide +kernel) (by decide +kernel) (by omega) rfl (by simp) (by decide +kernel) h
theorem x_96_35 : Ev d 96 35 (.ref r :: L) st μ Q = Ev d 96 36 (.ref r :: L) (.ref r :: st) μ Q := e_aload_n (by decide +kernel : decode (bOf 96) 35 = .ok (.aload_n 0, 1)) rfl
theorem x_96_36 : Ev d 96 36 (a0 :: .int x :: L) st μ Q = Ev d 96 37 (a0 :: .int x :: L) (.int x :: st) μ Q := e_iload_n (by decide +kernel : decode (bOf 96) 36 = .ok (.iload_n 1, 1)) rfl
theorem x_96_37 (h : kd t r = 5) : Ev d 96 37 L [b0, .ref r] (t, V, A, P) Q = Call d 95 [.ref r, b0] (t, V, A, P) (fun v μ1 => Ev d 96 40 L (v.toList ++ []) μ1 Q) := e_callV (a := [b0]) (r := []) (by decide +kernel : decode (bOf 96) 37 = .ok (.invokevirtual 123, 3)) (by decide +kernel) (by decide +kernel) (by decide +kernel) (by omega) rfl (by simp) (by decide +kernel) h
theorem x_96_40 : Ev d 96 40 L [.int x] μ Q = Q (some (.int x)) μ := e_iret (by decide +kernel : decode (bOf 96) 40 = .ok (.ireturn, 1)) (by decide +kernel)
theorem c_97 : Call (d + 1) 97 [.ref r0, .int i1] μ Q = Ev d 97 0 [.ref r0, .int i1] [] μ Q := call_ev rfl rfl
theorem x_97_0 : Ev d 97 0 (.ref r :: L) st μ Q = Ev d 97 1 (.ref r :: L) (.ref r :: st) μ Q := e_aload_n (by decide +kernel : decode (bOf 97) 0 = .ok (.aload_n 0, 1)) rfl
theorem x_97_1 : Ev d 97 1 L st μ Q = Ev d 97 2 L (.int (iI 0) :: st) μ Q := e_iconst (by decide +kernel : decode (bOf 97) 1 = .ok (.iconst 0, 1))
theorem x_97_2 (h : kd t r = 5) : Ev d 97 2 L (.int x :: .ref r :: st) (t, V, A, P) Q = Ev d 97 5 L st (t, up1 V r (up1 (V r) 0 (.int x)), A, P) Q := e_putf (by decide +kernel : decode (bOf 97) 2 = .ok (.putfield 59, 3)) (by decide +kernel) (by decide +kernel) rfl h
theorem x_97_5 : Ev d 97 5 (a0 :: .int x :: L) st μ Q = Ev d 97 6 (a0 :: .int x :: L) (.int x :: st) μ Q := e_iload_n (by decide +kernel : decode (bOf 97) 5 = .ok (.iload_n 1, 1)) rfl
theorem x_97_6 : Ev d 97 6 L st μ Q = Ev d 97 7 L (.int (iI 0) :: st) μ Q := e_iconst (by decide +kernel : decode (bOf 97) 6 = .ok (.iconst 0, 1))
theorem x_97_7 : Ev d 97 7 L st μ Q = Ev d 97 8 L (.int (iI 2) :: st) μ Q := e_iconst (by decide +kernel : decode (bOf 97) 7 = .ok (.iconst 2, 1))
theorem x_97_8 : Ev d 97 8 L [b2, b1, b0] μ Q = Call d 80 [b0, b1, b2] μ (fun v μ1 => Ev d 97 11 L (v.toList ++ []) μ1 Q) := e_callS (a := [b0, b1, b2]) (r := []) (by decide +kernel : decode (bOf 97) 8 = .ok (.invokestatic 85, 3)) (by decide +kernel) (by decide +kernel) (by omega) rfl (by simp)
theorem x_97_11 : Ev d 97 11 L (.int x :: st) μ Q = if x = iI 0 then Ev d 97 14 L st μ Q else Ev d 97 16 L st μ Q := e_if_ne (by decide +kernel : decode (bOf 97) 11 = .ok (.ifCond .ne 5, 3)) (by omega)
theorem x_97_14 : Ev d 97 14 L st μ Q = Ev d 97 15 L (.int (iI (-1)) :: st) μ Q := e_iconst (by decide +kernel : decode (bOf 97) 14 = .ok (.iconst (-1), 1))
theorem x_97_15 : Ev d 97 15 L [.int x] μ Q = Q (some (.int x)) μ := e_iret (by decide +kernel : decode (bOf 97) 15 = .ok (.ireturn, 1)) (by decide +kernel)
theorem x_97_16 : Ev d 97 16 (.ref r :: L) st μ Q = Ev d 97 17 (.ref r :: L) (.ref r :: st) μ Q := e_aload_n (by decide +kernel : decode (bOf 97) 16 = .ok (.aload_n 0, 1)) rfl
theorem x_97_17 (h : kd t r = 5) : Ev d 97 17 L (.ref r :: st) (t, V, A, P) Q = Ev d 97 20 L (V r 1 :: st) (t, V, A, P) Q := e_getf (by decide +kernel : decode (bOf 97) 17 = .ok (.getfield 7, 3)) (by decide +kernel) (by decide +kernel) h
theorem x_97_20 : Ev d 97 20 L st μ Q = Ev d 97 21 L (.int (iI 0) :: st) μ Q := e_iconst (by decide +kernel : decode (bOf 97) 20 = .ok (.iconst 0, 1))
theorem x_97_21 (h : kd t r = 6) (hi : inB x (ln t r) = true) : Ev d 97 21 L (.int x :: .ref r :: st) (t, V, A, P) Q = Ev d 97 22 L (.int (A r x.toNatClampNeg) :: st) (t, V, A, P) Q := e_iald (by decide +kernel : decode (bOf 97) 21 = .ok (.iaload, 1)) h hi
theorem x_97_22 : Ev d 97 22 L st μ Q = Ev d 97 24 L (.int (iI 32) :: st) μ Q := e_bipush (by decide +kernel : decode (bOf 97) 22 = .ok (.bipush 32, 2)) (by decide +kernel)
theorem x_97_24 : Ev d 97 24 L (.int y :: .int x :: st) μ Q = if x = y then Ev d 97 27 L st μ Q else Ev d 97 30 L st μ Q := e_icmp_ne (by decide +kernel : decode (bOf 97) 24 = .ok (.if_icmp .ne 6, 3)) (by omega)
theorem x_97_27 : Ev d 97 27 L st μ Q = Ev d 97 29 L (.int (iI (-3)) :: st) μ Q := e_bipush (by decide +kernel : decode (bOf 97) 27 = .ok (.bipush (-3), 2)) (by decide +kernel)
theorem x_97_29 : Ev d 97 29 L [.int x] μ Q = Q (some (.int x)) μ := e_iret (by decide +kernel : decode (bOf 97) 29 = .ok (.ireturn, 1)) (by decide +kernel)
theorem x_97_30 : Ev d 97 30 (.ref r :: L) st μ Q = Ev d 97 31 (.ref r :: L) (.ref r :: st) μ Q := e_aload_n (by decide +kernel : decode (bOf 97) 30 = .ok (.aload_n 0, 1)) rfl
theorem x_97_31 (h : kd t r = 5) : Ev d 97 31 L [.ref r] (t, V, A, P) Q = Call d 93 [.ref r] (t, V, A, P) (fun v μ1 => Ev d 97 34 L (v.toList ++ []) μ1 Q) := e_callV (a := []) (r := []) (by decide +kernel : decode (bOf 97) 31 = .ok (.invokevirtual 120, 3)) (by decide +kernel) (by decide +kernel) (by decide +kernel) (by omega) rfl (by simp) (by decide +kernel) h
theorem x_97_34 : Ev d 97 34 (.ref r :: L) st μ Q = Ev d 97 35 (.ref r :: L) (.ref r :: st) μ Q := e_aload_n (by decide +kernel : decode (bOf 97) 34 = .ok (.aload_n 0, 1)) rfl
theorem x_97_35 : Ev d 97 35 L st μ Q = Ev d 97 37 L (.int (iI 31) :: st) μ Q := e_bipush (by decide +kernel : decode (bOf 97) 35 = .ok (.bipush 31, 2)) (by decide +kernel)
theorem x_97_37 : Ev d 97 37 (a0 :: .int x :: L) st μ Q = Ev d 97 38 (a0 :: .int x :: L) (.int x :: st) μ Q := e_iload_n (by decide +kernel : decode (bOf 97) 37 = .ok (.iload_n 1, 1)) rfl
theorem x_97_38 : Ev d 97 38 L (.int y :: .int x :: st) μ Q = Ev d 97 39 L (.int (x + y) :: st) μ Q := e_iadd (by decide +kernel : decode (bOf 97) 38 = .ok (.iadd, 1))
theorem x_97_39 (h : kd t r = 5) : Ev d 97 39 L [b0, .ref r] (t, V, A, P) Q = Call d 95 [.ref r, b0] (t, V, A, P) (fun v μ1 => Ev d 97 42 L (v.toList ++ []) μ1 Q) := e_callV (a := [b0]) (r := []) (by decide +kernel : decode (bOf 97) 39 = .ok (.invokevirtual 123, 3)) (by decide +kernel) (by decide +kernel) (by decide +kernel) (by omega) rfl (by simp) (by decide +kernel) h
theorem x_97_42 : Ev d 97 42 L [.int x] μ Q = Q (some (.int x)) μ := e_iret (by decide +kernel : decode (bOf 97) 42 = .ok (.ireturn, 1)) (by decide +kernel)
theorem c_98 : Call (d + 1) 98 [.ref r0, .int i1] μ Q = Ev d 98 0 [.ref r0, .int i1] [] μ Q := call_ev rfl rfl
theorem x_98_0 : Ev d 98 0 (a0 :: .int x :: L) st μ Q = Ev d 98 1 (a0 :: .int x :: L) (.int x :: st) μ Q := e_iload_n (by decide +kernel : decode (bOf 98) 0 = .ok (.iload_n 1, 1)) rfl
theorem x_98_1 : Ev d 98 1 L st μ Q = Ev d 98 2 L (.int (iI 0) :: st) μ Q := e_iconst (by decide +kernel : decode (bOf 98) 1 = .ok (.iconst 0, 1))
theorem x_98_2 : Ev d 98 2 L st μ Q = Ev d 98 4 L (.int (iI 6) :: st) μ Q := e_bipush (by decide +kernel : decode (bOf 98) 2 = .ok (.bipush 6, 2)) (by decide +kernel)
theorem x_98_4 : Ev d 98 4 (.ref r :: L) st μ Q = Ev d 98 5 (.ref r :: L) (.ref r :: st) μ Q := e_aload_n (by decide +kernel : decode (bOf 98) 4 = .ok (.aload_n 0, 1)) rfl
theorem x_98_5 (h : kd t r = 5) : Ev d 98 5 L (.ref r :: st) (t, V, A, P) Q = Ev d 98 8 L (V r 1 :: st) (t, V, A, P) Q := e_getf (by decide +kernel : decode (bOf 98) 5 = .ok (.getfield 7, 3)) (by decide +kernel) (by decide +kernel) h
theorem x_98_8 : Ev d 98 8 L st μ Q = Ev d 98 9 L (.int (iI 0) :: st) μ Q := e_iconst (by decide +kernel : decode (bOf 98) 8 = .ok (.iconst 0, 1))
theorem x_98_9 (h : kd t r = 6) (hi : inB x (ln t r) = true) : Ev d 98 9 L (.int x :: .ref r :: st) (t, V, A, P) Q = Ev d 98 10 L (.int (A r x.toNatClampNeg) :: st) (t, V, A, P) Q := e_iald (by decide +kernel : decode (bOf 98) 9 = .ok (.iaload, 1)) h hi
theorem x_98_10 : Ev d 98 10 L (.int y :: .int x :: st) μ Q = Ev d 98 11 L (.int (x * y) :: st) μ Q := e_imul (by decide +kernel : decode (bOf 98) 10 = .ok (.imul, 1))
theorem x_98_11 : Ev d 98 11 L st μ Q = Ev d 98 12 L (.int (iI 1) :: st) μ Q := e_iconst (by decide +kernel : decode (bOf 98) 11 = .ok (.iconst 1, 1))
theorem x_98_12 : Ev d 98 12 L (.int y :: .int x :: st) μ Q = Ev d 98 13 L (.int (x - y) :: st) μ Q := e_isub (by decide +kernel : decode (bOf 98) 12 = .ok (.isub, 1))
theorem x_98_13 : Ev d 98 13 L [b2, b1, b0] μ Q = Call d 80 [b0, b1, b2] μ (fun v μ1 => Ev d 98 16 L (v.toList ++ []) μ1 Q) := e_callS (a := [b0, b1, b2]) (r := []) (by decide +kernel : decode (bOf 98) 13 = .ok (.invokestatic 85, 3)) (by decide +kernel) (by decide +kernel) (by omega) rfl (by simp)
theorem x_98_16 (hx : isB x) : Ev d 98 16 L [.int x] μ Q = Q (some (.int x)) μ := e_zret (by decide +kernel : decode (bOf 98) 16 = .ok (.ireturn, 1)) (by decide +kernel) hx
theorem c_99 : Call (d + 1) 99 [.ref r0, .int i1] μ Q = Ev d 99 0 [.ref r0, .int i1] [] μ Q := call_ev rfl rfl
theorem x_99_0 : Ev d 99 0 (.ref r :: L) st μ Q = Ev d 99 1 (.ref r :: L) (.ref r :: st) μ Q := e_aload_n (by decide +kernel : decode (bOf 99) 0 = .ok (.aload_n 0, 1)) rfl
theorem x_99_1 : Ev d 99 1 L st μ Q = Ev d 99 2 L (.int (iI 0) :: st) μ Q := e_iconst (by decide +kernel : decode (bOf 99) 1 = .ok (.iconst 0, 1))
theorem x_99_2 (h : kd t r = 5) : Ev d 99 2 L (.int x :: .ref r :: st) (t, V, A, P) Q = Ev d 99 5 L st (t, up1 V r (up1 (V r) 0 (.int x)), A, P) Q := e_putf (by decide +kernel : decode (bOf 99) 2 = .ok (.putfield 59, 3)) (by decide +kernel) (by decide +kernel) rfl h
theorem x_99_5 : Ev d 99 5 (.ref r :: L) st μ Q = Ev d 99 6 (.ref r :: L) (.ref r :: st) μ Q := e_aload_n (by decide +kernel : decode (bOf 99) 5 = .ok (.aload_n 0, 1)) rfl
theorem x_99_6 : Ev d 99 6 (a0 :: .int x :: L) st μ Q = Ev d 99 7 (a0 :: .int x :: L) (.int x :: st) μ Q := e_iload_n (by decide +kernel : decode (bOf 99) 6 = .ok (.iload_n 1, 1)) rfl
theorem x_99_7 (h : kd t r = 5) : Ev d 99 7 L [b0, .ref r] (t, V, A, P) Q = Call d 98 [.ref r, b0] (t, V, A, P) (fun v μ1 => Ev d 99 10 L (v.toList ++ []) μ1 Q) := e_callV (a := [b0]) (r := []) (by decide +kernel : decode (bOf 99) 7 = .ok (.invokevirtual 133, 3)) (by decide +kernel) (by decide +kernel) (by decide +kernel) (by omega) rfl (by simp) (by decide +kernel) h
theorem x_99_10 : Ev d 99 10 L (.int x :: st) μ Q = if x = iI 0 then Ev d 99 13 L st μ Q else Ev d 99 15 L st μ Q := e_if_ne (by decide +kernel : decode (bOf 99) 10 = .ok (.ifCond .ne 5, 3)) (by omega)
theorem x_99_13 : Ev d 99 13 L st μ Q = Ev d 99 14 L (.int (iI (-1)) :: st) μ Q := e_iconst (by decide +kernel : decode (bOf 99) 13 = .ok (.iconst (-1), 1))
theorem x_99_14 : Ev d 99 14 L [.int x] μ Q = Q (some (.int x)) μ := e_iret (by decide +kernel : decode (bOf 99) 14 = .ok (.ireturn, 1)) (by decide +kernel)
theorem x_99_15 : Ev d 99 15 (.ref r :: L) st μ Q = Ev d 99 16 (.ref r :: L) (.ref r :: st) μ Q := e_aload_n (by decide +kernel : decode (bOf 99) 15 = .ok (.aload_n 0, 1)) rfl
theorem x_99_16 (h : kd t r = 5) : Ev d 99 16 L [.ref r] (t, V, A, P) Q = Call d 93 [.ref r] (t, V, A, P) (fun v μ1 => Ev d 99 19 L (v.toList ++ []) μ1 Q) := e_callV (a := []) (r := []) (by decide +kernel : decode (bOf 99) 16 = .ok (.invokevirtual 120, 3)) (by decide +kernel) (by decide +kernel) (by decide +kernel) (by omega) rfl (by simp) (by decide +kernel) h
theorem x_99_19 : Ev d 99 19 (.ref r :: L) st μ Q = Ev d 99 20 (.ref r :: L) (.ref r :: st) μ Q := e_aload_n (by decide +kernel : decode (bOf 99) 19 = .ok (.aload_n 0, 1)) rfl
theorem x_99_20 (h : kd t r = 5) : Ev d 99 20 L (.ref r :: st) (t, V, A, P) Q = Ev d 99 23 L (V r 1 :: st) (t, V, A, P) Q := e_getf (by decide +kernel : decode (bOf 99) 20 = .ok (.getfield 7, 3)) (by decide +kernel) (by decide +kernel) h
theorem x_99_23 : Ev d 99 23 L st μ Q = Ev d 99 25 L (.int (iI 36) :: st) μ Q := e_bipush (by decide +kernel : decode (bOf 99) 23 = .ok (.bipush 36, 2)) (by decide +kernel)
theorem x_99_25 : Ev d 99 25 (a0 :: .int x :: L) st μ Q = Ev d 99 26 (a0 :: .int x :: L) (.int x :: st) μ Q := e_iload_n (by decide +kernel : decode (bOf 99) 25 = .ok (.iload_n 1, 1)) rfl
theorem x_99_26 : Ev d 99 26 L (.int y :: .int x :: st) μ Q = Ev d 99 27 L (.int (x + y) :: st) μ Q := e_iadd (by decide +kernel : decode (bOf 99) 26 = .ok (.iadd, 1))
theorem x_99_27 : Ev d 99 27 L st μ Q = Ev d 99 28 L (.int (iI 1) :: st) μ Q := e_iconst (by decide +kernel : decode (bOf 99) 27 = .ok (.iconst 1, 1))
theorem x_99_28 : Ev d 99 28 (.ref r :: L) st μ Q = Ev d 99 29 (.ref r :: L) (.ref r :: st) μ Q := e_aload_n (by decide +kernel : decode (bOf 99) 28 = .ok (.aload_n 0, 1)) rfl
theorem x_99_29 (h : kd t r = 5) : Ev d 99 29 L (.ref r :: st) (t, V, A, P) Q = Ev d 99 32 L (V r 1 :: st) (t, V, A, P) Q := e_getf (by decide +kernel : decode (bOf 99) 29 = .ok (.getfield 7, 3)) (by decide +kernel) (by decide +kernel) h
theorem x_99_32 : Ev d 99 32 L st μ Q = Ev d 99 34 L (.int (iI 36) :: st) μ Q := e_bipush (by decide +kernel : decode (bOf 99) 32 = .ok (.bipush 36, 2)) (by decide +kernel)
theorem x_99_34 : Ev d 99 34 (a0 :: .int x :: L) st μ Q = Ev d 99 35 (a0 :: .int x :: L) (.int x :: st) μ Q := e_iload_n (by decide +kernel : decode (bOf 99) 34 = .ok (.iload_n 1, 1)) rfl
theorem x_99_35 : Ev d 99 35 L (.int y :: .int x :: st) μ Q = Ev d 99 36 L (.int (x + y) :: st) μ Q := e_iadd (by decide +kernel : decode (bOf 99) 35 = .ok (.iadd, 1))
theorem x_99_36 (h : kd t r = 6) (hi : inB x (ln t r) = true) : Ev d 99 36 L (.int x :: .ref r :: st) (t, V, A, P) Q = Ev d 99 37 L (.int (A r x.toNatClampNeg) :: st) (t, V, A, P) Q := e_iald (by decide +kernel : decode (bOf 99) 36 = .ok (.iaload, 1)) h hi
theorem x_99_37 : Ev d 99 37 L (.int y :: .int x :: st) μ Q = Ev d 99 38 L (.int (x - y) :: st) μ Q := e_isub (by decide +kernel : decode (bOf 99) 37 = .ok (.isub, 1))
theorem x_99_38 (h : kd t r = 6) (hi : inB x (ln t r) = true) : Ev d 99 38 L (.int y :: .int x :: .ref r :: st) (t, V, A, P) Q = Ev d 99 39 L st (t, V, up1 A r (upd (A r) x.toNatClampNeg y), P) Q := e_iast (by decide +kernel : decode (bOf 99) 38 = .ok (.iastore, 1)) h hi
theorem x_99_39 : Ev d 99 39 (.ref r :: L) st μ Q = Ev d 99 40 (.ref r :: L) (.ref r :: st) μ Q := e_aload_n (by decide +kernel : decode (bOf 99) 39 = .ok (.aload_n 0, 1)) rfl
theorem x_99_40 (h : kd t r = 5) : Ev d 99 40 L (.ref r :: st) (t, V, A, P) Q = Ev d 99 43 L (V r 1 :: st) (t, V, A, P) Q := e_getf (by decide +kernel : decode (bOf 99) 40 = .ok (.getfield 7, 3)) (by decide +kernel) (by decide +kernel) h
theorem x_99_43 : Ev d 99 43 L st μ Q = Ev d 99 45 L (.int (iI 36) :: st) μ Q := e_bipush (by decide +kernel : decode (bOf 99) 43 = .ok (.bipush 36, 2)) (by decide +kernel)
theorem x_99_45 : Ev d 99 45 (a0 :: .int x :: L) st μ Q = Ev d 99 46 (a0 :: .int x :: L) (.int x :: st) μ Q := e_iload_n (by decide +kernel : decode (bOf 99) 45 = .ok (.iload_n 1, 1)) rfl
theorem x_99_46 : Ev d 99 46 L (.int y :: .int x :: st) μ Q = Ev d 99 47 L (.int (x + y) :: st) μ Q := e_iadd (by decide +kernel : decode (bOf 99) 46 = .ok (.iadd, 1))
theorem x_99_47 (h : kd t r = 6) (hi : inB x (ln t r) = true) : Ev d 99 47 L (.int x :: .ref r :: st) (t, V, A, P) Q = Ev d 99 48 L (.int (A r x.toNatClampNeg) :: st) (t, V, A, P) Q := e_iald (by decide +kernel : decode (bOf 99) 47 = .ok (.iaload, 1)) h hi
theorem x_99_48 : Ev d 99 48 L [.int x] μ Q = Q (some (.int x)) μ := e_iret (by decide +kernel : decode (bOf 99) 48 = .ok (.ireturn, 1)) (by decide +kernel)
theorem c_100 : Call (d + 1) 100 [.ref r0] μ Q = Ev d 100 0 [.ref r0, .null] [] μ Q := call_ev rfl rfl
theorem x_100_0 : Ev d 100 0 (.ref r :: L) st μ Q = Ev d 100 1 (.ref r :: L) (.ref r :: st) μ Q := e_aload_n (by decide +kernel : decode (bOf 100) 0 = .ok (.aload_n 0, 1)) rfl
theorem x_100_1 : Ev d 100 1 L st μ Q = Ev d 100 2 L (.int (iI 0) :: st) μ Q := e_iconst (by decide +kernel : decode (bOf 100) 1 = .ok (.iconst 0, 1))
theorem x_100_2 (h : kd t r = 5) : Ev d 100 2 L (.int x :: .ref r :: st) (t, V, A, P) Q = Ev d 100 5 L st (t, up1 V r (up1 (V r) 0 (.int x)), A, P) Q := e_putf (by decide +kernel : decode (bOf 100) 2 = .ok (.putfield 59, 3)) (by decide +kernel) (by decide +kernel) rfl h
theorem x_100_5 : Ev d 100 5 (.ref r :: L) st μ Q = Ev d 100 6 (.ref r :: L) (.ref r :: st) μ Q := e_aload_n (by decide +kernel : decode (bOf 100) 5 = .ok (.aload_n 0, 1)) rfl
theorem x_100_6 (h : kd t r = 5) : Ev d 100 6 L (.ref r :: st) (t, V, A, P) Q = Ev d 100 9 L (V r 1 :: st) (t, V, A, P) Q := e_getf (by decide +kernel : decode (bOf 100) 6 = .ok (.getfield 7, 3)) (by decide +kernel) (by decide +kernel) h
theorem x_100_9 : Ev d 100 9 L st μ Q = Ev d 100 10 L (.int (iI 0) :: st) μ Q := e_iconst (by decide +kernel : decode (bOf 100) 9 = .ok (.iconst 0, 1))
theorem x_100_10 (h : kd t r = 6) (hi : inB x (ln t r) = true) : Ev d 100 10 L (.int x :: .ref r :: st) (t, V, A, P) Q = Ev d 100 11 L (.int (A r x.toNatClampNeg) :: st) (t, V, A, P) Q := e_iald (by decide +kernel : decode (bOf 100) 10 = .ok (.iaload, 1)) h hi
theorem x_100_11 (h : a0.category = 1) : Ev d 100 11 (a0 :: a1 :: L) (.int x :: st) μ Q = Ev d 100 12 (a0 :: .int x :: L) st μ Q := e_istore_n (by decide +kernel : decode (bOf 100) 11 = .ok (.istore_n 1, 1)) (by show stOK _ 1 = true; simp [stOK, h])
theorem x_100_12 : Ev d 100 12 (a0 :: .int x :: L) st μ Q = Ev d 100 13 (a0 :: .int x :: L) (.int x :: st) μ Q := e_iload_n (by decide +kernel : decode (bOf 100) 12 = .ok (.iload_n 1, 1)) rfl
theorem x_100_13 : Ev d 100 13 L (.int x :: st) μ Q = if x = iI 0 then Ev d 100 16 L st μ Q else Ev d 100 19 L st μ Q := e_if_ne (by decide +kernel : decode (bOf 100) 13 = .ok (.ifCond .ne 6, 3)) (by omega)
theorem x_100_16 : Ev d 100 16 L st μ Q = Ev d 100 18 L (.int (iI (-2)) :: st) μ Q := e_bipush (by decide +kernel : decode (bOf 100) 16 = .ok (.bipush (-2), 2)) (by decide +kernel)
theorem x_100_18 : Ev d 100 18 L [.int x] μ Q = Q (some (.int x)) μ := e_iret (by decide +kernel : decode (bOf 100) 18 = .ok (.ireturn, 1)) (by decide +kernel)
theorem x_100_19 : Ev d 100 19 (.ref r :: L) st μ Q = Ev d 100 20 (.ref r :: L) (.ref r :: st) μ Q := e_aload_n (by decide +kernel : decode (bOf 100) 19 = .ok (.aload_n 0, 1)) rfl
theorem x_100_20 (h : kd t r = 5) : Ev d 100 20 L [.ref r] (t, V, A, P) Q = Call d 93 [.ref r] (t, V, A, P) (fun v μ1 => Ev d 100 23 L (v.toList ++ []) μ1 Q) := e_callV (a := []) (r := []) (by decide +kernel : decode (bOf 100) 20 = .ok (.invokevirtual 120, 3)) (by decide +kernel) (by decide +kernel) (by decide +kernel) (by omega) rfl (by simp) (by decide +kernel) h
theorem x_100_23 : Ev d 100 23 (.ref r :: L) st μ Q = Ev d 100 24 (.ref r :: L) (.ref r :: st) μ Q := e_aload_n (by decide +kernel : decode (bOf 100) 23 = .ok (.aload_n 0, 1)) rfl
theorem x_100_24 (h : kd t r = 5) : Ev d 100 24 L [.ref r] (t, V, A, P) Q = Call d 79 [.ref r] (t, V, A, P) (fun v μ1 => Ev d 100 27 L (v.toList ++ []) μ1 Q) := e_callV (a := []) (r := []) (by decide +kernel : decode (bOf 100) 24 = .ok (.invokevirtual 56, 3)) (by decide +kernel) (by decide +kernel) (by decide +kernel) (by omega) rfl (by simp) (by decide +kernel) h
theorem x_100_27 : Ev d 100 27 (a0 :: .int x :: L) st μ Q = Ev d 100 28 (a0 :: .int x :: L) (.int x :: st) μ Q := e_iload_n (by decide +kernel : decode (bOf 100) 27 = .ok (.iload_n 1, 1)) rfl
theorem x_100_28 : Ev d 100 28 L [.int x] μ Q = Q (some (.int x)) μ := e_iret (by decide +kernel : decode (bOf 100) 28 = .ok (.ireturn, 1)) (by decide +kernel)
theorem c_101 : Call (d + 1) 101 [.ref r0] μ Q = Ev d 101 0 [.ref r0, .null] [] μ Q := call_ev rfl rfl
theorem x_101_0 : Ev d 101 0 (.ref r :: L) st μ Q = Ev d 101 1 (.ref r :: L) (.ref r :: st) μ Q := e_aload_n (by decide +kernel : decode (bOf 101) 0 = .ok (.aload_n 0, 1)) rfl
theorem x_101_1 : Ev d 101 1 L st μ Q = Ev d 101 2 L (.int (iI 0) :: st) μ Q := e_iconst (by decide +kernel : decode (bOf 101) 1 = .ok (.iconst 0, 1))
theorem x_101_2 (h : kd t r = 5) : Ev d 101 2 L (.int x :: .ref r :: st) (t, V, A, P) Q = Ev d 101 5 L st (t, up1 V r (up1 (V r) 0 (.int x)), A, P) Q := e_putf (by decide +kernel : decode (bOf 101) 2 = .ok (.putfield 59, 3)) (by decide +kernel) (by decide +kernel) rfl h
theorem x_101_5 : Ev d 101 5 (.ref r :: L) st μ Q = Ev d 101 6 (.ref r :: L) (.ref r :: st) μ Q := e_aload_n (by decide +kernel : decode (bOf 101) 5 = .ok (.aload_n 0, 1)) rfl
theorem x_101_6 (h : kd t r = 5) : Ev d 101 6 L (.ref r :: st) (t, V, A, P) Q = Ev d 101 9 L (V r 3 :: st) (t, V, A, P) Q := e_getf (by decide +kernel : decode (bOf 101) 6 = .ok (.getfield 126, 3)) (by decide +kernel) (by decide +kernel) h
theorem x_101_9 : Ev d 101 9 L (.int x :: st) μ Q = if x = iI 0 then Ev d 101 12 L st μ Q else Ev d 101 15 L st μ Q := e_if_ne (by decide +kernel : decode (bOf 101) 9 = .ok (.ifCond .ne 6, 3)) (by omega)
theorem x_101_12 : Ev d 101 12 L st μ Q = Ev d 101 14 L (.int (iI (-2)) :: st) μ Q := e_bipush (by decide +kernel : decode (bOf 101) 12 = .ok (.bipush (-2), 2)) (by decide +kernel)
theorem x_101_14 : Ev d 101 14 L [.int x] μ Q = Q (some (.int x)) μ := e_iret (by decide +kernel : decode (bOf 101) 14 = .ok (.ireturn, 1)) (by decide +kernel)
theorem x_101_15 : Ev d 101 15 (.ref r :: L) st μ Q = Ev d 101 16 (.ref r :: L) (.ref r :: st) μ Q := e_aload_n (by decide +kernel : decode (bOf 101) 15 = .ok (.aload_n 0, 1)) rfl
theorem x_101_16 : Ev d 101 16 L (.ref r :: st) μ Q = Ev d 101 17 L (.ref r :: .ref r :: st) μ Q := e_dup_a (by decide +kernel : decode (bOf 101) 16 = .ok (.dup, 1))
theorem x_101_17 (h : kd t r = 5) : Ev d 101 17 L (.ref r :: st) (t, V, A, P) Q = Ev d 101 20 L (V r 3 :: st) (t, V, A, P) Q := e_getf (by decide +kernel : decode (bOf 101) 17 = .ok (.getfield 126, 3)) (by decide +kernel) (by decide +kernel) h
theorem x_101_20 : Ev d 101 20 L st μ Q = Ev d 101 21 L (.int (iI 1) :: st) μ Q := e_iconst (by decide +kernel : decode (bOf 101) 20 = .ok (.iconst 1, 1))
theorem x_101_21 : Ev d 101 21 L (.int y :: .int x :: st) μ Q = Ev d 101 22 L (.int (x - y) :: st) μ Q := e_isub (by decide +kernel : decode (bOf 101) 21 = .ok (.isub, 1))
theorem x_101_22 (h : kd t r = 5) : Ev d 101 22 L (.int x :: .ref r :: st) (t, V, A, P) Q = Ev d 101 25 L st (t, up1 V r (up1 (V r) 3 (.int x)), A, P) Q := e_putf (by decide +kernel : decode (bOf 101) 22 = .ok (.putfield 126, 3)) (by decide +kernel) (by decide +kernel) rfl h
theorem x_101_25 : Ev d 101 25 L st μ Q = Ev d 101 26 L (.int (iI 0) :: st) μ Q := e_iconst (by decide +kernel : decode (bOf 101) 25 = .ok (.iconst 0, 1))
theorem x_101_26 (h : a0.category = 1) : Ev d 101 26 (a0 :: a1 :: L) (.int x :: st) μ Q = Ev d 101 27 (a0 :: .int x :: L) st μ Q := e_istore_n (by decide +kernel : decode (bOf 101) 26 = .ok (.istore_n 1, 1)) (by show stOK _ 1 = true; simp [stOK, h])
theorem x_101_27 : Ev d 101 27 (a0 :: .int x :: L) st μ Q = Ev d 101 28 (a0 :: .int x :: L) (.int x :: st) μ Q := e_iload_n (by decide +kernel : decode (bOf 101) 27 = .ok (.iload_n 1, 1)) rfl
theorem x_101_28 : Ev d 101 28 L st μ Q = Ev d 101 31 L (.int (iI 228) :: st) μ Q := e_sipush (by decide +kernel : decode (bOf 101) 28 = .ok (.sipush 228, 3)) (by decide +kernel)
theorem x_101_31 : Ev d 101 31 L (.int y :: .int x :: st) μ Q = if x < y then Ev d 101 34 L st μ Q else Ev d 101 61 L st μ Q := e_icmp_ge (by decide +kernel : decode (bOf 101) 31 = .ok (.if_icmp .ge 30, 3)) (by omega)
theorem x_101_34 : Ev d 101 34 (.ref r :: L) st μ Q = Ev d 101 35 (.ref r :: L) (.ref r :: st) μ Q := e_aload_n (by decide +kernel : decode (bOf 101) 34 = .ok (.aload_n 0, 1)) rfl
theorem x_101_35 (h : kd t r = 5) : Ev d 101 35 L (.ref r :: st) (t, V, A, P) Q = Ev d 101 38 L (V r 1 :: st) (t, V, A, P) Q := e_getf (by decide +kernel : decode (bOf 101) 35 = .ok (.getfield 7, 3)) (by decide +kernel) (by decide +kernel) h
theorem x_101_38 : Ev d 101 38 (a0 :: .int x :: L) st μ Q = Ev d 101 39 (a0 :: .int x :: L) (.int x :: st) μ Q := e_iload_n (by decide +kernel : decode (bOf 101) 38 = .ok (.iload_n 1, 1)) rfl
theorem x_101_39 : Ev d 101 39 (.ref r :: L) st μ Q = Ev d 101 40 (.ref r :: L) (.ref r :: st) μ Q := e_aload_n (by decide +kernel : decode (bOf 101) 39 = .ok (.aload_n 0, 1)) rfl
theorem x_101_40 (h : kd t r = 5) : Ev d 101 40 L (.ref r :: st) (t, V, A, P) Q = Ev d 101 43 L (V r 2 :: st) (t, V, A, P) Q := e_getf (by decide +kernel : decode (bOf 101) 40 = .ok (.getfield 13, 3)) (by decide +kernel) (by decide +kernel) h
theorem x_101_43 : Ev d 101 43 L st μ Q = Ev d 101 46 L (.int (iI 228) :: st) μ Q := e_sipush (by decide +kernel : decode (bOf 101) 43 = .ok (.sipush 228, 3)) (by decide +kernel)
theorem x_101_46 : Ev d 101 46 (.ref r :: L) st μ Q = Ev d 101 47 (.ref r :: L) (.ref r :: st) μ Q := e_aload_n (by decide +kernel : decode (bOf 101) 46 = .ok (.aload_n 0, 1)) rfl
theorem x_101_47 (h : kd t r = 5) : Ev d 101 47 L (.ref r :: st) (t, V, A, P) Q = Ev d 101 50 L (V r 3 :: st) (t, V, A, P) Q := e_getf (by decide +kernel : decode (bOf 101) 47 = .ok (.getfield 126, 3)) (by decide +kernel) (by decide +kernel) h
theorem x_101_50 : Ev d 101 50 L (.int y :: .int x :: st) μ Q = Ev d 101 51 L (.int (x * y) :: st) μ Q := e_imul (by decide +kernel : decode (bOf 101) 50 = .ok (.imul, 1))
theorem x_101_51 : Ev d 101 51 (a0 :: .int x :: L) st μ Q = Ev d 101 52 (a0 :: .int x :: L) (.int x :: st) μ Q := e_iload_n (by decide +kernel : decode (bOf 101) 51 = .ok (.iload_n 1, 1)) rfl
theorem x_101_52 : Ev d 101 52 L (.int y :: .int x :: st) μ Q = Ev d 101 53 L (.int (x + y) :: st) μ Q := e_iadd (by decide +kernel : decode (bOf 101) 52 = .ok (.iadd, 1))
theorem x_101_53 (h : kd t r = 6) (hi : inB x (ln t r) = true) : Ev d 101 53 L (.int x :: .ref r :: st) (t, V, A, P) Q = Ev d 101 54 L (.int (A r x.toNatClampNeg) :: st) (t, V, A, P) Q := e_iald (by decide +kernel : decode (bOf 101) 53 = .ok (.iaload, 1)) h hi
theorem x_101_54 (h : kd t r = 6) (hi : inB x (ln t r) = true) : Ev d 101 54 L (.int y :: .int x :: .ref r :: st) (t, V, A, P) Q = Ev d 101 55 L st (t, V, up1 A r (upd (A r) x.toNatClampNeg y), P) Q := e_iast (by decide +kernel : decode (bOf 101) 54 = .ok (.iastore, 1)) h hi
theorem x_101_55 (h : a0.category = 1) : Ev d 101 55 (a0 :: .int x :: L) st μ Q = Ev d 101 58 (a0 :: .int (x + (iI 1)) :: L) st μ Q := e_iinc (by decide +kernel : decode (bOf 101) 55 = .ok (.iinc 1 1, 3)) rfl (by simp [stOK, h])
theorem x_101_58 : Ev d 101 58 L st μ Q = Ev d 101 27 L st μ Q := e_goto (by decide +kernel : decode (bOf 101) 58 = .ok (.goto (-31), 3)) (by omega)
theorem x_101_61 : Ev d 101 61 (.ref r :: L) st μ Q = Ev d 101 62 (.ref r :: L) (.ref r :: st) μ Q := e_aload_n (by decide +kernel : decode (bOf 101) 61 = .ok (.aload_n 0, 1)) rfl
theorem x_101_62 (h : kd t r = 5) : Ev d 101 62 L (.ref r :: st) (t, V, A, P) Q = Ev d 101 65 L (V r 3 :: st) (t, V, A, P) Q := e_getf (by decide +kernel : decode (bOf 101) 62 = .ok (.getfield 126, 3)) (by decide +kernel) (by decide +kernel) h
theorem x_101_65 : Ev d 101 65 L [.int x] μ Q = Q (some (.int x)) μ := e_iret (by decide +kernel : decode (bOf 101) 65 = .ok (.ireturn, 1)) (by decide +kernel)
theorem c_102 : Call (d + 1) 102 [.ref r0, .int i1, .int i2] μ Q = Ev d 102 0 [.ref r0, .int i1, .int i2] [] μ Q := call_ev rfl rfl
theorem x_102_0 : Ev d 102 0 (.ref r :: L) st μ Q = Ev d 102 1 (.ref r :: L) (.ref r :: st) μ Q := e_aload_n (by decide +kernel : decode (bOf 102) 0 = .ok (.aload_n 0, 1)) rfl
theorem x_102_1 : Ev d 102 1 L st μ Q = Ev d 102 2 L (.int (iI 0) :: st) μ Q := e_iconst (by decide +kernel : decode (bOf 102) 1 = .ok (.iconst 0, 1))
theorem x_102_2 (h : kd t r = 5) : Ev d 102 2 L (.int x :: .ref r :: st) (t, V, A, P) Q = Ev d 102 5 L st (t, up1 V r (up1 (V r) 0 (.int x)), A, P) Q := e_putf (by decide +kernel : decode (bOf 102) 2 = .ok (.putfield 59, 3)) (by decide +kernel) (by decide +kernel) rfl h
theorem x_102_5 : Ev d 102 5 (a0 :: .int x :: L) st μ Q = Ev d 102 6 (a0 :: .int x :: L) (.int x :: st) μ Q := e_iload_n (by decide +kernel : decode (bOf 102) 5 = .ok (.iload_n 1, 1)) rfl
theorem x_102_6 : Ev d 102 6 L st μ Q = Ev d 102 7 L (.int (iI 0) :: st) μ Q := e_iconst (by decide +kernel : decode (bOf 102) 6 = .ok (.iconst 0, 1))
theorem x_102_7 : Ev d 102 7 L st μ Q = Ev d 102 9 L (.int (iI 33) :: st) μ Q := e_bipush (by decide +kernel : decode (bOf 102) 7 = .ok (.bipush 33, 2)) (by decide +kernel)
theorem x_102_9 : Ev d 102 9 L [b2, b1, b0] μ Q = Call d 80 [b0, b1, b2] μ (fun v μ1 => Ev d 102 12 L (v.toList ++ []) μ1 Q) := e_callS (a := [b0, b1, b2]) (r := []) (by decide +kernel : decode (bOf 102) 9 = .ok (.invokestatic 85, 3)) (by decide +kernel) (by decide +kernel) (by omega) rfl (by simp)
theorem x_102_12 : Ev d 102 12 L (.int x :: st) μ Q = if x = iI 0 then Ev d 102 32 L st μ Q else Ev d 102 15 L st μ Q := e_if_eq (by decide +kernel : decode (bOf 102) 12 = .ok (.ifCond .eq 20, 3)) (by omega)
theorem x_102_15 : Ev d 102 15 (a0 :: a1 :: .int x :: L) st μ Q = Ev d 102 16 (a0 :: a1 :: .int x :: L) (.int x :: st) μ Q := e_iload_n (by decide +kernel : decode (bOf 102) 15 = .ok (.iload_n 2, 1)) rfl
theorem x_102_16 : Ev d 102 16 L st μ Q = Ev d 102 17 L (.int (iI 0) :: st) μ Q := e_iconst (by decide +kernel : decode (bOf 102) 16 = .ok (.iconst 0, 1))
theorem x_102_17 : Ev d 102 17 L st μ Q = Ev d 102 18 L (.int (iI 1) :: st) μ Q := e_iconst (by decide +kernel : decode (bOf 102) 17 = .ok (.iconst 1, 1))
theorem x_102_18 : Ev d 102 18 L [b2, b1, b0] μ Q = Call d 80 [b0, b1, b2] μ (fun v μ1 => Ev d 102 21 L (v.toList ++ []) μ1 Q) := e_callS (a := [b0, b1, b2]) (r := []) (by decide +kernel : decode (bOf 102) 18 = .ok (.invokestatic 85, 3)) (by decide +kernel) (by decide +kernel) (by omega) rfl (by simp)
theorem x_102_21 : Ev d 102 21 L (.int x :: st) μ Q = if x = iI 0 then Ev d 102 32 L st μ Q else Ev d 102 24 L st μ Q := e_if_eq (by decide +kernel : decode (bOf 102) 21 = .ok (.ifCond .eq 11, 3)) (by omega)
theorem x_102_24 : Ev d 102 24 (a0 :: .int x :: L) st μ Q = Ev d 102 25 (a0 :: .int x :: L) (.int x :: st) μ Q := e_iload_n (by decide +kernel : decode (bOf 102) 24 = .ok (.iload_n 1, 1)) rfl
theorem x_102_25 : Ev d 102 25 (a0 :: a1 :: .int x :: L) st μ Q = Ev d 102 26 (a0 :: a1 :: .int x :: L) (.int x :: st) μ Q := e_iload_n (by decide +kernel : decode (bOf 102) 25 = .ok (.iload_n 2, 1)) rfl
theorem x_102_26 : Ev d 102 26 L [b1, b0] μ Q = Call d 84 [b0, b1] μ (fun v μ1 => Ev d 102 29 L (v.toList ++ []) μ1 Q) := e_callS (a := [b0, b1]) (r := []) (by decide +kernel : decode (bOf 102) 26 = .ok (.invokestatic 79, 3)) (by decide +kernel) (by decide +kernel) (by omega) rfl (by simp)
theorem x_102_29 : Ev d 102 29 L st μ Q = Ev d 102 33 L st μ Q := e_goto (by decide +kernel : decode (bOf 102) 29 = .ok (.goto 4, 3)) (by omega)
theorem x_102_32 : Ev d 102 32 L st μ Q = Ev d 102 33 L (.int (iI (-1)) :: st) μ Q := e_iconst (by decide +kernel : decode (bOf 102) 32 = .ok (.iconst (-1), 1))
theorem x_102_33 : Ev d 102 33 L [.int x] μ Q = Q (some (.int x)) μ := e_iret (by decide +kernel : decode (bOf 102) 33 = .ok (.ireturn, 1)) (by decide +kernel)
theorem c_103 : Call (d + 1) 103 [.ref r0, .int i1] μ Q = Ev d 103 0 [.ref r0, .int i1] [] μ Q := call_ev rfl rfl
theorem x_103_0 : Ev d 103 0 (.ref r :: L) st μ Q = Ev d 103 1 (.ref r :: L) (.ref r :: st) μ Q := e_aload_n (by decide +kernel : decode (bOf 103) 0 = .ok (.aload_n 0, 1)) rfl
theorem x_103_1 : Ev d 103 1 L st μ Q = Ev d 103 2 L (.int (iI 0) :: st) μ Q := e_iconst (by decide +kernel : decode (bOf 103) 1 = .ok (.iconst 0, 1))
theorem x_103_2 (h : kd t r = 5) : Ev d 103 2 L (.int x :: .ref r :: st) (t, V, A, P) Q = Ev d 103 5 L st (t, up1 V r (up1 (V r) 0 (.int x)), A, P) Q := e_putf (by decide +kernel : decode (bOf 103) 2 = .ok (.putfield 59, 3)) (by decide +kernel) (by decide +kernel) rfl h
theorem x_103_5 : Ev d 103 5 (.ref r :: L) st μ Q = Ev d 103 6 (.ref r :: L) (.ref r :: st) μ Q := e_aload_n (by decide +kernel : decode (bOf 103) 5 = .ok (.aload_n 0, 1)) rfl
theorem x_103_6 : Ev d 103 6 (a0 :: .int x :: L) st μ Q = Ev d 103 7 (a0 :: .int x :: L) (.int x :: st) μ Q := e_iload_n (by decide +kernel : decode (bOf 103) 6 = .ok (.iload_n 1, 1)) rfl
theorem x_103_7 (h : kd t r = 5) : Ev d 103 7 L [b0, .ref r] (t, V, A, P) Q = Call d 98 [.ref r, b0] (t, V, A, P) (fun v μ1 => Ev d 103 10 L (v.toList ++ []) μ1 Q) := e_callV (a := [b0]) (r := []) (by decide +kernel : decode (bOf 103) 7 = .ok (.invokevirtual 133, 3)) (by decide +kernel) (by decide +kernel) (by decide +kernel) (by omega) rfl (by simp) (by decide +kernel) h
theorem x_103_10 : Ev d 103 10 L (.int x :: st) μ Q = if x = iI 0 then Ev d 103 25 L st μ Q else Ev d 103 13 L st μ Q := e_if_eq (by decide +kernel : decode (bOf 103) 10 = .ok (.ifCond .eq 15, 3)) (by omega)
theorem x_103_13 : Ev d 103 13 (.ref r :: L) st μ Q = Ev d 103 14 (.ref r :: L) (.ref r :: st) μ Q := e_aload_n (by decide +kernel : decode (bOf 103) 13 = .ok (.aload_n 0, 1)) rfl
theorem x_103_14 (h : kd t r = 5) : Ev d 103 14 L (.ref r :: st) (t, V, A, P) Q = Ev d 103 17 L (V r 1 :: st) (t, V, A, P) Q := e_getf (by decide +kernel : decode (bOf 103) 14 = .ok (.getfield 7, 3)) (by decide +kernel) (by decide +kernel) h
theorem x_103_17 : Ev d 103 17 L st μ Q = Ev d 103 19 L (.int (iI 36) :: st) μ Q := e_bipush (by decide +kernel : decode (bOf 103) 17 = .ok (.bipush 36, 2)) (by decide +kernel)
theorem x_103_19 : Ev d 103 19 (a0 :: .int x :: L) st μ Q = Ev d 103 20 (a0 :: .int x :: L) (.int x :: st) μ Q := e_iload_n (by decide +kernel : decode (bOf 103) 19 = .ok (.iload_n 1, 1)) rfl
theorem x_103_20 : Ev d 103 20 L (.int y :: .int x :: st) μ Q = Ev d 103 21 L (.int (x + y) :: st) μ Q := e_iadd (by decide +kernel : decode (bOf 103) 20 = .ok (.iadd, 1))
theorem x_103_21 (h : kd t r = 6) (hi : inB x (ln t r) = true) : Ev d 103 21 L (.int x :: .ref r :: st) (t, V, A, P) Q = Ev d 103 22 L (.int (A r x.toNatClampNeg) :: st) (t, V, A, P) Q := e_iald (by decide +kernel : decode (bOf 103) 21 = .ok (.iaload, 1)) h hi
theorem x_103_22 : Ev d 103 22 L st μ Q = Ev d 103 26 L st μ Q := e_goto (by decide +kernel : decode (bOf 103) 22 = .ok (.goto 4, 3)) (by omega)
theorem x_103_25 : Ev d 103 25 L st μ Q = Ev d 103 26 L (.int (iI (-1)) :: st) μ Q := e_iconst (by decide +kernel : decode (bOf 103) 25 = .ok (.iconst (-1), 1))
theorem x_103_26 : Ev d 103 26 L [.int x] μ Q = Q (some (.int x)) μ := e_iret (by decide +kernel : decode (bOf 103) 26 = .ok (.ireturn, 1)) (by decide +kernel)
end Xd
