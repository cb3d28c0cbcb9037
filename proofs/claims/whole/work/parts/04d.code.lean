section Xd
variable {d : Nat} {L st : List Value} {μ : mM} {Q : Option Value → mM → Prop} {t : mL} {V : Nat → Nat → Value} {A : Nat → Nat → Int32} {P : Nat → Nat → Option Nat} {N S : Nat} {K : Nat → Nat × Nat}
variable {a0 a1 a2 a3 a4 a5 a6 a7 a8 a9 a10 a11 a12 b0 b1 b2 b3 s0 s1 s2 s3 : Value} {x y i0 i1 i2 i3 i4 : Int32} {w z : Int64} {r q r0 r1 r2 : Nat}
theorem c_79 : Call (d + 1) 79 [.ref r0] μ Q = Ev d 79 0 [.ref r0] [] μ Q := call_ev rfl rfl
theorem x_79_0 : Ev d 79 0 (.ref r :: L) st μ Q = Ev d 79 1 (.ref r :: L) (.ref r :: st) μ Q := e_aload_n (by decide +kernel : decode (bOf 79) 0 = .ok (.aload_n 0, 1)) rfl
theorem x_79_1 : Ev d 79 1 L [.ref r] μ Q = Ev d 79 4 L [] μ Q := e_obj (by decide +kernel : decode (bOf 79) 1 = .ok (.invokespecial 1, 3)) (by decide +kernel) (by decide +kernel) (by simp)
theorem x_79_4 : Ev d 79 4 (.ref r :: L) st μ Q = Ev d 79 5 (.ref r :: L) (.ref r :: st) μ Q := e_aload_n (by decide +kernel : decode (bOf 79) 4 = .ok (.aload_n 0, 1)) rfl
theorem x_79_5 : Ev d 79 5 L st μ Q = Ev d 79 8 L (.int (iI 228) :: st) μ Q := e_sipush (by decide +kernel : decode (bOf 79) 5 = .ok (.sipush 228, 3)) (by decide +kernel)
theorem x_79_8 : Ev d 79 8 L (.int (iI 228) :: st) ((N, S, K), V, A, P) Q = Ev d 79 10 L (.ref N :: st) ((N + 1, S + 228, up1 K N (6, 228)), V, up1 A N (fun _ => 0), P) Q := e_newi 228 (by decide +kernel : decode (bOf 79) 8 = .ok (.newarray .int, 2)) (by decide +kernel) (by decide +kernel)
theorem x_79_10 (h : kd t r = 5) : Ev d 79 10 L (.ref q :: .ref r :: st) (t, V, A, P) Q = Ev d 79 13 L st (t, up1 V r (up1 (V r) 1 (.ref q)), A, P) Q := e_putf (by decide +kernel : decode (bOf 79) 10 = .ok (.putfield 7, 3)) (by decide +kernel) (by decide +kernel) rfl h
theorem x_79_13 : Ev d 79 13 (.ref r :: L) st μ Q = Ev d 79 14 (.ref r :: L) (.ref r :: st) μ Q := e_aload_n (by decide +kernel : decode (bOf 79) 13 = .ok (.aload_n 0, 1)) rfl
theorem x_79_14 : Ev d 79 14 L st μ Q = Ev d 79 17 L (.int (iI 1368) :: st) μ Q := e_sipush (by decide +kernel : decode (bOf 79) 14 = .ok (.sipush 1368, 3)) (by decide +kernel)
theorem x_79_17 : Ev d 79 17 L (.int (iI 1368) :: st) ((N, S, K), V, A, P) Q = Ev d 79 19 L (.ref N :: st) ((N + 1, S + 1368, up1 K N (6, 1368)), V, up1 A N (fun _ => 0), P) Q := e_newi 1368 (by decide +kernel : decode (bOf 79) 17 = .ok (.newarray .int, 2)) (by decide +kernel) (by decide +kernel)
theorem x_79_19 (h : kd t r = 5) : Ev d 79 19 L (.ref q :: .ref r :: st) (t, V, A, P) Q = Ev d 79 22 L st (t, up1 V r (up1 (V r) 2 (.ref q)), A, P) Q := e_putf (by decide +kernel : decode (bOf 79) 19 = .ok (.putfield 13, 3)) (by decide +kernel) (by decide +kernel) rfl h
theorem x_79_22 : Ev d 79 22 (.ref r :: L) st μ Q = Ev d 79 23 (.ref r :: L) (.ref r :: st) μ Q := e_aload_n (by decide +kernel : decode (bOf 79) 22 = .ok (.aload_n 0, 1)) rfl
theorem x_79_23 : Ev d 79 23 L st μ Q = Ev d 79 26 L (.int (iI 456) :: st) μ Q := e_sipush (by decide +kernel : decode (bOf 79) 23 = .ok (.sipush 456, 3)) (by decide +kernel)
theorem x_79_26 : Ev d 79 26 L (.int (iI 456) :: st) ((N, S, K), V, A, P) Q = Ev d 79 28 L (.ref N :: st) ((N + 1, S + 456, up1 K N (6, 456)), V, up1 A N (fun _ => 0), P) Q := e_newi 456 (by decide +kernel : decode (bOf 79) 26 = .ok (.newarray .int, 2)) (by decide +kernel) (by decide +kernel)
theorem x_79_28 (h : kd t r = 5) : Ev d 79 28 L (.ref q :: .ref r :: st) (t, V, A, P) Q = Ev d 79 31 L st (t, up1 V r (up1 (V r) 4 (.ref q)), A, P) Q := e_putf (by decide +kernel : decode (bOf 79) 28 = .ok (.putfield 16, 3)) (by decide +kernel) (by decide +kernel) rfl h
theorem x_79_31 : Ev d 79 31 (.ref r :: L) st μ Q = Ev d 79 32 (.ref r :: L) (.ref r :: st) μ Q := e_aload_n (by decide +kernel : decode (bOf 79) 31 = .ok (.aload_n 0, 1)) rfl
theorem x_79_32 : Ev d 79 32 L st μ Q = Ev d 79 33 L (.int (iI 2) :: st) μ Q := e_iconst (by decide +kernel : decode (bOf 79) 32 = .ok (.iconst 2, 1))
theorem x_79_33 : Ev d 79 33 L (.int (iI 2) :: st) ((N, S, K), V, A, P) Q = Ev d 79 35 L (.ref N :: st) ((N + 1, S + 2, up1 K N (7, 2)), V, up1 A N (fun _ => 0), P) Q := e_newz 2 (by decide +kernel : decode (bOf 79) 33 = .ok (.newarray .boolean, 2)) (by decide +kernel) (by decide +kernel)
theorem x_79_35 (h : kd t r = 5) : Ev d 79 35 L (.ref q :: .ref r :: st) (t, V, A, P) Q = Ev d 79 38 L st (t, up1 V r (up1 (V r) 5 (.ref q)), A, P) Q := e_putf (by decide +kernel : decode (bOf 79) 35 = .ok (.putfield 19, 3)) (by decide +kernel) (by decide +kernel) rfl h
theorem x_79_38 : Ev d 79 38 (.ref r :: L) st μ Q = Ev d 79 39 (.ref r :: L) (.ref r :: st) μ Q := e_aload_n (by decide +kernel : decode (bOf 79) 38 = .ok (.aload_n 0, 1)) rfl
theorem x_79_39 : Ev d 79 39 L st μ Q = Ev d 79 41 L (.int (iI 120) :: st) μ Q := e_bipush (by decide +kernel : decode (bOf 79) 39 = .ok (.bipush 120, 2)) (by decide +kernel)
theorem x_79_41 : Ev d 79 41 L (.int (iI 120) :: st) ((N, S, K), V, A, P) Q = Ev d 79 43 L (.ref N :: st) ((N + 1, S + 120, up1 K N (6, 120)), V, up1 A N (fun _ => 0), P) Q := e_newi 120 (by decide +kernel : decode (bOf 79) 41 = .ok (.newarray .int, 2)) (by decide +kernel) (by decide +kernel)
theorem x_79_43 (h : kd t r = 5) : Ev d 79 43 L (.ref q :: .ref r :: st) (t, V, A, P) Q = Ev d 79 46 L st (t, up1 V r (up1 (V r) 6 (.ref q)), A, P) Q := e_putf (by decide +kernel : decode (bOf 79) 43 = .ok (.putfield 23, 3)) (by decide +kernel) (by decide +kernel) rfl h
theorem x_79_46 : Ev d 79 46 (.ref r :: L) st μ Q = Ev d 79 47 (.ref r :: L) (.ref r :: st) μ Q := e_aload_n (by decide +kernel : decode (bOf 79) 46 = .ok (.aload_n 0, 1)) rfl
theorem x_79_47 : Ev d 79 47 L st μ Q = Ev d 79 49 L (.int (iI 60) :: st) μ Q := e_bipush (by decide +kernel : decode (bOf 79) 47 = .ok (.bipush 60, 2)) (by decide +kernel)
theorem x_79_49 : Ev d 79 49 L (.int (iI 60) :: st) ((N, S, K), V, A, P) Q = Ev d 79 51 L (.ref N :: st) ((N + 1, S + 60, up1 K N (6, 60)), V, up1 A N (fun _ => 0), P) Q := e_newi 60 (by decide +kernel : decode (bOf 79) 49 = .ok (.newarray .int, 2)) (by decide +kernel) (by decide +kernel)
theorem x_79_51 (h : kd t r = 5) : Ev d 79 51 L (.ref q :: .ref r :: st) (t, V, A, P) Q = Ev d 79 54 L st (t, up1 V r (up1 (V r) 8 (.ref q)), A, P) Q := e_putf (by decide +kernel : decode (bOf 79) 51 = .ok (.putfield 26, 3)) (by decide +kernel) (by decide +kernel) rfl h
theorem x_79_54 : Ev d 79 54 (.ref r :: L) st μ Q = Ev d 79 55 (.ref r :: L) (.ref r :: st) μ Q := e_aload_n (by decide +kernel : decode (bOf 79) 54 = .ok (.aload_n 0, 1)) rfl
theorem x_79_55 : Ev d 79 55 L st μ Q = Ev d 79 57 L (.int (iI 64) :: st) μ Q := e_bipush (by decide +kernel : decode (bOf 79) 55 = .ok (.bipush 64, 2)) (by decide +kernel)
theorem x_79_57 : Ev d 79 57 L (.int (iI 64) :: st) ((N, S, K), V, A, P) Q = Ev d 79 59 L (.ref N :: st) ((N + 1, S + 64, up1 K N (6, 64)), V, up1 A N (fun _ => 0), P) Q := e_newi 64 (by decide +kernel : decode (bOf 79) 57 = .ok (.newarray .int, 2)) (by decide +kernel) (by decide +kernel)
theorem x_79_59 (h : kd t r = 5) : Ev d 79 59 L (.ref q :: .ref r :: st) (t, V, A, P) Q = Ev d 79 62 L st (t, up1 V r (up1 (V r) 10 (.ref q)), A, P) Q := e_putf (by decide +kernel : decode (bOf 79) 59 = .ok (.putfield 29, 3)) (by decide +kernel) (by decide +kernel) rfl h
theorem x_79_62 : Ev d 79 62 (.ref r :: L) st μ Q = Ev d 79 63 (.ref r :: L) (.ref r :: st) μ Q := e_aload_n (by decide +kernel : decode (bOf 79) 62 = .ok (.aload_n 0, 1)) rfl
theorem x_79_63 : Ev d 79 63 L st μ Q = Ev d 79 65 L (.int (iI 64) :: st) μ Q := e_bipush (by decide +kernel : decode (bOf 79) 63 = .ok (.bipush 64, 2)) (by decide +kernel)
theorem x_79_65 : Ev d 79 65 L (.int (iI 64) :: st) ((N, S, K), V, A, P) Q = Ev d 79 67 L (.ref N :: st) ((N + 1, S + 64, up1 K N (6, 64)), V, up1 A N (fun _ => 0), P) Q := e_newi 64 (by decide +kernel : decode (bOf 79) 65 = .ok (.newarray .int, 2)) (by decide +kernel) (by decide +kernel)
theorem x_79_67 (h : kd t r = 5) : Ev d 79 67 L (.ref q :: .ref r :: st) (t, V, A, P) Q = Ev d 79 70 L st (t, up1 V r (up1 (V r) 11 (.ref q)), A, P) Q := e_putf (by decide +kernel : decode (bOf 79) 67 = .ok (.putfield 32, 3)) (by decide +kernel) (by decide +kernel) rfl h
theorem x_79_70 : Ev d 79 70 (.ref r :: L) st μ Q = Ev d 79 71 (.ref r :: L) (.ref r :: st) μ Q := e_aload_n (by decide +kernel : decode (bOf 79) 70 = .ok (.aload_n 0, 1)) rfl
theorem x_79_71 : Ev d 79 71 L st μ Q = Ev d 79 73 L (.int (iI 32) :: st) μ Q := e_bipush (by decide +kernel : decode (bOf 79) 71 = .ok (.bipush 32, 2)) (by decide +kernel)
theorem x_79_73 : Ev d 79 73 L (.int (iI 32) :: st) ((N, S, K), V, A, P) Q = Ev d 79 75 L (.ref N :: st) ((N + 1, S + 32, up1 K N (6, 32)), V, up1 A N (fun _ => 0), P) Q := e_newi 32 (by decide +kernel : decode (bOf 79) 73 = .ok (.newarray .int, 2)) (by decide +kernel) (by decide +kernel)
theorem x_79_75 (h : kd t r = 5) : Ev d 79 75 L (.ref q :: .ref r :: st) (t, V, A, P) Q = Ev d 79 78 L st (t, up1 V r (up1 (V r) 19 (.ref q)), A, P) Q := e_putf (by decide +kernel : decode (bOf 79) 75 = .ok (.putfield 35, 3)) (by decide +kernel) (by decide +kernel) rfl h
theorem x_79_78 : Ev d 79 78 (.ref r :: L) st μ Q = Ev d 79 79 (.ref r :: L) (.ref r :: st) μ Q := e_aload_n (by decide +kernel : decode (bOf 79) 78 = .ok (.aload_n 0, 1)) rfl
theorem x_79_79 : Ev d 79 79 L st μ Q = Ev d 79 81 L (.int (iI 32) :: st) μ Q := e_bipush (by decide +kernel : decode (bOf 79) 79 = .ok (.bipush 32, 2)) (by decide +kernel)
theorem x_79_81 : Ev d 79 81 L (.int (iI 32) :: st) ((N, S, K), V, A, P) Q = Ev d 79 83 L (.ref N :: st) ((N + 1, S + 32, up1 K N (6, 32)), V, up1 A N (fun _ => 0), P) Q := e_newi 32 (by decide +kernel : decode (bOf 79) 81 = .ok (.newarray .int, 2)) (by decide +kernel) (by decide +kernel)
theorem x_79_83 (h : kd t r = 5) : Ev d 79 83 L (.ref q :: .ref r :: st) (t, V, A, P) Q = Ev d 79 86 L st (t, up1 V r (up1 (V r) 20 (.ref q)), A, P) Q := e_putf (by decide +kernel : decode (bOf 79) 83 = .ok (.putfield 38, 3)) (by decide +kernel) (by decide +kernel) rfl h
theorem x_79_86 : Ev d 79 86 (.ref r :: L) st μ Q = Ev d 79 87 (.ref r :: L) (.ref r :: st) μ Q := e_aload_n (by decide +kernel : decode (bOf 79) 86 = .ok (.aload_n 0, 1)) rfl
theorem x_79_87 : Ev d 79 87 L st μ Q = Ev d 79 89 L (.int (iI 32) :: st) μ Q := e_bipush (by decide +kernel : decode (bOf 79) 87 = .ok (.bipush 32, 2)) (by decide +kernel)
theorem x_79_89 : Ev d 79 89 L (.int (iI 32) :: st) ((N, S, K), V, A, P) Q = Ev d 79 91 L (.ref N :: st) ((N + 1, S + 32, up1 K N (6, 32)), V, up1 A N (fun _ => 0), P) Q := e_newi 32 (by decide +kernel : decode (bOf 79) 89 = .ok (.newarray .int, 2)) (by decide +kernel) (by decide +kernel)
theorem x_79_91 (h : kd t r = 5) : Ev d 79 91 L (.ref q :: .ref r :: st) (t, V, A, P) Q = Ev d 79 94 L st (t, up1 V r (up1 (V r) 21 (.ref q)), A, P) Q := e_putf (by decide +kernel : decode (bOf 79) 91 = .ok (.putfield 41, 3)) (by decide +kernel) (by decide +kernel) rfl h
theorem x_79_94 : Ev d 79 94 (.ref r :: L) st μ Q = Ev d 79 95 (.ref r :: L) (.ref r :: st) μ Q := e_aload_n (by decide +kernel : decode (bOf 79) 94 = .ok (.aload_n 0, 1)) rfl
theorem x_79_95 : Ev d 79 95 L st μ Q = Ev d 79 97 L (.int (iI 32) :: st) μ Q := e_bipush (by decide +kernel : decode (bOf 79) 95 = .ok (.bipush 32, 2)) (by decide +kernel)
theorem x_79_97 : Ev d 79 97 L (.int (iI 32) :: st) ((N, S, K), V, A, P) Q = Ev d 79 99 L (.ref N :: st) ((N + 1, S + 32, up1 K N (6, 32)), V, up1 A N (fun _ => 0), P) Q := e_newi 32 (by decide +kernel : decode (bOf 79) 97 = .ok (.newarray .int, 2)) (by decide +kernel) (by decide +kernel)
theorem x_79_99 (h : kd t r = 5) : Ev d 79 99 L (.ref q :: .ref r :: st) (t, V, A, P) Q = Ev d 79 102 L st (t, up1 V r (up1 (V r) 22 (.ref q)), A, P) Q := e_putf (by decide +kernel : decode (bOf 79) 99 = .ok (.putfield 44, 3)) (by decide +kernel) (by decide +kernel) rfl h
theorem x_79_102 : Ev d 79 102 (.ref r :: L) st μ Q = Ev d 79 103 (.ref r :: L) (.ref r :: st) μ Q := e_aload_n (by decide +kernel : decode (bOf 79) 102 = .ok (.aload_n 0, 1)) rfl
theorem x_79_103 : Ev d 79 103 L st μ Q = Ev d 79 106 L (.int (iI 192) :: st) μ Q := e_sipush (by decide +kernel : decode (bOf 79) 103 = .ok (.sipush 192, 3)) (by decide +kernel)
theorem x_79_106 : Ev d 79 106 L (.int (iI 192) :: st) ((N, S, K), V, A, P) Q = Ev d 79 108 L (.ref N :: st) ((N + 1, S + 192, up1 K N (6, 192)), V, up1 A N (fun _ => 0), P) Q := e_newi 192 (by decide +kernel : decode (bOf 79) 106 = .ok (.newarray .int, 2)) (by decide +kernel) (by decide +kernel)
theorem x_79_108 (h : kd t r = 5) : Ev d 79 108 L (.ref q :: .ref r :: st) (t, V, A, P) Q = Ev d 79 111 L st (t, up1 V r (up1 (V r) 25 (.ref q)), A, P) Q := e_putf (by decide +kernel : decode (bOf 79) 108 = .ok (.putfield 47, 3)) (by decide +kernel) (by decide +kernel) rfl h
theorem x_79_111 : Ev d 79 111 (.ref r :: L) st μ Q = Ev d 79 112 (.ref r :: L) (.ref r :: st) μ Q := e_aload_n (by decide +kernel : decode (bOf 79) 111 = .ok (.aload_n 0, 1)) rfl
theorem x_79_112 : Ev d 79 112 L st μ Q = Ev d 79 114 L (.int (iI 6) :: st) μ Q := e_bipush (by decide +kernel : decode (bOf 79) 112 = .ok (.bipush 6, 2)) (by decide +kernel)
theorem x_79_114 : Ev d 79 114 L (.int (iI 6) :: st) ((N, S, K), V, A, P) Q = Ev d 79 116 L (.ref N :: st) ((N + 1, S + 6, up1 K N (6, 6)), V, up1 A N (fun _ => 0), P) Q := e_newi 6 (by decide +kernel : decode (bOf 79) 114 = .ok (.newarray .int, 2)) (by decide +kernel) (by decide +kernel)
theorem x_79_116 (h : kd t r = 5) : Ev d 79 116 L (.ref q :: .ref r :: st) (t, V, A, P) Q = Ev d 79 119 L st (t, up1 V r (up1 (V r) 30 (.ref q)), A, P) Q := e_putf (by decide +kernel : decode (bOf 79) 116 = .ok (.putfield 50, 3)) (by decide +kernel) (by decide +kernel) rfl h
theorem x_79_119 : Ev d 79 119 (.ref r :: L) st μ Q = Ev d 79 120 (.ref r :: L) (.ref r :: st) μ Q := e_aload_n (by decide +kernel : decode (bOf 79) 119 = .ok (.aload_n 0, 1)) rfl
theorem x_79_120 : Ev d 79 120 L st μ Q = Ev d 79 122 L (.int (iI 6) :: st) μ Q := e_bipush (by decide +kernel : decode (bOf 79) 120 = .ok (.bipush 6, 2)) (by decide +kernel)
theorem x_79_122 : Ev d 79 122 L (.int (iI 6) :: st) ((N, S, K), V, A, P) Q = Ev d 79 124 L (.ref N :: st) ((N + 1, S + 6, up1 K N (6, 6)), V, up1 A N (fun _ => 0), P) Q := e_newi 6 (by decide +kernel : decode (bOf 79) 122 = .ok (.newarray .int, 2)) (by decide +kernel) (by decide +kernel)
theorem x_79_124 (h : kd t r = 5) : Ev d 79 124 L (.ref q :: .ref r :: st) (t, V, A, P) Q = Ev d 79 127 L st (t, up1 V r (up1 (V r) 31 (.ref q)), A, P) Q := e_putf (by decide +kernel : decode (bOf 79) 124 = .ok (.putfield 53, 3)) (by decide +kernel) (by decide +kernel) rfl h
theorem x_79_127 : Ev d 79 127 (.ref r :: L) st μ Q = Ev d 79 128 (.ref r :: L) (.ref r :: st) μ Q := e_aload_n (by decide +kernel : decode (bOf 79) 127 = .ok (.aload_n 0, 1)) rfl
theorem x_79_128 (h : kd t r = 5) : Ev d 79 128 L [.ref r] (t, V, A, P) Q = Call d 80 [.ref r] (t, V, A, P) (fun v μ1 => Ev d 79 131 L (v.toList ++ []) μ1 Q) := e_callV (a := []) (r := []) (by decide +kernel : decode (bOf 79) 128 = .ok (.invokevirtual 56, 3)) (by decide +kernel) (by decide +kernel) (by decide +kernel) (by omega) rfl (by simp) (by decide +kernel) h
theorem x_79_131 : Ev d 79 131 L [] μ Q = Q none μ := e_ret (by decide +kernel : decode (bOf 79) 131 = .ok (.return_, 1)) (by decide +kernel)
theorem c_80 : Call (d + 1) 80 [.ref r0] μ Q = Ev d 80 0 [.ref r0, .null] [] μ Q := call_ev rfl rfl
theorem x_80_0 : Ev d 80 0 L st μ Q = Ev d 80 1 L (.int (iI 0) :: st) μ Q := e_iconst (by decide +kernel : decode (bOf 80) 0 = .ok (.iconst 0, 1))
theorem x_80_1 (h : a0.category = 1) : Ev d 80 1 (a0 :: a1 :: L) (.int x :: st) μ Q = Ev d 80 2 (a0 :: .int x :: L) st μ Q := e_istore_n (by decide +kernel : decode (bOf 80) 1 = .ok (.istore_n 1, 1)) (by show stOK _ 1 = true; simp [stOK, h])
theorem x_80_2 : Ev d 80 2 (a0 :: .int x :: L) st μ Q = Ev d 80 3 (a0 :: .int x :: L) (.int x :: st) μ Q := e_iload_n (by decide +kernel : decode (bOf 80) 2 = .ok (.iload_n 1, 1)) rfl
theorem x_80_3 : Ev d 80 3 L st μ Q = Ev d 80 6 L (.int (iI 228) :: st) μ Q := e_sipush (by decide +kernel : decode (bOf 80) 3 = .ok (.sipush 228, 3)) (by decide +kernel)
theorem x_80_6 : Ev d 80 6 L (.int y :: .int x :: st) μ Q = if x < y then Ev d 80 9 L st μ Q else Ev d 80 22 L st μ Q := e_icmp_ge (by decide +kernel : decode (bOf 80) 6 = .ok (.if_icmp .ge 16, 3)) (by omega)
theorem x_80_9 : Ev d 80 9 (.ref r :: L) st μ Q = Ev d 80 10 (.ref r :: L) (.ref r :: st) μ Q := e_aload_n (by decide +kernel : decode (bOf 80) 9 = .ok (.aload_n 0, 1)) rfl
theorem x_80_10 (h : kd t r = 5) : Ev d 80 10 L (.ref r :: st) (t, V, A, P) Q = Ev d 80 13 L (V r 1 :: st) (t, V, A, P) Q := e_getf (by decide +kernel : decode (bOf 80) 10 = .ok (.getfield 7, 3)) (by decide +kernel) (by decide +kernel) h
theorem x_80_13 : Ev d 80 13 (a0 :: .int x :: L) st μ Q = Ev d 80 14 (a0 :: .int x :: L) (.int x :: st) μ Q := e_iload_n (by decide +kernel : decode (bOf 80) 13 = .ok (.iload_n 1, 1)) rfl
theorem x_80_14 : Ev d 80 14 L st μ Q = Ev d 80 15 L (.int (iI 0) :: st) μ Q := e_iconst (by decide +kernel : decode (bOf 80) 14 = .ok (.iconst 0, 1))
theorem x_80_15 (h : kd t r = 6) (hi : inB x (ln t r) = true) : Ev d 80 15 L (.int y :: .int x :: .ref r :: st) (t, V, A, P) Q = Ev d 80 16 L st (t, V, up1 A r (upd (A r) x.toNatClampNeg y), P) Q := e_iast (by decide +kernel : decode (bOf 80) 15 = .ok (.iastore, 1)) h hi
theorem x_80_16 (h : a0.category = 1) : Ev d 80 16 (a0 :: .int x :: L) st μ Q = Ev d 80 19 (a0 :: .int (x + (iI 1)) :: L) st μ Q := e_iinc (by decide +kernel : decode (bOf 80) 16 = .ok (.iinc 1 1, 3)) rfl (by simp [stOK, h])
theorem x_80_19 : Ev d 80 19 L st μ Q = Ev d 80 2 L st μ Q := e_goto (by decide +kernel : decode (bOf 80) 19 = .ok (.goto (-17), 3)) (by omega)
theorem x_80_22 : Ev d 80 22 (.ref r :: L) st μ Q = Ev d 80 23 (.ref r :: L) (.ref r :: st) μ Q := e_aload_n (by decide +kernel : decode (bOf 80) 22 = .ok (.aload_n 0, 1)) rfl
theorem x_80_23 (h : kd t r = 5) : Ev d 80 23 L (.ref r :: st) (t, V, A, P) Q = Ev d 80 26 L (V r 1 :: st) (t, V, A, P) Q := e_getf (by decide +kernel : decode (bOf 80) 23 = .ok (.getfield 7, 3)) (by decide +kernel) (by decide +kernel) h
theorem x_80_26 : Ev d 80 26 L st μ Q = Ev d 80 27 L (.int (iI 1) :: st) μ Q := e_iconst (by decide +kernel : decode (bOf 80) 26 = .ok (.iconst 1, 1))
theorem x_80_27 : Ev d 80 27 L st μ Q = Ev d 80 28 L (.int (iI (-1)) :: st) μ Q := e_iconst (by decide +kernel : decode (bOf 80) 27 = .ok (.iconst (-1), 1))
theorem x_80_28 (h : kd t r = 6) (hi : inB x (ln t r) = true) : Ev d 80 28 L (.int y :: .int x :: .ref r :: st) (t, V, A, P) Q = Ev d 80 29 L st (t, V, up1 A r (upd (A r) x.toNatClampNeg y), P) Q := e_iast (by decide +kernel : decode (bOf 80) 28 = .ok (.iastore, 1)) h hi
theorem x_80_29 : Ev d 80 29 (.ref r :: L) st μ Q = Ev d 80 30 (.ref r :: L) (.ref r :: st) μ Q := e_aload_n (by decide +kernel : decode (bOf 80) 29 = .ok (.aload_n 0, 1)) rfl
theorem x_80_30 (h : kd t r = 5) : Ev d 80 30 L (.ref r :: st) (t, V, A, P) Q = Ev d 80 33 L (V r 1 :: st) (t, V, A, P) Q := e_getf (by decide +kernel : decode (bOf 80) 30 = .ok (.getfield 7, 3)) (by decide +kernel) (by decide +kernel) h
theorem x_80_33 : Ev d 80 33 L st μ Q = Ev d 80 34 L (.int (iI 2) :: st) μ Q := e_iconst (by decide +kernel : decode (bOf 80) 33 = .ok (.iconst 2, 1))
theorem x_80_34 : Ev d 80 34 L st μ Q = Ev d 80 36 L (.int (iI (-9)) :: st) μ Q := e_bipush (by decide +kernel : decode (bOf 80) 34 = .ok (.bipush (-9), 2)) (by decide +kernel)
theorem x_80_36 (h : kd t r = 6) (hi : inB x (ln t r) = true) : Ev d 80 36 L (.int y :: .int x :: .ref r :: st) (t, V, A, P) Q = Ev d 80 37 L st (t, V, up1 A r (upd (A r) x.toNatClampNeg y), P) Q := e_iast (by decide +kernel : decode (bOf 80) 36 = .ok (.iastore, 1)) h hi
theorem x_80_37 : Ev d 80 37 (.ref r :: L) st μ Q = Ev d 80 38 (.ref r :: L) (.ref r :: st) μ Q := e_aload_n (by decide +kernel : decode (bOf 80) 37 = .ok (.aload_n 0, 1)) rfl
theorem x_80_38 (h : kd t r = 5) : Ev d 80 38 L (.ref r :: st) (t, V, A, P) Q = Ev d 80 41 L (V r 1 :: st) (t, V, A, P) Q := e_getf (by decide +kernel : decode (bOf 80) 38 = .ok (.getfield 7, 3)) (by decide +kernel) (by decide +kernel) h
theorem x_80_41 : Ev d 80 41 L st μ Q = Ev d 80 42 L (.int (iI 3) :: st) μ Q := e_iconst (by decide +kernel : decode (bOf 80) 41 = .ok (.iconst 3, 1))
theorem x_80_42 : Ev d 80 42 L st μ Q = Ev d 80 44 L (.int (iI (-9)) :: st) μ Q := e_bipush (by decide +kernel : decode (bOf 80) 42 = .ok (.bipush (-9), 2)) (by decide +kernel)
theorem x_80_44 (h : kd t r = 6) (hi : inB x (ln t r) = true) : Ev d 80 44 L (.int y :: .int x :: .ref r :: st) (t, V, A, P) Q = Ev d 80 45 L st (t, V, up1 A r (upd (A r) x.toNatClampNeg y), P) Q := e_iast (by decide +kernel : decode (bOf 80) 44 = .ok (.iastore, 1)) h hi
theorem x_80_45 : Ev d 80 45 L [] μ Q = Q none μ := e_ret (by decide +kernel : decode (bOf 80) 45 = .ok (.return_, 1)) (by decide +kernel)
theorem c_81 : Call (d + 1) 81 [.int i0, .int i1, .int i2] μ Q = Ev d 81 0 [.int i0, .int i1, .int i2] [] μ Q := call_ev rfl rfl
theorem x_81_0 : Ev d 81 0 (.int x :: L) st μ Q = Ev d 81 1 (.int x :: L) (.int x :: st) μ Q := e_iload_n (by decide +kernel : decode (bOf 81) 0 = .ok (.iload_n 0, 1)) rfl
theorem x_81_1 : Ev d 81 1 (a0 :: .int x :: L) st μ Q = Ev d 81 2 (a0 :: .int x :: L) (.int x :: st) μ Q := e_iload_n (by decide +kernel : decode (bOf 81) 1 = .ok (.iload_n 1, 1)) rfl
theorem x_81_2 : Ev d 81 2 L (.int y :: .int x :: st) μ Q = if x < y then Ev d 81 14 L st μ Q else Ev d 81 5 L st μ Q := e_icmp_lt (by decide +kernel : decode (bOf 81) 2 = .ok (.if_icmp .lt 12, 3)) (by omega)
theorem x_81_5 : Ev d 81 5 (.int x :: L) st μ Q = Ev d 81 6 (.int x :: L) (.int x :: st) μ Q := e_iload_n (by decide +kernel : decode (bOf 81) 5 = .ok (.iload_n 0, 1)) rfl
theorem x_81_6 : Ev d 81 6 (a0 :: a1 :: .int x :: L) st μ Q = Ev d 81 7 (a0 :: a1 :: .int x :: L) (.int x :: st) μ Q := e_iload_n (by decide +kernel : decode (bOf 81) 6 = .ok (.iload_n 2, 1)) rfl
theorem x_81_7 : Ev d 81 7 L (.int y :: .int x :: st) μ Q = if y < x then Ev d 81 14 L st μ Q else Ev d 81 10 L st μ Q := e_icmp_gt (by decide +kernel : decode (bOf 81) 7 = .ok (.if_icmp .gt 7, 3)) (by omega)
theorem x_81_10 : Ev d 81 10 L st μ Q = Ev d 81 11 L (.int (iI 1) :: st) μ Q := e_iconst (by decide +kernel : decode (bOf 81) 10 = .ok (.iconst 1, 1))
theorem x_81_11 : Ev d 81 11 L st μ Q = Ev d 81 15 L st μ Q := e_goto (by decide +kernel : decode (bOf 81) 11 = .ok (.goto 4, 3)) (by omega)
theorem x_81_14 : Ev d 81 14 L st μ Q = Ev d 81 15 L (.int (iI 0) :: st) μ Q := e_iconst (by decide +kernel : decode (bOf 81) 14 = .ok (.iconst 0, 1))
theorem x_81_15 (hx : isB x) : Ev d 81 15 L [.int x] μ Q = Q (some (.int x)) μ := e_zret (by decide +kernel : decode (bOf 81) 15 = .ok (.ireturn, 1)) (by decide +kernel) hx
theorem c_82 : Call (d + 1) 82 [.int i0] μ Q = Ev d 82 0 [.int i0, .null, .null] [] μ Q := call_ev rfl rfl
theorem x_82_0 : Ev d 82 0 L st μ Q = Ev d 82 1 L (.int (iI 0) :: st) μ Q := e_iconst (by decide +kernel : decode (bOf 82) 0 = .ok (.iconst 0, 1))
theorem x_82_1 (h : a0.category = 1) : Ev d 82 1 (a0 :: a1 :: L) (.int x :: st) μ Q = Ev d 82 2 (a0 :: .int x :: L) st μ Q := e_istore_n (by decide +kernel : decode (bOf 82) 1 = .ok (.istore_n 1, 1)) (by show stOK _ 1 = true; simp [stOK, h])
theorem x_82_2 : Ev d 82 2 L st μ Q = Ev d 82 3 L (.int (iI 0) :: st) μ Q := e_iconst (by decide +kernel : decode (bOf 82) 2 = .ok (.iconst 0, 1))
theorem x_82_3 (h : a1.category = 1) : Ev d 82 3 (a0 :: a1 :: a2 :: L) (.int x :: st) μ Q = Ev d 82 4 (a0 :: a1 :: .int x :: L) st μ Q := e_istore_n (by decide +kernel : decode (bOf 82) 3 = .ok (.istore_n 2, 1)) (by show stOK _ 2 = true; simp [stOK, h])
theorem x_82_4 : Ev d 82 4 (a0 :: a1 :: .int x :: L) st μ Q = Ev d 82 5 (a0 :: a1 :: .int x :: L) (.int x :: st) μ Q := e_iload_n (by decide +kernel : decode (bOf 82) 4 = .ok (.iload_n 2, 1)) rfl
theorem x_82_5 : Ev d 82 5 L st μ Q = Ev d 82 7 L (.int (iI 6) :: st) μ Q := e_bipush (by decide +kernel : decode (bOf 82) 5 = .ok (.bipush 6, 2)) (by decide +kernel)
theorem x_82_7 : Ev d 82 7 L (.int y :: .int x :: st) μ Q = if x < y then Ev d 82 10 L st μ Q else Ev d 82 24 L st μ Q := e_icmp_ge (by decide +kernel : decode (bOf 82) 7 = .ok (.if_icmp .ge 17, 3)) (by omega)
theorem x_82_10 : Ev d 82 10 (a0 :: .int x :: L) st μ Q = Ev d 82 11 (a0 :: .int x :: L) (.int x :: st) μ Q := e_iload_n (by decide +kernel : decode (bOf 82) 10 = .ok (.iload_n 1, 1)) rfl
theorem x_82_11 : Ev d 82 11 (.int x :: L) st μ Q = Ev d 82 12 (.int x :: L) (.int x :: st) μ Q := e_iload_n (by decide +kernel : decode (bOf 82) 11 = .ok (.iload_n 0, 1)) rfl
theorem x_82_12 : Ev d 82 12 (a0 :: a1 :: .int x :: L) st μ Q = Ev d 82 13 (a0 :: a1 :: .int x :: L) (.int x :: st) μ Q := e_iload_n (by decide +kernel : decode (bOf 82) 12 = .ok (.iload_n 2, 1)) rfl
theorem x_82_13 : Ev d 82 13 L (.int y :: .int x :: st) μ Q = Ev d 82 14 L (.int (x >>> (y &&& 31)) :: st) μ Q := e_ishr (by decide +kernel : decode (bOf 82) 13 = .ok (.ishr, 1))
theorem x_82_14 : Ev d 82 14 L st μ Q = Ev d 82 15 L (.int (iI 1) :: st) μ Q := e_iconst (by decide +kernel : decode (bOf 82) 14 = .ok (.iconst 1, 1))
theorem x_82_15 : Ev d 82 15 L (.int y :: .int x :: st) μ Q = Ev d 82 16 L (.int (x &&& y) :: st) μ Q := e_iand (by decide +kernel : decode (bOf 82) 15 = .ok (.iand, 1))
theorem x_82_16 : Ev d 82 16 L (.int y :: .int x :: st) μ Q = Ev d 82 17 L (.int (x + y) :: st) μ Q := e_iadd (by decide +kernel : decode (bOf 82) 16 = .ok (.iadd, 1))
theorem x_82_17 (h : a0.category = 1) : Ev d 82 17 (a0 :: a1 :: L) (.int x :: st) μ Q = Ev d 82 18 (a0 :: .int x :: L) st μ Q := e_istore_n (by decide +kernel : decode (bOf 82) 17 = .ok (.istore_n 1, 1)) (by show stOK _ 1 = true; simp [stOK, h])
theorem x_82_18 (h : a1.category = 1) : Ev d 82 18 (a0 :: a1 :: .int x :: L) st μ Q = Ev d 82 21 (a0 :: a1 :: .int (x + (iI 1)) :: L) st μ Q := e_iinc (by decide +kernel : decode (bOf 82) 18 = .ok (.iinc 2 1, 3)) rfl (by simp [stOK, h])
theorem x_82_21 : Ev d 82 21 L st μ Q = Ev d 82 4 L st μ Q := e_goto (by decide +kernel : decode (bOf 82) 21 = .ok (.goto (-17), 3)) (by omega)
theorem x_82_24 : Ev d 82 24 (a0 :: .int x :: L) st μ Q = Ev d 82 25 (a0 :: .int x :: L) (.int x :: st) μ Q := e_iload_n (by decide +kernel : decode (bOf 82) 24 = .ok (.iload_n 1, 1)) rfl
theorem x_82_25 : Ev d 82 25 L [.int x] μ Q = Q (some (.int x)) μ := e_iret (by decide +kernel : decode (bOf 82) 25 = .ok (.ireturn, 1)) (by decide +kernel)
theorem c_83 : Call (d + 1) 83 [.int i0] μ Q = Ev d 83 0 [.int i0] [] μ Q := call_ev rfl rfl
theorem x_83_0 : Ev d 83 0 (.int x :: L) st μ Q = Ev d 83 1 (.int x :: L) (.int x :: st) μ Q := e_iload_n (by decide +kernel : decode (bOf 83) 0 = .ok (.iload_n 0, 1)) rfl
theorem x_83_1 : Ev d 83 1 L st μ Q = Ev d 83 3 L (.int (iI 15) :: st) μ Q := e_bipush (by decide +kernel : decode (bOf 83) 1 = .ok (.bipush 15, 2)) (by decide +kernel)
theorem x_83_3 : Ev d 83 3 L (.int y :: .int x :: st) μ Q = if x = y then Ev d 83 18 L st μ Q else Ev d 83 6 L st μ Q := e_icmp_eq (by decide +kernel : decode (bOf 83) 3 = .ok (.if_icmp .eq 15, 3)) (by omega)
theorem x_83_6 : Ev d 83 6 (.int x :: L) st μ Q = Ev d 83 7 (.int x :: L) (.int x :: st) μ Q := e_iload_n (by decide +kernel : decode (bOf 83) 6 = .ok (.iload_n 0, 1)) rfl
theorem x_83_7 : Ev d 83 7 L st μ Q = Ev d 83 9 L (.int (iI 30) :: st) μ Q := e_bipush (by decide +kernel : decode (bOf 83) 7 = .ok (.bipush 30, 2)) (by decide +kernel)
theorem x_83_9 : Ev d 83 9 L (.int y :: .int x :: st) μ Q = if x = y then Ev d 83 18 L st μ Q else Ev d 83 12 L st μ Q := e_icmp_eq (by decide +kernel : decode (bOf 83) 9 = .ok (.if_icmp .eq 9, 3)) (by omega)
theorem x_83_12 : Ev d 83 12 (.int x :: L) st μ Q = Ev d 83 13 (.int x :: L) (.int x :: st) μ Q := e_iload_n (by decide +kernel : decode (bOf 83) 12 = .ok (.iload_n 0, 1)) rfl
theorem x_83_13 : Ev d 83 13 L st μ Q = Ev d 83 15 L (.int (iI 60) :: st) μ Q := e_bipush (by decide +kernel : decode (bOf 83) 13 = .ok (.bipush 60, 2)) (by decide +kernel)
theorem x_83_15 : Ev d 83 15 L (.int y :: .int x :: st) μ Q = if x = y then Ev d 83 18 L st μ Q else Ev d 83 22 L st μ Q := e_icmp_ne (by decide +kernel : decode (bOf 83) 15 = .ok (.if_icmp .ne 7, 3)) (by omega)
theorem x_83_18 : Ev d 83 18 L st μ Q = Ev d 83 19 L (.int (iI 1) :: st) μ Q := e_iconst (by decide +kernel : decode (bOf 83) 18 = .ok (.iconst 1, 1))
theorem x_83_19 : Ev d 83 19 L st μ Q = Ev d 83 23 L st μ Q := e_goto (by decide +kernel : decode (bOf 83) 19 = .ok (.goto 4, 3)) (by omega)
theorem x_83_22 : Ev d 83 22 L st μ Q = Ev d 83 23 L (.int (iI 0) :: st) μ Q := e_iconst (by decide +kernel : decode (bOf 83) 22 = .ok (.iconst 0, 1))
theorem x_83_23 (hx : isB x) : Ev d 83 23 L [.int x] μ Q = Q (some (.int x)) μ := e_zret (by decide +kernel : decode (bOf 83) 23 = .ok (.ireturn, 1)) (by decide +kernel) hx
theorem c_84 : Call (d + 1) 84 [.int i0, .int i1] μ Q = Ev d 84 0 [.int i0, .int i1, .null, .null, .null] [] μ Q := call_ev rfl rfl
theorem x_84_0 : Ev d 84 0 (.int x :: L) st μ Q = Ev d 84 1 (.int x :: L) (.int x :: st) μ Q := e_iload_n (by decide +kernel : decode (bOf 84) 0 = .ok (.iload_n 0, 1)) rfl
theorem x_84_1 (h : a1.category = 1) : Ev d 84 1 (a0 :: a1 :: a2 :: L) (.int x :: st) μ Q = Ev d 84 2 (a0 :: a1 :: .int x :: L) st μ Q := e_istore_n (by decide +kernel : decode (bOf 84) 1 = .ok (.istore_n 2, 1)) (by show stOK _ 2 = true; simp [stOK, h])
theorem x_84_2 : Ev d 84 2 L st μ Q = Ev d 84 3 L (.int (iI 0) :: st) μ Q := e_iconst (by decide +kernel : decode (bOf 84) 2 = .ok (.iconst 0, 1))
theorem x_84_3 (h : a2.category = 1) : Ev d 84 3 (a0 :: a1 :: a2 :: a3 :: L) (.int x :: st) μ Q = Ev d 84 4 (a0 :: a1 :: a2 :: .int x :: L) st μ Q := e_istore_n (by decide +kernel : decode (bOf 84) 3 = .ok (.istore_n 3, 1)) (by show stOK _ 3 = true; simp [stOK, h])
theorem x_84_4 : Ev d 84 4 L st μ Q = Ev d 84 5 L (.int (iI 0) :: st) μ Q := e_iconst (by decide +kernel : decode (bOf 84) 4 = .ok (.iconst 0, 1))
theorem x_84_5 (h : a3.category = 1) : Ev d 84 5 (a0 :: a1 :: a2 :: a3 :: a4 :: L) (.int x :: st) μ Q = Ev d 84 7 (a0 :: a1 :: a2 :: a3 :: .int x :: L) st μ Q := e_istore (by decide +kernel : decode (bOf 84) 5 = .ok (.istore 4, 2)) (by show stOK _ 4 = true; simp [stOK, h])
theorem x_84_7 : Ev d 84 7 (a0 :: a1 :: a2 :: a3 :: .int x :: L) st μ Q = Ev d 84 9 (a0 :: a1 :: a2 :: a3 :: .int x :: L) (.int x :: st) μ Q := e_iload (by decide +kernel : decode (bOf 84) 7 = .ok (.iload 4, 2)) rfl
theorem x_84_9 : Ev d 84 9 L (.int x :: st) μ Q = if x = iI 0 then Ev d 84 16 L st μ Q else Ev d 84 12 L st μ Q := e_if_eq (by decide +kernel : decode (bOf 84) 9 = .ok (.ifCond .eq 7, 3)) (by omega)
theorem x_84_12 : Ev d 84 12 (a0 :: a1 :: .int x :: L) st μ Q = Ev d 84 13 (a0 :: a1 :: .int x :: L) (.int x :: st) μ Q := e_iload_n (by decide +kernel : decode (bOf 84) 12 = .ok (.iload_n 2, 1)) rfl
theorem x_84_13 : Ev d 84 13 L (.int x :: st) μ Q = if iI 0 < x then Ev d 84 16 L st μ Q else Ev d 84 100 L st μ Q := e_if_le (by decide +kernel : decode (bOf 84) 13 = .ok (.ifCond .le 87, 3)) (by omega)
theorem x_84_16 : Ev d 84 16 (a0 :: a1 :: a2 :: .int x :: L) st μ Q = Ev d 84 17 (a0 :: a1 :: a2 :: .int x :: L) (.int x :: st) μ Q := e_iload_n (by decide +kernel : decode (bOf 84) 16 = .ok (.iload_n 3, 1)) rfl
theorem x_84_17 : Ev d 84 17 (a0 :: a1 :: a2 :: a3 :: .int x :: L) st μ Q = Ev d 84 19 (a0 :: a1 :: a2 :: a3 :: .int x :: L) (.int x :: st) μ Q := e_iload (by decide +kernel : decode (bOf 84) 17 = .ok (.iload 4, 2)) rfl
theorem x_84_19 : Ev d 84 19 L (.int x :: st) μ Q = if x = iI 0 then Ev d 84 26 L st μ Q else Ev d 84 22 L st μ Q := e_if_eq (by decide +kernel : decode (bOf 84) 19 = .ok (.ifCond .eq 7, 3)) (by omega)
theorem x_84_22 : Ev d 84 22 L st μ Q = Ev d 84 23 L (.int (iI 1) :: st) μ Q := e_iconst (by decide +kernel : decode (bOf 84) 22 = .ok (.iconst 1, 1))
theorem x_84_23 : Ev d 84 23 L st μ Q = Ev d 84 27 L st μ Q := e_goto (by decide +kernel : decode (bOf 84) 23 = .ok (.goto 4, 3)) (by omega)
theorem x_84_26 : Ev d 84 26 L st μ Q = Ev d 84 27 L (.int (iI 0) :: st) μ Q := e_iconst (by decide +kernel : decode (bOf 84) 26 = .ok (.iconst 0, 1))
theorem x_84_27 : Ev d 84 27 L (.int y :: .int x :: st) μ Q = Ev d 84 28 L (.int (x + y) :: st) μ Q := e_iadd (by decide +kernel : decode (bOf 84) 27 = .ok (.iadd, 1))
theorem x_84_28 (h : a2.category = 1) : Ev d 84 28 (a0 :: a1 :: a2 :: a3 :: L) (.int x :: st) μ Q = Ev d 84 29 (a0 :: a1 :: a2 :: .int x :: L) st μ Q := e_istore_n (by decide +kernel : decode (bOf 84) 28 = .ok (.istore_n 3, 1)) (by show stOK _ 3 = true; simp [stOK, h])
theorem x_84_29 : Ev d 84 29 (a0 :: a1 :: .int x :: L) st μ Q = Ev d 84 30 (a0 :: a1 :: .int x :: L) (.int x :: st) μ Q := e_iload_n (by decide +kernel : decode (bOf 84) 29 = .ok (.iload_n 2, 1)) rfl
theorem x_84_30 : Ev d 84 30 (a0 :: a1 :: a2 :: a3 :: .int x :: L) st μ Q = Ev d 84 32 (a0 :: a1 :: a2 :: a3 :: .int x :: L) (.int x :: st) μ Q := e_iload (by decide +kernel : decode (bOf 84) 30 = .ok (.iload 4, 2)) rfl
theorem x_84_32 : Ev d 84 32 L (.int x :: st) μ Q = if x = iI 0 then Ev d 84 39 L st μ Q else Ev d 84 35 L st μ Q := e_if_eq (by decide +kernel : decode (bOf 84) 32 = .ok (.ifCond .eq 7, 3)) (by omega)
theorem x_84_35 : Ev d 84 35 L st μ Q = Ev d 84 36 L (.int (iI 1) :: st) μ Q := e_iconst (by decide +kernel : decode (bOf 84) 35 = .ok (.iconst 1, 1))
theorem x_84_36 : Ev d 84 36 L st μ Q = Ev d 84 40 L st μ Q := e_goto (by decide +kernel : decode (bOf 84) 36 = .ok (.goto 4, 3)) (by omega)
theorem x_84_39 : Ev d 84 39 L st μ Q = Ev d 84 40 L (.int (iI 0) :: st) μ Q := e_iconst (by decide +kernel : decode (bOf 84) 39 = .ok (.iconst 0, 1))
theorem x_84_40 : Ev d 84 40 L (.int y :: .int x :: st) μ Q = Ev d 84 41 L (.int (x - y) :: st) μ Q := e_isub (by decide +kernel : decode (bOf 84) 40 = .ok (.isub, 1))
theorem x_84_41 (h : a1.category = 1) : Ev d 84 41 (a0 :: a1 :: a2 :: L) (.int x :: st) μ Q = Ev d 84 42 (a0 :: a1 :: .int x :: L) st μ Q := e_istore_n (by decide +kernel : decode (bOf 84) 41 = .ok (.istore_n 2, 1)) (by show stOK _ 2 = true; simp [stOK, h])
theorem x_84_42 : Ev d 84 42 L st μ Q = Ev d 84 43 L (.int (iI 0) :: st) μ Q := e_iconst (by decide +kernel : decode (bOf 84) 42 = .ok (.iconst 0, 1))
theorem x_84_43 (h : a3.category = 1) : Ev d 84 43 (a0 :: a1 :: a2 :: a3 :: a4 :: L) (.int x :: st) μ Q = Ev d 84 45 (a0 :: a1 :: a2 :: a3 :: .int x :: L) st μ Q := e_istore (by decide +kernel : decode (bOf 84) 43 = .ok (.istore 4, 2)) (by show stOK _ 4 = true; simp [stOK, h])
theorem x_84_45 : Ev d 84 45 (a0 :: a1 :: a2 :: a3 :: .int x :: L) st μ Q = Ev d 84 47 (a0 :: a1 :: a2 :: a3 :: .int x :: L) (.int x :: st) μ Q := e_iload (by decide +kernel : decode (bOf 84) 45 = .ok (.iload 4, 2)) rfl
theorem x_84_47 : Ev d 84 47 L (.int x :: st) μ Q = if x = iI 0 then Ev d 84 50 L st μ Q else Ev d 84 7 L st μ Q := e_if_ne (by decide +kernel : decode (bOf 84) 47 = .ok (.ifCond .ne (-40), 3)) (by omega)
theorem x_84_50 : Ev d 84 50 (a0 :: a1 :: a2 :: .int x :: L) st μ Q = Ev d 84 51 (a0 :: a1 :: a2 :: .int x :: L) (.int x :: st) μ Q := e_iload_n (by decide +kernel : decode (bOf 84) 50 = .ok (.iload_n 3, 1)) rfl
theorem x_84_51 : Ev d 84 51 L [b0] μ Q = Call d 82 [b0] μ (fun v μ1 => Ev d 84 54 L (v.toList ++ []) μ1 Q) := e_callS (a := [b0]) (r := []) (by decide +kernel : decode (bOf 84) 51 = .ok (.invokestatic 63, 3)) (by decide +kernel) (by decide +kernel) (by omega) rfl (by simp)
theorem x_84_54 : Ev d 84 54 (a0 :: .int x :: L) st μ Q = Ev d 84 55 (a0 :: .int x :: L) (.int x :: st) μ Q := e_iload_n (by decide +kernel : decode (bOf 84) 54 = .ok (.iload_n 1, 1)) rfl
theorem x_84_55 : Ev d 84 55 L (.int y :: .int x :: st) μ Q = if x = y then Ev d 84 58 L st μ Q else Ev d 84 81 L st μ Q := e_icmp_ne (by decide +kernel : decode (bOf 84) 55 = .ok (.if_icmp .ne 26, 3)) (by omega)
theorem x_84_58 : Ev d 84 58 (a0 :: a1 :: a2 :: .int x :: L) st μ Q = Ev d 84 59 (a0 :: a1 :: a2 :: .int x :: L) (.int x :: st) μ Q := e_iload_n (by decide +kernel : decode (bOf 84) 58 = .ok (.iload_n 3, 1)) rfl
theorem x_84_59 : Ev d 84 59 L [b0] μ Q = Call d 83 [b0] μ (fun v μ1 => Ev d 84 62 L (v.toList ++ []) μ1 Q) := e_callS (a := [b0]) (r := []) (by decide +kernel : decode (bOf 84) 59 = .ok (.invokestatic 67, 3)) (by decide +kernel) (by decide +kernel) (by omega) rfl (by simp)
theorem x_84_62 : Ev d 84 62 L (.int x :: st) μ Q = if x = iI 0 then Ev d 84 65 L st μ Q else Ev d 84 81 L st μ Q := e_if_ne (by decide +kernel : decode (bOf 84) 62 = .ok (.ifCond .ne 19, 3)) (by omega)
theorem x_84_65 : Ev d 84 65 (a0 :: a1 :: a2 :: .int x :: L) st μ Q = Ev d 84 66 (a0 :: a1 :: a2 :: .int x :: L) (.int x :: st) μ Q := e_iload_n (by decide +kernel : decode (bOf 84) 65 = .ok (.iload_n 3, 1)) rfl
theorem x_84_66 : Ev d 84 66 L st μ Q = Ev d 84 68 L (.int (iI 7) :: st) μ Q := e_bipush (by decide +kernel : decode (bOf 84) 66 = .ok (.bipush 7, 2)) (by decide +kernel)
theorem x_84_68 : Ev d 84 68 L (.int y :: .int x :: st) μ Q = if x = y then Ev d 84 81 L st μ Q else Ev d 84 71 L st μ Q := e_icmp_eq (by decide +kernel : decode (bOf 84) 68 = .ok (.if_icmp .eq 13, 3)) (by omega)
theorem x_84_71 : Ev d 84 71 (a0 :: a1 :: a2 :: .int x :: L) st μ Q = Ev d 84 72 (a0 :: a1 :: a2 :: .int x :: L) (.int x :: st) μ Q := e_iload_n (by decide +kernel : decode (bOf 84) 71 = .ok (.iload_n 3, 1)) rfl
theorem x_84_72 : Ev d 84 72 L st μ Q = Ev d 84 74 L (.int (iI 56) :: st) μ Q := e_bipush (by decide +kernel : decode (bOf 84) 72 = .ok (.bipush 56, 2)) (by decide +kernel)
theorem x_84_74 : Ev d 84 74 L (.int y :: .int x :: st) μ Q = if x = y then Ev d 84 81 L st μ Q else Ev d 84 77 L st μ Q := e_icmp_eq (by decide +kernel : decode (bOf 84) 74 = .ok (.if_icmp .eq 7, 3)) (by omega)
theorem x_84_77 : Ev d 84 77 L st μ Q = Ev d 84 78 L (.int (iI 1) :: st) μ Q := e_iconst (by decide +kernel : decode (bOf 84) 77 = .ok (.iconst 1, 1))
theorem x_84_78 : Ev d 84 78 L st μ Q = Ev d 84 82 L st μ Q := e_goto (by decide +kernel : decode (bOf 84) 78 = .ok (.goto 4, 3)) (by omega)
theorem x_84_81 : Ev d 84 81 L st μ Q = Ev d 84 82 L (.int (iI 0) :: st) μ Q := e_iconst (by decide +kernel : decode (bOf 84) 81 = .ok (.iconst 0, 1))
theorem x_84_82 (h : a3.category = 1) : Ev d 84 82 (a0 :: a1 :: a2 :: a3 :: a4 :: L) (.int x :: st) μ Q = Ev d 84 84 (a0 :: a1 :: a2 :: a3 :: .int x :: L) st μ Q := e_istore (by decide +kernel : decode (bOf 84) 82 = .ok (.istore 4, 2)) (by show stOK _ 4 = true; simp [stOK, h])
theorem x_84_84 : Ev d 84 84 (a0 :: a1 :: a2 :: .int x :: L) st μ Q = Ev d 84 85 (a0 :: a1 :: a2 :: .int x :: L) (.int x :: st) μ Q := e_iload_n (by decide +kernel : decode (bOf 84) 84 = .ok (.iload_n 3, 1)) rfl
theorem x_84_85 : Ev d 84 85 (a0 :: a1 :: a2 :: a3 :: .int x :: L) st μ Q = Ev d 84 87 (a0 :: a1 :: a2 :: a3 :: .int x :: L) (.int x :: st) μ Q := e_iload (by decide +kernel : decode (bOf 84) 85 = .ok (.iload 4, 2)) rfl
theorem x_84_87 : Ev d 84 87 L (.int x :: st) μ Q = if x = iI 0 then Ev d 84 94 L st μ Q else Ev d 84 90 L st μ Q := e_if_eq (by decide +kernel : decode (bOf 84) 87 = .ok (.ifCond .eq 7, 3)) (by omega)
theorem x_84_90 : Ev d 84 90 L st μ Q = Ev d 84 91 L (.int (iI 0) :: st) μ Q := e_iconst (by decide +kernel : decode (bOf 84) 90 = .ok (.iconst 0, 1))
theorem x_84_91 : Ev d 84 91 L st μ Q = Ev d 84 95 L st μ Q := e_goto (by decide +kernel : decode (bOf 84) 91 = .ok (.goto 4, 3)) (by omega)
theorem x_84_94 : Ev d 84 94 L st μ Q = Ev d 84 95 L (.int (iI 1) :: st) μ Q := e_iconst (by decide +kernel : decode (bOf 84) 94 = .ok (.iconst 1, 1))
theorem x_84_95 : Ev d 84 95 L (.int y :: .int x :: st) μ Q = Ev d 84 96 L (.int (x + y) :: st) μ Q := e_iadd (by decide +kernel : decode (bOf 84) 95 = .ok (.iadd, 1))
theorem x_84_96 (h : a2.category = 1) : Ev d 84 96 (a0 :: a1 :: a2 :: a3 :: L) (.int x :: st) μ Q = Ev d 84 97 (a0 :: a1 :: a2 :: .int x :: L) st μ Q := e_istore_n (by decide +kernel : decode (bOf 84) 96 = .ok (.istore_n 3, 1)) (by show stOK _ 3 = true; simp [stOK, h])
theorem x_84_97 : Ev d 84 97 L st μ Q = Ev d 84 45 L st μ Q := e_goto (by decide +kernel : decode (bOf 84) 97 = .ok (.goto (-52), 3)) (by omega)
theorem x_84_100 : Ev d 84 100 (a0 :: a1 :: a2 :: .int x :: L) st μ Q = Ev d 84 101 (a0 :: a1 :: a2 :: .int x :: L) (.int x :: st) μ Q := e_iload_n (by decide +kernel : decode (bOf 84) 100 = .ok (.iload_n 3, 1)) rfl
theorem x_84_101 : Ev d 84 101 L [.int x] μ Q = Q (some (.int x)) μ := e_iret (by decide +kernel : decode (bOf 84) 101 = .ok (.ireturn, 1)) (by decide +kernel)
theorem c_85 : Call (d + 1) 85 [.int i0, .int i1] μ Q = Ev d 85 0 [.int i0, .int i1, .null] [] μ Q := call_ev rfl rfl
theorem x_85_0 : Ev d 85 0 (.int x :: L) st μ Q = Ev d 85 1 (.int x :: L) (.int x :: st) μ Q := e_iload_n (by decide +kernel : decode (bOf 85) 0 = .ok (.iload_n 0, 1)) rfl
theorem x_85_1 : Ev d 85 1 L st μ Q = Ev d 85 3 L (.int (iI 18) :: st) μ Q := e_bipush (by decide +kernel : decode (bOf 85) 1 = .ok (.bipush 18, 2)) (by decide +kernel)
theorem x_85_3 : Ev d 85 3 L (.int y :: .int x :: st) μ Q = if x < y then Ev d 85 6 L st μ Q else Ev d 85 14 L st μ Q := e_icmp_ge (by decide +kernel : decode (bOf 85) 3 = .ok (.if_icmp .ge 11, 3)) (by omega)
theorem x_85_6 : Ev d 85 6 (.int x :: L) st μ Q = Ev d 85 7 (.int x :: L) (.int x :: st) μ Q := e_iload_n (by decide +kernel : decode (bOf 85) 6 = .ok (.iload_n 0, 1)) rfl
theorem x_85_7 : Ev d 85 7 L st μ Q = Ev d 85 8 L (.int (iI 3) :: st) μ Q := e_iconst (by decide +kernel : decode (bOf 85) 7 = .ok (.iconst 3, 1))
theorem x_85_8 : Ev d 85 8 L [b1, b0] μ Q = Call d 84 [b0, b1] μ (fun v μ1 => Ev d 85 11 L (v.toList ++ []) μ1 Q) := e_callS (a := [b0, b1]) (r := []) (by decide +kernel : decode (bOf 85) 8 = .ok (.invokestatic 71, 3)) (by decide +kernel) (by decide +kernel) (by omega) rfl (by simp)
theorem x_85_11 : Ev d 85 11 L st μ Q = Ev d 85 66 L st μ Q := e_goto (by decide +kernel : decode (bOf 85) 11 = .ok (.goto 55, 3)) (by omega)
theorem x_85_14 : Ev d 85 14 (.int x :: L) st μ Q = Ev d 85 15 (.int x :: L) (.int x :: st) μ Q := e_iload_n (by decide +kernel : decode (bOf 85) 14 = .ok (.iload_n 0, 1)) rfl
theorem x_85_15 : Ev d 85 15 L st μ Q = Ev d 85 17 L (.int (iI 30) :: st) μ Q := e_bipush (by decide +kernel : decode (bOf 85) 15 = .ok (.bipush 30, 2)) (by decide +kernel)
theorem x_85_17 : Ev d 85 17 L (.int y :: .int x :: st) μ Q = if x < y then Ev d 85 20 L st μ Q else Ev d 85 31 L st μ Q := e_icmp_ge (by decide +kernel : decode (bOf 85) 17 = .ok (.if_icmp .ge 14, 3)) (by omega)
theorem x_85_20 : Ev d 85 20 (.int x :: L) st μ Q = Ev d 85 21 (.int x :: L) (.int x :: st) μ Q := e_iload_n (by decide +kernel : decode (bOf 85) 20 = .ok (.iload_n 0, 1)) rfl
theorem x_85_21 : Ev d 85 21 L st μ Q = Ev d 85 23 L (.int (iI 18) :: st) μ Q := e_bipush (by decide +kernel : decode (bOf 85) 21 = .ok (.bipush 18, 2)) (by decide +kernel)
theorem x_85_23 : Ev d 85 23 L (.int y :: .int x :: st) μ Q = Ev d 85 24 L (.int (x - y) :: st) μ Q := e_isub (by decide +kernel : decode (bOf 85) 23 = .ok (.isub, 1))
theorem x_85_24 : Ev d 85 24 L st μ Q = Ev d 85 25 L (.int (iI 4) :: st) μ Q := e_iconst (by decide +kernel : decode (bOf 85) 24 = .ok (.iconst 4, 1))
theorem x_85_25 : Ev d 85 25 L [b1, b0] μ Q = Call d 84 [b0, b1] μ (fun v μ1 => Ev d 85 28 L (v.toList ++ []) μ1 Q) := e_callS (a := [b0, b1]) (r := []) (by decide +kernel : decode (bOf 85) 25 = .ok (.invokestatic 71, 3)) (by decide +kernel) (by decide +kernel) (by omega) rfl (by simp)
theorem x_85_28 : Ev d 85 28 L st μ Q = Ev d 85 66 L st μ Q := e_goto (by decide +kernel : decode (bOf 85) 28 = .ok (.goto 38, 3)) (by omega)
theorem x_85_31 : Ev d 85 31 (.int x :: L) st μ Q = Ev d 85 32 (.int x :: L) (.int x :: st) μ Q := e_iload_n (by decide +kernel : decode (bOf 85) 31 = .ok (.iload_n 0, 1)) rfl
theorem x_85_32 : Ev d 85 32 L st μ Q = Ev d 85 34 L (.int (iI 30) :: st) μ Q := e_bipush (by decide +kernel : decode (bOf 85) 32 = .ok (.bipush 30, 2)) (by decide +kernel)
theorem x_85_34 : Ev d 85 34 L (.int y :: .int x :: st) μ Q = if x = y then Ev d 85 37 L st μ Q else Ev d 85 42 L st μ Q := e_icmp_ne (by decide +kernel : decode (bOf 85) 34 = .ok (.if_icmp .ne 8, 3)) (by omega)
theorem x_85_37 : Ev d 85 37 L st μ Q = Ev d 85 39 L (.int (iI 56) :: st) μ Q := e_bipush (by decide +kernel : decode (bOf 85) 37 = .ok (.bipush 56, 2)) (by decide +kernel)
theorem x_85_39 : Ev d 85 39 L st μ Q = Ev d 85 66 L st μ Q := e_goto (by decide +kernel : decode (bOf 85) 39 = .ok (.goto 27, 3)) (by omega)
theorem x_85_42 : Ev d 85 42 (.int x :: L) st μ Q = Ev d 85 43 (.int x :: L) (.int x :: st) μ Q := e_iload_n (by decide +kernel : decode (bOf 85) 42 = .ok (.iload_n 0, 1)) rfl
theorem x_85_43 : Ev d 85 43 L st μ Q = Ev d 85 45 L (.int (iI 31) :: st) μ Q := e_bipush (by decide +kernel : decode (bOf 85) 43 = .ok (.bipush 31, 2)) (by decide +kernel)
theorem x_85_45 : Ev d 85 45 L (.int y :: .int x :: st) μ Q = if x = y then Ev d 85 48 L st μ Q else Ev d 85 53 L st μ Q := e_icmp_ne (by decide +kernel : decode (bOf 85) 45 = .ok (.if_icmp .ne 8, 3)) (by omega)
theorem x_85_48 : Ev d 85 48 L st μ Q = Ev d 85 50 L (.int (iI 15) :: st) μ Q := e_bipush (by decide +kernel : decode (bOf 85) 48 = .ok (.bipush 15, 2)) (by decide +kernel)
theorem x_85_50 : Ev d 85 50 L st μ Q = Ev d 85 66 L st μ Q := e_goto (by decide +kernel : decode (bOf 85) 50 = .ok (.goto 16, 3)) (by omega)
theorem x_85_53 : Ev d 85 53 (.int x :: L) st μ Q = Ev d 85 54 (.int x :: L) (.int x :: st) μ Q := e_iload_n (by decide +kernel : decode (bOf 85) 53 = .ok (.iload_n 0, 1)) rfl
theorem x_85_54 : Ev d 85 54 L st μ Q = Ev d 85 56 L (.int (iI 32) :: st) μ Q := e_bipush (by decide +kernel : decode (bOf 85) 54 = .ok (.bipush 32, 2)) (by decide +kernel)
theorem x_85_56 : Ev d 85 56 L (.int y :: .int x :: st) μ Q = if x = y then Ev d 85 59 L st μ Q else Ev d 85 64 L st μ Q := e_icmp_ne (by decide +kernel : decode (bOf 85) 56 = .ok (.if_icmp .ne 8, 3)) (by omega)
theorem x_85_59 : Ev d 85 59 L st μ Q = Ev d 85 61 L (.int (iI 30) :: st) μ Q := e_bipush (by decide +kernel : decode (bOf 85) 59 = .ok (.bipush 30, 2)) (by decide +kernel)
theorem x_85_61 : Ev d 85 61 L st μ Q = Ev d 85 66 L st μ Q := e_goto (by decide +kernel : decode (bOf 85) 61 = .ok (.goto 5, 3)) (by omega)
theorem x_85_64 : Ev d 85 64 L st μ Q = Ev d 85 66 L (.int (iI 60) :: st) μ Q := e_bipush (by decide +kernel : decode (bOf 85) 64 = .ok (.bipush 60, 2)) (by decide +kernel)
theorem x_85_66 (h : a1.category = 1) : Ev d 85 66 (a0 :: a1 :: a2 :: L) (.int x :: st) μ Q = Ev d 85 67 (a0 :: a1 :: .int x :: L) st μ Q := e_istore_n (by decide +kernel : decode (bOf 85) 66 = .ok (.istore_n 2, 1)) (by show stOK _ 2 = true; simp [stOK, h])
theorem x_85_67 : Ev d 85 67 (.int x :: L) st μ Q = Ev d 85 68 (.int x :: L) (.int x :: st) μ Q := e_iload_n (by decide +kernel : decode (bOf 85) 67 = .ok (.iload_n 0, 1)) rfl
theorem x_85_68 : Ev d 85 68 L st μ Q = Ev d 85 70 L (.int (iI 18) :: st) μ Q := e_bipush (by decide +kernel : decode (bOf 85) 68 = .ok (.bipush 18, 2)) (by decide +kernel)
theorem x_85_70 : Ev d 85 70 L (.int y :: .int x :: st) μ Q = if x < y then Ev d 85 77 L st μ Q else Ev d 85 73 L st μ Q := e_icmp_lt (by decide +kernel : decode (bOf 85) 70 = .ok (.if_icmp .lt 7, 3)) (by omega)
theorem x_85_73 : Ev d 85 73 (a0 :: .int x :: L) st μ Q = Ev d 85 74 (a0 :: .int x :: L) (.int x :: st) μ Q := e_iload_n (by decide +kernel : decode (bOf 85) 73 = .ok (.iload_n 1, 1)) rfl
theorem x_85_74 : Ev d 85 74 L (.int x :: st) μ Q = if x = iI 0 then Ev d 85 77 L st μ Q else Ev d 85 81 L st μ Q := e_if_ne (by decide +kernel : decode (bOf 85) 74 = .ok (.ifCond .ne 7, 3)) (by omega)
theorem x_85_77 : Ev d 85 77 (a0 :: a1 :: .int x :: L) st μ Q = Ev d 85 78 (a0 :: a1 :: .int x :: L) (.int x :: st) μ Q := e_iload_n (by decide +kernel : decode (bOf 85) 77 = .ok (.iload_n 2, 1)) rfl
theorem x_85_78 : Ev d 85 78 L st μ Q = Ev d 85 85 L st μ Q := e_goto (by decide +kernel : decode (bOf 85) 78 = .ok (.goto 7, 3)) (by omega)
theorem x_85_81 : Ev d 85 81 L st μ Q = Ev d 85 83 L (.int (iI 63) :: st) μ Q := e_bipush (by decide +kernel : decode (bOf 85) 81 = .ok (.bipush 63, 2)) (by decide +kernel)
theorem x_85_83 : Ev d 85 83 (a0 :: a1 :: .int x :: L) st μ Q = Ev d 85 84 (a0 :: a1 :: .int x :: L) (.int x :: st) μ Q := e_iload_n (by decide +kernel : decode (bOf 85) 83 = .ok (.iload_n 2, 1)) rfl
theorem x_85_84 : Ev d 85 84 L (.int y :: .int x :: st) μ Q = Ev d 85 85 L (.int (x - y) :: st) μ Q := e_isub (by decide +kernel : decode (bOf 85) 84 = .ok (.isub, 1))
theorem x_85_85 : Ev d 85 85 L [.int x] μ Q = Q (some (.int x)) μ := e_iret (by decide +kernel : decode (bOf 85) 85 = .ok (.ireturn, 1)) (by decide +kernel)
theorem c_86 : Call (d + 1) 86 [.ref r0] μ Q = Ev d 86 0 [.ref r0, .null, .null] [] μ Q := call_ev rfl rfl
theorem x_86_0 : Ev d 86 0 (.ref r :: L) st μ Q = Ev d 86 1 (.ref r :: L) (.ref r :: st) μ Q := e_aload_n (by decide +kernel : decode (bOf 86) 0 = .ok (.aload_n 0, 1)) rfl
theorem x_86_1 (h : kd t r = 5) : Ev d 86 1 L (.ref r :: st) (t, V, A, P) Q = Ev d 86 4 L (V r 12 :: st) (t, V, A, P) Q := e_getf (by decide +kernel : decode (bOf 86) 1 = .ok (.getfield 75, 3)) (by decide +kernel) (by decide +kernel) h
theorem x_86_4 : Ev d 86 4 L (.int x :: st) μ Q = if x = iI 0 then Ev d 86 8 L st μ Q else Ev d 86 7 L st μ Q := e_if_eq (by decide +kernel : decode (bOf 86) 4 = .ok (.ifCond .eq 4, 3)) (by omega)
theorem x_86_7 : Ev d 86 7 L [] μ Q = Q none μ := e_ret (by decide +kernel : decode (bOf 86) 7 = .ok (.return_, 1)) (by decide +kernel)
theorem x_86_8 : Ev d 86 8 L st μ Q = Ev d 86 9 L (.int (iI 0) :: st) μ Q := e_iconst (by decide +kernel : decode (bOf 86) 8 = .ok (.iconst 0, 1))
theorem x_86_9 (h : a0.category = 1) : Ev d 86 9 (a0 :: a1 :: L) (.int x :: st) μ Q = Ev d 86 10 (a0 :: .int x :: L) st μ Q := e_istore_n (by decide +kernel : decode (bOf 86) 9 = .ok (.istore_n 1, 1)) (by show stOK _ 1 = true; simp [stOK, h])
theorem x_86_10 : Ev d 86 10 (a0 :: .int x :: L) st μ Q = Ev d 86 11 (a0 :: .int x :: L) (.int x :: st) μ Q := e_iload_n (by decide +kernel : decode (bOf 86) 10 = .ok (.iload_n 1, 1)) rfl
theorem x_86_11 : Ev d 86 11 L st μ Q = Ev d 86 13 L (.int (iI 64) :: st) μ Q := e_bipush (by decide +kernel : decode (bOf 86) 11 = .ok (.bipush 64, 2)) (by decide +kernel)
theorem x_86_13 : Ev d 86 13 L (.int y :: .int x :: st) μ Q = if x < y then Ev d 86 16 L st μ Q else Ev d 86 37 L st μ Q := e_icmp_ge (by decide +kernel : decode (bOf 86) 13 = .ok (.if_icmp .ge 24, 3)) (by omega)
theorem x_86_16 : Ev d 86 16 (.ref r :: L) st μ Q = Ev d 86 17 (.ref r :: L) (.ref r :: st) μ Q := e_aload_n (by decide +kernel : decode (bOf 86) 16 = .ok (.aload_n 0, 1)) rfl
theorem x_86_17 (h : kd t r = 5) : Ev d 86 17 L (.ref r :: st) (t, V, A, P) Q = Ev d 86 20 L (V r 10 :: st) (t, V, A, P) Q := e_getf (by decide +kernel : decode (bOf 86) 17 = .ok (.getfield 29, 3)) (by decide +kernel) (by decide +kernel) h
theorem x_86_20 : Ev d 86 20 (a0 :: .int x :: L) st μ Q = Ev d 86 21 (a0 :: .int x :: L) (.int x :: st) μ Q := e_iload_n (by decide +kernel : decode (bOf 86) 20 = .ok (.iload_n 1, 1)) rfl
theorem x_86_21 : Ev d 86 21 L st μ Q = Ev d 86 23 L (.int (iI (-9)) :: st) μ Q := e_bipush (by decide +kernel : decode (bOf 86) 21 = .ok (.bipush (-9), 2)) (by decide +kernel)
theorem x_86_23 (h : kd t r = 6) (hi : inB x (ln t r) = true) : Ev d 86 23 L (.int y :: .int x :: .ref r :: st) (t, V, A, P) Q = Ev d 86 24 L st (t, V, up1 A r (upd (A r) x.toNatClampNeg y), P) Q := e_iast (by decide +kernel : decode (bOf 86) 23 = .ok (.iastore, 1)) h hi
theorem x_86_24 : Ev d 86 24 (.ref r :: L) st μ Q = Ev d 86 25 (.ref r :: L) (.ref r :: st) μ Q := e_aload_n (by decide +kernel : decode (bOf 86) 24 = .ok (.aload_n 0, 1)) rfl
theorem x_86_25 (h : kd t r = 5) : Ev d 86 25 L (.ref r :: st) (t, V, A, P) Q = Ev d 86 28 L (V r 11 :: st) (t, V, A, P) Q := e_getf (by decide +kernel : decode (bOf 86) 25 = .ok (.getfield 32, 3)) (by decide +kernel) (by decide +kernel) h
theorem x_86_28 : Ev d 86 28 (a0 :: .int x :: L) st μ Q = Ev d 86 29 (a0 :: .int x :: L) (.int x :: st) μ Q := e_iload_n (by decide +kernel : decode (bOf 86) 28 = .ok (.iload_n 1, 1)) rfl
theorem x_86_29 : Ev d 86 29 L st μ Q = Ev d 86 30 L (.int (iI 0) :: st) μ Q := e_iconst (by decide +kernel : decode (bOf 86) 29 = .ok (.iconst 0, 1))
theorem x_86_30 (h : kd t r = 6) (hi : inB x (ln t r) = true) : Ev d 86 30 L (.int y :: .int x :: .ref r :: st) (t, V, A, P) Q = Ev d 86 31 L st (t, V, up1 A r (upd (A r) x.toNatClampNeg y), P) Q := e_iast (by decide +kernel : decode (bOf 86) 30 = .ok (.iastore, 1)) h hi
theorem x_86_31 (h : a0.category = 1) : Ev d 86 31 (a0 :: .int x :: L) st μ Q = Ev d 86 34 (a0 :: .int (x + (iI 1)) :: L) st μ Q := e_iinc (by decide +kernel : decode (bOf 86) 31 = .ok (.iinc 1 1, 3)) rfl (by simp [stOK, h])
theorem x_86_34 : Ev d 86 34 L st μ Q = Ev d 86 10 L st μ Q := e_goto (by decide +kernel : decode (bOf 86) 34 = .ok (.goto (-24), 3)) (by omega)
theorem x_86_37 : Ev d 86 37 L st μ Q = Ev d 86 38 L (.int (iI 0) :: st) μ Q := e_iconst (by decide +kernel : decode (bOf 86) 37 = .ok (.iconst 0, 1))
theorem x_86_38 (h : a0.category = 1) : Ev d 86 38 (a0 :: a1 :: L) (.int x :: st) μ Q = Ev d 86 39 (a0 :: .int x :: L) st μ Q := e_istore_n (by decide +kernel : decode (bOf 86) 38 = .ok (.istore_n 1, 1)) (by show stOK _ 1 = true; simp [stOK, h])
theorem x_86_39 : Ev d 86 39 (a0 :: .int x :: L) st μ Q = Ev d 86 40 (a0 :: .int x :: L) (.int x :: st) μ Q := e_iload_n (by decide +kernel : decode (bOf 86) 39 = .ok (.iload_n 1, 1)) rfl
theorem x_86_40 : Ev d 86 40 L st μ Q = Ev d 86 42 L (.int (iI 34) :: st) μ Q := e_bipush (by decide +kernel : decode (bOf 86) 40 = .ok (.bipush 34, 2)) (by decide +kernel)
theorem x_86_42 : Ev d 86 42 L (.int y :: .int x :: st) μ Q = if x < y then Ev d 86 45 L st μ Q else Ev d 86 91 L st μ Q := e_icmp_ge (by decide +kernel : decode (bOf 86) 42 = .ok (.if_icmp .ge 49, 3)) (by omega)
theorem x_86_45 : Ev d 86 45 L st μ Q = Ev d 86 46 L (.int (iI 0) :: st) μ Q := e_iconst (by decide +kernel : decode (bOf 86) 45 = .ok (.iconst 0, 1))
theorem x_86_46 (h : a1.category = 1) : Ev d 86 46 (a0 :: a1 :: a2 :: L) (.int x :: st) μ Q = Ev d 86 47 (a0 :: a1 :: .int x :: L) st μ Q := e_istore_n (by decide +kernel : decode (bOf 86) 46 = .ok (.istore_n 2, 1)) (by show stOK _ 2 = true; simp [stOK, h])
theorem x_86_47 : Ev d 86 47 (a0 :: a1 :: .int x :: L) st μ Q = Ev d 86 48 (a0 :: a1 :: .int x :: L) (.int x :: st) μ Q := e_iload_n (by decide +kernel : decode (bOf 86) 47 = .ok (.iload_n 2, 1)) rfl
theorem x_86_48 : Ev d 86 48 L st μ Q = Ev d 86 49 L (.int (iI 2) :: st) μ Q := e_iconst (by decide +kernel : decode (bOf 86) 48 = .ok (.iconst 2, 1))
theorem x_86_49 : Ev d 86 49 L (.int y :: .int x :: st) μ Q = if x < y then Ev d 86 52 L st μ Q else Ev d 86 85 L st μ Q := e_icmp_ge (by decide +kernel : decode (bOf 86) 49 = .ok (.if_icmp .ge 36, 3)) (by omega)
theorem x_86_52 : Ev d 86 52 (.ref r :: L) st μ Q = Ev d 86 53 (.ref r :: L) (.ref r :: st) μ Q := e_aload_n (by decide +kernel : decode (bOf 86) 52 = .ok (.aload_n 0, 1)) rfl
theorem x_86_53 (h : kd t r = 5) : Ev d 86 53 L (.ref r :: st) (t, V, A, P) Q = Ev d 86 56 L (V r 10 :: st) (t, V, A, P) Q := e_getf (by decide +kernel : decode (bOf 86) 53 = .ok (.getfield 29, 3)) (by decide +kernel) (by decide +kernel) h
theorem x_86_56 : Ev d 86 56 (a0 :: .int x :: L) st μ Q = Ev d 86 57 (a0 :: .int x :: L) (.int x :: st) μ Q := e_iload_n (by decide +kernel : decode (bOf 86) 56 = .ok (.iload_n 1, 1)) rfl
theorem x_86_57 : Ev d 86 57 (a0 :: a1 :: .int x :: L) st μ Q = Ev d 86 58 (a0 :: a1 :: .int x :: L) (.int x :: st) μ Q := e_iload_n (by decide +kernel : decode (bOf 86) 57 = .ok (.iload_n 2, 1)) rfl
theorem x_86_58 : Ev d 86 58 L [b1, b0, s0] μ Q = Call d 85 [b0, b1] μ (fun v μ1 => Ev d 86 61 L (v.toList ++ [s0]) μ1 Q) := e_callS (a := [b0, b1]) (r := [s0]) (by decide +kernel : decode (bOf 86) 58 = .ok (.invokestatic 79, 3)) (by decide +kernel) (by decide +kernel) (by omega) rfl (by simp)
theorem x_86_61 : Ev d 86 61 (a0 :: .int x :: L) st μ Q = Ev d 86 62 (a0 :: .int x :: L) (.int x :: st) μ Q := e_iload_n (by decide +kernel : decode (bOf 86) 61 = .ok (.iload_n 1, 1)) rfl
theorem x_86_62 (h : kd t r = 6) (hi : inB x (ln t r) = true) : Ev d 86 62 L (.int y :: .int x :: .ref r :: st) (t, V, A, P) Q = Ev d 86 63 L st (t, V, up1 A r (upd (A r) x.toNatClampNeg y), P) Q := e_iast (by decide +kernel : decode (bOf 86) 62 = .ok (.iastore, 1)) h hi
theorem x_86_63 : Ev d 86 63 (.ref r :: L) st μ Q = Ev d 86 64 (.ref r :: L) (.ref r :: st) μ Q := e_aload_n (by decide +kernel : decode (bOf 86) 63 = .ok (.aload_n 0, 1)) rfl
theorem x_86_64 (h : kd t r = 5) : Ev d 86 64 L (.ref r :: st) (t, V, A, P) Q = Ev d 86 67 L (V r 11 :: st) (t, V, A, P) Q := e_getf (by decide +kernel : decode (bOf 86) 64 = .ok (.getfield 32, 3)) (by decide +kernel) (by decide +kernel) h
theorem x_86_67 : Ev d 86 67 (a0 :: .int x :: L) st μ Q = Ev d 86 68 (a0 :: .int x :: L) (.int x :: st) μ Q := e_iload_n (by decide +kernel : decode (bOf 86) 67 = .ok (.iload_n 1, 1)) rfl
theorem x_86_68 : Ev d 86 68 (a0 :: a1 :: .int x :: L) st μ Q = Ev d 86 69 (a0 :: a1 :: .int x :: L) (.int x :: st) μ Q := e_iload_n (by decide +kernel : decode (bOf 86) 68 = .ok (.iload_n 2, 1)) rfl
theorem x_86_69 : Ev d 86 69 L [b1, b0, s0] μ Q = Call d 85 [b0, b1] μ (fun v μ1 => Ev d 86 72 L (v.toList ++ [s0]) μ1 Q) := e_callS (a := [b0, b1]) (r := [s0]) (by decide +kernel : decode (bOf 86) 69 = .ok (.invokestatic 79, 3)) (by decide +kernel) (by decide +kernel) (by omega) rfl (by simp)
theorem x_86_72 : Ev d 86 72 L (.int x :: .ref r :: st) μ Q = Ev d 86 73 L (.int x :: .ref r :: .int x :: .ref r :: st) μ Q := e_dup2 (by decide +kernel : decode (bOf 86) 72 = .ok (.dup2, 1))
theorem x_86_73 (h : kd t r = 6) (hi : inB x (ln t r) = true) : Ev d 86 73 L (.int x :: .ref r :: st) (t, V, A, P) Q = Ev d 86 74 L (.int (A r x.toNatClampNeg) :: st) (t, V, A, P) Q := e_iald (by decide +kernel : decode (bOf 86) 73 = .ok (.iaload, 1)) h hi
theorem x_86_74 : Ev d 86 74 L st μ Q = Ev d 86 75 L (.int (iI 1) :: st) μ Q := e_iconst (by decide +kernel : decode (bOf 86) 74 = .ok (.iconst 1, 1))
theorem x_86_75 : Ev d 86 75 (a0 :: a1 :: .int x :: L) st μ Q = Ev d 86 76 (a0 :: a1 :: .int x :: L) (.int x :: st) μ Q := e_iload_n (by decide +kernel : decode (bOf 86) 75 = .ok (.iload_n 2, 1)) rfl
theorem x_86_76 : Ev d 86 76 L (.int y :: .int x :: st) μ Q = Ev d 86 77 L (.int (x <<< (y &&& 31)) :: st) μ Q := e_ishl (by decide +kernel : decode (bOf 86) 76 = .ok (.ishl, 1))
theorem x_86_77 : Ev d 86 77 L (.int y :: .int x :: st) μ Q = Ev d 86 78 L (.int (x ||| y) :: st) μ Q := e_ior (by decide +kernel : decode (bOf 86) 77 = .ok (.ior, 1))
theorem x_86_78 (h : kd t r = 6) (hi : inB x (ln t r) = true) : Ev d 86 78 L (.int y :: .int x :: .ref r :: st) (t, V, A, P) Q = Ev d 86 79 L st (t, V, up1 A r (upd (A r) x.toNatClampNeg y), P) Q := e_iast (by decide +kernel : decode (bOf 86) 78 = .ok (.iastore, 1)) h hi
theorem x_86_79 (h : a1.category = 1) : Ev d 86 79 (a0 :: a1 :: .int x :: L) st μ Q = Ev d 86 82 (a0 :: a1 :: .int (x + (iI 1)) :: L) st μ Q := e_iinc (by decide +kernel : decode (bOf 86) 79 = .ok (.iinc 2 1, 3)) rfl (by simp [stOK, h])
theorem x_86_82 : Ev d 86 82 L st μ Q = Ev d 86 47 L st μ Q := e_goto (by decide +kernel : decode (bOf 86) 82 = .ok (.goto (-35), 3)) (by omega)
theorem x_86_85 (h : a0.category = 1) : Ev d 86 85 (a0 :: .int x :: L) st μ Q = Ev d 86 88 (a0 :: .int (x + (iI 1)) :: L) st μ Q := e_iinc (by decide +kernel : decode (bOf 86) 85 = .ok (.iinc 1 1, 3)) rfl (by simp [stOK, h])
theorem x_86_88 : Ev d 86 88 L st μ Q = Ev d 86 39 L st μ Q := e_goto (by decide +kernel : decode (bOf 86) 88 = .ok (.goto (-49), 3)) (by omega)
theorem x_86_91 : Ev d 86 91 (.ref r :: L) st μ Q = Ev d 86 92 (.ref r :: L) (.ref r :: st) μ Q := e_aload_n (by decide +kernel : decode (bOf 86) 91 = .ok (.aload_n 0, 1)) rfl
theorem x_86_92 : Ev d 86 92 L st μ Q = Ev d 86 93 L (.int (iI 1) :: st) μ Q := e_iconst (by decide +kernel : decode (bOf 86) 92 = .ok (.iconst 1, 1))
theorem x_86_93 (h : kd t r = 5) (hx : mayPut 86 5 12 (.int x) = true) : Ev d 86 93 L (.int x :: .ref r :: st) (t, V, A, P) Q = Ev d 86 96 L st (t, up1 V r (up1 (V r) 12 (.int x)), A, P) Q := e_putf (by decide +kernel : decode (bOf 86) 93 = .ok (.putfield 75, 3)) (by decide +kernel) (by decide +kernel) hx h
theorem x_86_96 : Ev d 86 96 L [] μ Q = Q none μ := e_ret (by decide +kernel : decode (bOf 86) 96 = .ok (.return_, 1)) (by decide +kernel)
theorem c_87 : Call (d + 1) 87 [.ref r0, .int i1] μ Q = Ev d 87 0 [.ref r0, .int i1] [] μ Q := call_ev rfl rfl
theorem x_87_0 : Ev d 87 0 (a0 :: .int x :: L) st μ Q = Ev d 87 1 (a0 :: .int x :: L) (.int x :: st) μ Q := e_iload_n (by decide +kernel : decode (bOf 87) 0 = .ok (.iload_n 1, 1)) rfl
theorem x_87_1 : Ev d 87 1 (.ref r :: L) st μ Q = Ev d 87 2 (.ref r :: L) (.ref r :: st) μ Q := e_aload_n (by decide +kernel : decode (bOf 87) 1 = .ok (.aload_n 0, 1)) rfl
theorem x_87_2 (h : kd t r = 5) : Ev d 87 2 L (.ref r :: st) (t, V, A, P) Q = Ev d 87 5 L (V r 7 :: st) (t, V, A, P) Q := e_getf (by decide +kernel : decode (bOf 87) 2 = .ok (.getfield 82, 3)) (by decide +kernel) (by decide +kernel) h
theorem x_87_5 : Ev d 87 5 L (.int y :: .int x :: st) μ Q = if x < y then Ev d 87 8 L st μ Q else Ev d 87 17 L st μ Q := e_icmp_ge (by decide +kernel : decode (bOf 87) 5 = .ok (.if_icmp .ge 12, 3)) (by omega)
theorem x_87_8 : Ev d 87 8 (.ref r :: L) st μ Q = Ev d 87 9 (.ref r :: L) (.ref r :: st) μ Q := e_aload_n (by decide +kernel : decode (bOf 87) 8 = .ok (.aload_n 0, 1)) rfl
theorem x_87_9 (h : kd t r = 5) : Ev d 87 9 L (.ref r :: st) (t, V, A, P) Q = Ev d 87 12 L (V r 6 :: st) (t, V, A, P) Q := e_getf (by decide +kernel : decode (bOf 87) 9 = .ok (.getfield 23, 3)) (by decide +kernel) (by decide +kernel) h
theorem x_87_12 : Ev d 87 12 (a0 :: .int x :: L) st μ Q = Ev d 87 13 (a0 :: .int x :: L) (.int x :: st) μ Q := e_iload_n (by decide +kernel : decode (bOf 87) 12 = .ok (.iload_n 1, 1)) rfl
theorem x_87_13 (h : kd t r = 6) (hi : inB x (ln t r) = true) : Ev d 87 13 L (.int x :: .ref r :: st) (t, V, A, P) Q = Ev d 87 14 L (.int (A r x.toNatClampNeg) :: st) (t, V, A, P) Q := e_iald (by decide +kernel : decode (bOf 87) 13 = .ok (.iaload, 1)) h hi
theorem x_87_14 : Ev d 87 14 L st μ Q = Ev d 87 18 L st μ Q := e_goto (by decide +kernel : decode (bOf 87) 14 = .ok (.goto 4, 3)) (by omega)
theorem x_87_17 : Ev d 87 17 L st μ Q = Ev d 87 18 L (.int (iI (-1)) :: st) μ Q := e_iconst (by decide +kernel : decode (bOf 87) 17 = .ok (.iconst (-1), 1))
theorem x_87_18 : Ev d 87 18 L [.int x] μ Q = Q (some (.int x)) μ := e_iret (by decide +kernel : decode (bOf 87) 18 = .ok (.ireturn, 1)) (by decide +kernel)
theorem c_88 : Call (d + 1) 88 [.ref r0, .int i1] μ Q = Ev d 88 0 [.ref r0, .int i1] [] μ Q := call_ev rfl rfl
theorem x_88_0 : Ev d 88 0 (.ref r :: L) st μ Q = Ev d 88 1 (.ref r :: L) (.ref r :: st) μ Q := e_aload_n (by decide +kernel : decode (bOf 88) 0 = .ok (.aload_n 0, 1)) rfl
theorem x_88_1 : Ev d 88 1 L st μ Q = Ev d 88 2 L (.int (iI 0) :: st) μ Q := e_iconst (by decide +kernel : decode (bOf 88) 1 = .ok (.iconst 0, 1))
theorem x_88_2 (h : kd t r = 5) : Ev d 88 2 L (.int x :: .ref r :: st) (t, V, A, P) Q = Ev d 88 5 L st (t, up1 V r (up1 (V r) 0 (.int x)), A, P) Q := e_putf (by decide +kernel : decode (bOf 88) 2 = .ok (.putfield 59, 3)) (by decide +kernel) (by decide +kernel) rfl h
theorem x_88_5 : Ev d 88 5 (a0 :: .int x :: L) st μ Q = Ev d 88 6 (a0 :: .int x :: L) (.int x :: st) μ Q := e_iload_n (by decide +kernel : decode (bOf 88) 5 = .ok (.iload_n 1, 1)) rfl
theorem x_88_6 : Ev d 88 6 L st μ Q = Ev d 88 7 L (.int (iI 0) :: st) μ Q := e_iconst (by decide +kernel : decode (bOf 88) 6 = .ok (.iconst 0, 1))
theorem x_88_7 : Ev d 88 7 L st μ Q = Ev d 88 10 L (.int (iI 255) :: st) μ Q := e_sipush (by decide +kernel : decode (bOf 88) 7 = .ok (.sipush 255, 3)) (by decide +kernel)
theorem x_88_10 : Ev d 88 10 L [b2, b1, b0] μ Q = Call d 81 [b0, b1, b2] μ (fun v μ1 => Ev d 88 13 L (v.toList ++ []) μ1 Q) := e_callS (a := [b0, b1, b2]) (r := []) (by decide +kernel : decode (bOf 88) 10 = .ok (.invokestatic 85, 3)) (by decide +kernel) (by decide +kernel) (by omega) rfl (by simp)
theorem x_88_13 : Ev d 88 13 L (.int x :: st) μ Q = if x = iI 0 then Ev d 88 16 L st μ Q else Ev d 88 18 L st μ Q := e_if_ne (by decide +kernel : decode (bOf 88) 13 = .ok (.ifCond .ne 5, 3)) (by omega)
theorem x_88_16 : Ev d 88 16 L st μ Q = Ev d 88 17 L (.int (iI (-1)) :: st) μ Q := e_iconst (by decide +kernel : decode (bOf 88) 16 = .ok (.iconst (-1), 1))
theorem x_88_17 : Ev d 88 17 L [.int x] μ Q = Q (some (.int x)) μ := e_iret (by decide +kernel : decode (bOf 88) 17 = .ok (.ireturn, 1)) (by decide +kernel)
theorem x_88_18 : Ev d 88 18 (.ref r :: L) st μ Q = Ev d 88 19 (.ref r :: L) (.ref r :: st) μ Q := e_aload_n (by decide +kernel : decode (bOf 88) 18 = .ok (.aload_n 0, 1)) rfl
theorem x_88_19 (h : kd t r = 5) : Ev d 88 19 L (.ref r :: st) (t, V, A, P) Q = Ev d 88 22 L (V r 7 :: st) (t, V, A, P) Q := e_getf (by decide +kernel : decode (bOf 88) 19 = .ok (.getfield 82, 3)) (by decide +kernel) (by decide +kernel) h
theorem x_88_22 : Ev d 88 22 L st μ Q = Ev d 88 24 L (.int (iI 120) :: st) μ Q := e_bipush (by decide +kernel : decode (bOf 88) 22 = .ok (.bipush 120, 2)) (by decide +kernel)
theorem x_88_24 : Ev d 88 24 L (.int y :: .int x :: st) μ Q = if x = y then Ev d 88 27 L st μ Q else Ev d 88 30 L st μ Q := e_icmp_ne (by decide +kernel : decode (bOf 88) 24 = .ok (.if_icmp .ne 6, 3)) (by omega)
theorem x_88_27 : Ev d 88 27 L st μ Q = Ev d 88 29 L (.int (iI (-3)) :: st) μ Q := e_bipush (by decide +kernel : decode (bOf 88) 27 = .ok (.bipush (-3), 2)) (by decide +kernel)
theorem x_88_29 : Ev d 88 29 L [.int x] μ Q = Q (some (.int x)) μ := e_iret (by decide +kernel : decode (bOf 88) 29 = .ok (.ireturn, 1)) (by decide +kernel)
theorem x_88_30 : Ev d 88 30 (.ref r :: L) st μ Q = Ev d 88 31 (.ref r :: L) (.ref r :: st) μ Q := e_aload_n (by decide +kernel : decode (bOf 88) 30 = .ok (.aload_n 0, 1)) rfl
theorem x_88_31 (h : kd t r = 5) : Ev d 88 31 L (.ref r :: st) (t, V, A, P) Q = Ev d 88 34 L (V r 6 :: st) (t, V, A, P) Q := e_getf (by decide +kernel : decode (bOf 88) 31 = .ok (.getfield 23, 3)) (by decide +kernel) (by decide +kernel) h
theorem x_88_34 : Ev d 88 34 (.ref r :: L) st μ Q = Ev d 88 35 (.ref r :: L) (.ref r :: st) μ Q := e_aload_n (by decide +kernel : decode (bOf 88) 34 = .ok (.aload_n 0, 1)) rfl
theorem x_88_35 (h : kd t r = 5) : Ev d 88 35 L (.ref r :: st) (t, V, A, P) Q = Ev d 88 38 L (V r 7 :: st) (t, V, A, P) Q := e_getf (by decide +kernel : decode (bOf 88) 35 = .ok (.getfield 82, 3)) (by decide +kernel) (by decide +kernel) h
theorem x_88_38 : Ev d 88 38 (a0 :: .int x :: L) st μ Q = Ev d 88 39 (a0 :: .int x :: L) (.int x :: st) μ Q := e_iload_n (by decide +kernel : decode (bOf 88) 38 = .ok (.iload_n 1, 1)) rfl
theorem x_88_39 (h : kd t r = 6) (hi : inB x (ln t r) = true) : Ev d 88 39 L (.int y :: .int x :: .ref r :: st) (t, V, A, P) Q = Ev d 88 40 L st (t, V, up1 A r (upd (A r) x.toNatClampNeg y), P) Q := e_iast (by decide +kernel : decode (bOf 88) 39 = .ok (.iastore, 1)) h hi
theorem x_88_40 : Ev d 88 40 (.ref r :: L) st μ Q = Ev d 88 41 (.ref r :: L) (.ref r :: st) μ Q := e_aload_n (by decide +kernel : decode (bOf 88) 40 = .ok (.aload_n 0, 1)) rfl
theorem x_88_41 : Ev d 88 41 L (.ref r :: st) μ Q = Ev d 88 42 L (.ref r :: .ref r :: st) μ Q := e_dup_a (by decide +kernel : decode (bOf 88) 41 = .ok (.dup, 1))
theorem x_88_42 (h : kd t r = 5) : Ev d 88 42 L (.ref r :: st) (t, V, A, P) Q = Ev d 88 45 L (V r 7 :: st) (t, V, A, P) Q := e_getf (by decide +kernel : decode (bOf 88) 42 = .ok (.getfield 82, 3)) (by decide +kernel) (by decide +kernel) h
theorem x_88_45 : Ev d 88 45 L st μ Q = Ev d 88 46 L (.int (iI 1) :: st) μ Q := e_iconst (by decide +kernel : decode (bOf 88) 45 = .ok (.iconst 1, 1))
theorem x_88_46 : Ev d 88 46 L (.int y :: .int x :: st) μ Q = Ev d 88 47 L (.int (x + y) :: st) μ Q := e_iadd (by decide +kernel : decode (bOf 88) 46 = .ok (.iadd, 1))
theorem x_88_47 (h : kd t r = 5) : Ev d 88 47 L (.int x :: .ref r :: st) (t, V, A, P) Q = Ev d 88 50 L st (t, up1 V r (up1 (V r) 7 (.int x)), A, P) Q := e_putf (by decide +kernel : decode (bOf 88) 47 = .ok (.putfield 82, 3)) (by decide +kernel) (by decide +kernel) rfl h
theorem x_88_50 : Ev d 88 50 (.ref r :: L) st μ Q = Ev d 88 51 (.ref r :: L) (.ref r :: st) μ Q := e_aload_n (by decide +kernel : decode (bOf 88) 50 = .ok (.aload_n 0, 1)) rfl
theorem x_88_51 (h : kd t r = 5) : Ev d 88 51 L (.ref r :: st) (t, V, A, P) Q = Ev d 88 54 L (V r 7 :: st) (t, V, A, P) Q := e_getf (by decide +kernel : decode (bOf 88) 51 = .ok (.getfield 82, 3)) (by decide +kernel) (by decide +kernel) h
theorem x_88_54 : Ev d 88 54 L [.int x] μ Q = Q (some (.int x)) μ := e_iret (by decide +kernel : decode (bOf 88) 54 = .ok (.ireturn, 1)) (by decide +kernel)
theorem c_89 : Call (d + 1) 89 [.ref r0] μ Q = Ev d 89 0 [.ref r0, .null] [] μ Q := call_ev rfl rfl
theorem x_89_0 : Ev d 89 0 (.ref r :: L) st μ Q = Ev d 89 1 (.ref r :: L) (.ref r :: st) μ Q := e_aload_n (by decide +kernel : decode (bOf 89) 0 = .ok (.aload_n 0, 1)) rfl
theorem x_89_1 : Ev d 89 1 L st μ Q = Ev d 89 2 L (.int (iI 0) :: st) μ Q := e_iconst (by decide +kernel : decode (bOf 89) 1 = .ok (.iconst 0, 1))
theorem x_89_2 (h : kd t r = 5) : Ev d 89 2 L (.int x :: .ref r :: st) (t, V, A, P) Q = Ev d 89 5 L st (t, up1 V r (up1 (V r) 0 (.int x)), A, P) Q := e_putf (by decide +kernel : decode (bOf 89) 2 = .ok (.putfield 59, 3)) (by decide +kernel) (by decide +kernel) rfl h
theorem x_89_5 : Ev d 89 5 (.ref r :: L) st μ Q = Ev d 89 6 (.ref r :: L) (.ref r :: st) μ Q := e_aload_n (by decide +kernel : decode (bOf 89) 5 = .ok (.aload_n 0, 1)) rfl
theorem x_89_6 (h : kd t r = 5) : Ev d 89 6 L (.ref r :: st) (t, V, A, P) Q = Ev d 89 9 L (V r 7 :: st) (t, V, A, P) Q := e_getf (by decide +kernel : decode (bOf 89) 6 = .ok (.getfield 82, 3)) (by decide +kernel) (by decide +kernel) h
theorem x_89_9 (h : a0.category = 1) : Ev d 89 9 (a0 :: a1 :: L) (.int x :: st) μ Q = Ev d 89 10 (a0 :: .int x :: L) st μ Q := e_istore_n (by decide +kernel : decode (bOf 89) 9 = .ok (.istore_n 1, 1)) (by show stOK _ 1 = true; simp [stOK, h])
theorem x_89_10 : Ev d 89 10 (.ref r :: L) st μ Q = Ev d 89 11 (.ref r :: L) (.ref r :: st) μ Q := e_aload_n (by decide +kernel : decode (bOf 89) 10 = .ok (.aload_n 0, 1)) rfl
theorem x_89_11 : Ev d 89 11 L st μ Q = Ev d 89 12 L (.int (iI 0) :: st) μ Q := e_iconst (by decide +kernel : decode (bOf 89) 11 = .ok (.iconst 0, 1))
theorem x_89_12 (h : kd t r = 5) : Ev d 89 12 L (.int x :: .ref r :: st) (t, V, A, P) Q = Ev d 89 15 L st (t, up1 V r (up1 (V r) 7 (.int x)), A, P) Q := e_putf (by decide +kernel : decode (bOf 89) 12 = .ok (.putfield 82, 3)) (by decide +kernel) (by decide +kernel) rfl h
theorem x_89_15 : Ev d 89 15 (a0 :: .int x :: L) st μ Q = Ev d 89 16 (a0 :: .int x :: L) (.int x :: st) μ Q := e_iload_n (by decide +kernel : decode (bOf 89) 15 = .ok (.iload_n 1, 1)) rfl
theorem x_89_16 : Ev d 89 16 L [.int x] μ Q = Q (some (.int x)) μ := e_iret (by decide +kernel : decode (bOf 89) 16 = .ok (.ireturn, 1)) (by decide +kernel)
theorem c_90 : Call (d + 1) 90 [.ref r0] μ Q = Ev d 90 0 [.ref r0, .null] [] μ Q := call_ev rfl rfl
theorem x_90_0 : Ev d 90 0 (.ref r :: L) st μ Q = Ev d 90 1 (.ref r :: L) (.ref r :: st) μ Q := e_aload_n (by decide +kernel : decode (bOf 90) 0 = .ok (.aload_n 0, 1)) rfl
theorem x_90_1 : Ev d 90 1 (.ref r :: L) st μ Q = Ev d 90 2 (.ref r :: L) (.ref r :: st) μ Q := e_aload_n (by decide +kernel : decode (bOf 90) 1 = .ok (.aload_n 0, 1)) rfl
theorem x_90_2 (h : kd t r = 5) : Ev d 90 2 L (.ref r :: st) (t, V, A, P) Q = Ev d 90 5 L (V r 13 :: st) (t, V, A, P) Q := e_getf (by decide +kernel : decode (bOf 90) 2 = .ok (.getfield 89, 3)) (by decide +kernel) (by decide +kernel) h
theorem x_90_5 (h : kd t r = 5) : Ev d 90 5 L [b0, .ref r] (t, V, A, P) Q = Call d 87 [.ref r, b0] (t, V, A, P) (fun v μ1 => Ev d 90 8 L (v.toList ++ []) μ1 Q) := e_callV (a := [b0]) (r := []) (by decide +kernel : decode (bOf 90) 5 = .ok (.invokevirtual 92, 3)) (by decide +kernel) (by decide +kernel) (by decide +kernel) (by omega) rfl (by simp) (by decide +kernel) h
theorem x_90_8 : Ev d 90 8 L st μ Q = Ev d 90 10 L (.int (iI 32) :: st) μ Q := e_bipush (by decide +kernel : decode (bOf 90) 8 = .ok (.bipush 32, 2)) (by decide +kernel)
theorem x_90_10 : Ev d 90 10 L (.int y :: .int x :: st) μ Q = if x = y then Ev d 90 13 L st μ Q else Ev d 90 26 L st μ Q := e_icmp_ne (by decide +kernel : decode (bOf 90) 10 = .ok (.if_icmp .ne 16, 3)) (by omega)
theorem x_90_13 : Ev d 90 13 (.ref r :: L) st μ Q = Ev d 90 14 (.ref r :: L) (.ref r :: st) μ Q := e_aload_n (by decide +kernel : decode (bOf 90) 13 = .ok (.aload_n 0, 1)) rfl
theorem x_90_14 : Ev d 90 14 L (.ref r :: st) μ Q = Ev d 90 15 L (.ref r :: .ref r :: st) μ Q := e_dup_a (by decide +kernel : decode (bOf 90) 14 = .ok (.dup, 1))
theorem x_90_15 (h : kd t r = 5) : Ev d 90 15 L (.ref r :: st) (t, V, A, P) Q = Ev d 90 18 L (V r 13 :: st) (t, V, A, P) Q := e_getf (by decide +kernel : decode (bOf 90) 15 = .ok (.getfield 89, 3)) (by decide +kernel) (by decide +kernel) h
theorem x_90_18 : Ev d 90 18 L st μ Q = Ev d 90 19 L (.int (iI 1) :: st) μ Q := e_iconst (by decide +kernel : decode (bOf 90) 18 = .ok (.iconst 1, 1))
theorem x_90_19 : Ev d 90 19 L (.int y :: .int x :: st) μ Q = Ev d 90 20 L (.int (x + y) :: st) μ Q := e_iadd (by decide +kernel : decode (bOf 90) 19 = .ok (.iadd, 1))
theorem x_90_20 (h : kd t r = 5) : Ev d 90 20 L (.int x :: .ref r :: st) (t, V, A, P) Q = Ev d 90 23 L st (t, up1 V r (up1 (V r) 13 (.int x)), A, P) Q := e_putf (by decide +kernel : decode (bOf 90) 20 = .ok (.putfield 89, 3)) (by decide +kernel) (by decide +kernel) rfl h
theorem x_90_23 : Ev d 90 23 L st μ Q = Ev d 90 0 L st μ Q := e_goto (by decide +kernel : decode (bOf 90) 23 = .ok (.goto (-23), 3)) (by omega)
theorem x_90_26 : Ev d 90 26 (.ref r :: L) st μ Q = Ev d 90 27 (.ref r :: L) (.ref r :: st) μ Q := e_aload_n (by decide +kernel : decode (bOf 90) 26 = .ok (.aload_n 0, 1)) rfl
theorem x_90_27 : Ev d 90 27 (.ref r :: L) st μ Q = Ev d 90 28 (.ref r :: L) (.ref r :: st) μ Q := e_aload_n (by decide +kernel : decode (bOf 90) 27 = .ok (.aload_n 0, 1)) rfl
theorem x_90_28 (h : kd t r = 5) : Ev d 90 28 L (.ref r :: st) (t, V, A, P) Q = Ev d 90 31 L (V r 13 :: st) (t, V, A, P) Q := e_getf (by decide +kernel : decode (bOf 90) 28 = .ok (.getfield 89, 3)) (by decide +kernel) (by decide +kernel) h
theorem x_90_31 (h : kd t r = 5) : Ev d 90 31 L (.int x :: .ref r :: st) (t, V, A, P) Q = Ev d 90 34 L st (t, up1 V r (up1 (V r) 14 (.int x)), A, P) Q := e_putf (by decide +kernel : decode (bOf 90) 31 = .ok (.putfield 95, 3)) (by decide +kernel) (by decide +kernel) rfl h
theorem x_90_34 : Ev d 90 34 (.ref r :: L) st μ Q = Ev d 90 35 (.ref r :: L) (.ref r :: st) μ Q := e_aload_n (by decide +kernel : decode (bOf 90) 34 = .ok (.aload_n 0, 1)) rfl
theorem x_90_35 : Ev d 90 35 (.ref r :: L) st μ Q = Ev d 90 36 (.ref r :: L) (.ref r :: st) μ Q := e_aload_n (by decide +kernel : decode (bOf 90) 35 = .ok (.aload_n 0, 1)) rfl
theorem x_90_36 (h : kd t r = 5) : Ev d 90 36 L (.ref r :: st) (t, V, A, P) Q = Ev d 90 39 L (V r 13 :: st) (t, V, A, P) Q := e_getf (by decide +kernel : decode (bOf 90) 36 = .ok (.getfield 89, 3)) (by decide +kernel) (by decide +kernel) h
theorem x_90_39 (h : kd t r = 5) : Ev d 90 39 L [b0, .ref r] (t, V, A, P) Q = Call d 87 [.ref r, b0] (t, V, A, P) (fun v μ1 => Ev d 90 42 L (v.toList ++ []) μ1 Q) := e_callV (a := [b0]) (r := []) (by decide +kernel : decode (bOf 90) 39 = .ok (.invokevirtual 92, 3)) (by decide +kernel) (by decide +kernel) (by decide +kernel) (by omega) rfl (by simp) (by decide +kernel) h
theorem x_90_42 (h : a0.category = 1) : Ev d 90 42 (a0 :: a1 :: L) (.int x :: st) μ Q = Ev d 90 43 (a0 :: .int x :: L) st μ Q := e_istore_n (by decide +kernel : decode (bOf 90) 42 = .ok (.istore_n 1, 1)) (by show stOK _ 1 = true; simp [stOK, h])
theorem x_90_43 : Ev d 90 43 (a0 :: .int x :: L) st μ Q = Ev d 90 44 (a0 :: .int x :: L) (.int x :: st) μ Q := e_iload_n (by decide +kernel : decode (bOf 90) 43 = .ok (.iload_n 1, 1)) rfl
theorem x_90_44 : Ev d 90 44 L (.int x :: st) μ Q = if x < iI 0 then Ev d 90 47 L st μ Q else Ev d 90 55 L st μ Q := e_if_ge (by decide +kernel : decode (bOf 90) 44 = .ok (.ifCond .ge 11, 3)) (by omega)
theorem x_90_47 : Ev d 90 47 (.ref r :: L) st μ Q = Ev d 90 48 (.ref r :: L) (.ref r :: st) μ Q := e_aload_n (by decide +kernel : decode (bOf 90) 47 = .ok (.aload_n 0, 1)) rfl
theorem x_90_48 : Ev d 90 48 L st μ Q = Ev d 90 49 L (.int (iI 0) :: st) μ Q := e_iconst (by decide +kernel : decode (bOf 90) 48 = .ok (.iconst 0, 1))
theorem x_90_49 (h : kd t r = 5) : Ev d 90 49 L (.int x :: .ref r :: st) (t, V, A, P) Q = Ev d 90 52 L st (t, up1 V r (up1 (V r) 15 (.int x)), A, P) Q := e_putf (by decide +kernel : decode (bOf 90) 49 = .ok (.putfield 98, 3)) (by decide +kernel) (by decide +kernel) rfl h
theorem x_90_52 : Ev d 90 52 L st μ Q = Ev d 90 227 L st μ Q := e_goto (by decide +kernel : decode (bOf 90) 52 = .ok (.goto 175, 3)) (by omega)
theorem x_90_55 : Ev d 90 55 (a0 :: .int x :: L) st μ Q = Ev d 90 56 (a0 :: .int x :: L) (.int x :: st) μ Q := e_iload_n (by decide +kernel : decode (bOf 90) 55 = .ok (.iload_n 1, 1)) rfl
theorem x_90_56 : Ev d 90 56 L st μ Q = Ev d 90 58 L (.int (iI 48) :: st) μ Q := e_bipush (by decide +kernel : decode (bOf 90) 56 = .ok (.bipush 48, 2)) (by decide +kernel)
theorem x_90_58 : Ev d 90 58 L st μ Q = Ev d 90 60 L (.int (iI 57) :: st) μ Q := e_bipush (by decide +kernel : decode (bOf 90) 58 = .ok (.bipush 57, 2)) (by decide +kernel)
theorem x_90_60 : Ev d 90 60 L [b2, b1, b0] μ Q = Call d 81 [b0, b1, b2] μ (fun v μ1 => Ev d 90 63 L (v.toList ++ []) μ1 Q) := e_callS (a := [b0, b1, b2]) (r := []) (by decide +kernel : decode (bOf 90) 60 = .ok (.invokestatic 85, 3)) (by decide +kernel) (by decide +kernel) (by omega) rfl (by simp)
theorem x_90_63 : Ev d 90 63 L (.int x :: st) μ Q = if x = iI 0 then Ev d 90 181 L st μ Q else Ev d 90 66 L st μ Q := e_if_eq (by decide +kernel : decode (bOf 90) 63 = .ok (.ifCond .eq 118, 3)) (by omega)
theorem x_90_66 : Ev d 90 66 (.ref r :: L) st μ Q = Ev d 90 67 (.ref r :: L) (.ref r :: st) μ Q := e_aload_n (by decide +kernel : decode (bOf 90) 66 = .ok (.aload_n 0, 1)) rfl
theorem x_90_67 : Ev d 90 67 L st μ Q = Ev d 90 68 L (.int (iI 0) :: st) μ Q := e_iconst (by decide +kernel : decode (bOf 90) 67 = .ok (.iconst 0, 1))
theorem x_90_68 (h : kd t r = 5) : Ev d 90 68 L (.int x :: .ref r :: st) (t, V, A, P) Q = Ev d 90 71 L st (t, up1 V r (up1 (V r) 16 (.int x)), A, P) Q := e_putf (by decide +kernel : decode (bOf 90) 68 = .ok (.putfield 101, 3)) (by decide +kernel) (by decide +kernel) rfl h
theorem x_90_71 : Ev d 90 71 (.ref r :: L) st μ Q = Ev d 90 72 (.ref r :: L) (.ref r :: st) μ Q := e_aload_n (by decide +kernel : decode (bOf 90) 71 = .ok (.aload_n 0, 1)) rfl
theorem x_90_72 : Ev d 90 72 (.ref r :: L) st μ Q = Ev d 90 73 (.ref r :: L) (.ref r :: st) μ Q := e_aload_n (by decide +kernel : decode (bOf 90) 72 = .ok (.aload_n 0, 1)) rfl
theorem x_90_73 (h : kd t r = 5) : Ev d 90 73 L (.ref r :: st) (t, V, A, P) Q = Ev d 90 76 L (V r 13 :: st) (t, V, A, P) Q := e_getf (by decide +kernel : decode (bOf 90) 73 = .ok (.getfield 89, 3)) (by decide +kernel) (by decide +kernel) h
theorem x_90_76 (h : kd t r = 5) : Ev d 90 76 L [b0, .ref r] (t, V, A, P) Q = Call d 87 [.ref r, b0] (t, V, A, P) (fun v μ1 => Ev d 90 79 L (v.toList ++ []) μ1 Q) := e_callV (a := [b0]) (r := []) (by decide +kernel : decode (bOf 90) 76 = .ok (.invokevirtual 92, 3)) (by decide +kernel) (by decide +kernel) (by decide +kernel) (by omega) rfl (by simp) (by decide +kernel) h
theorem x_90_79 : Ev d 90 79 L st μ Q = Ev d 90 81 L (.int (iI 48) :: st) μ Q := e_bipush (by decide +kernel : decode (bOf 90) 79 = .ok (.bipush 48, 2)) (by decide +kernel)
theorem x_90_81 : Ev d 90 81 L st μ Q = Ev d 90 83 L (.int (iI 57) :: st) μ Q := e_bipush (by decide +kernel : decode (bOf 90) 81 = .ok (.bipush 57, 2)) (by decide +kernel)
theorem x_90_83 : Ev d 90 83 L [b2, b1, b0] μ Q = Call d 81 [b0, b1, b2] μ (fun v μ1 => Ev d 90 86 L (v.toList ++ []) μ1 Q) := e_callS (a := [b0, b1, b2]) (r := []) (by decide +kernel : decode (bOf 90) 83 = .ok (.invokestatic 85, 3)) (by decide +kernel) (by decide +kernel) (by omega) rfl (by simp)
theorem x_90_86 : Ev d 90 86 L (.int x :: st) μ Q = if x = iI 0 then Ev d 90 141 L st μ Q else Ev d 90 89 L st μ Q := e_if_eq (by decide +kernel : decode (bOf 90) 86 = .ok (.ifCond .eq 55, 3)) (by omega)
theorem x_90_89 : Ev d 90 89 (.ref r :: L) st μ Q = Ev d 90 90 (.ref r :: L) (.ref r :: st) μ Q := e_aload_n (by decide +kernel : decode (bOf 90) 89 = .ok (.aload_n 0, 1)) rfl
theorem x_90_90 : Ev d 90 90 (.ref r :: L) st μ Q = Ev d 90 91 (.ref r :: L) (.ref r :: st) μ Q := e_aload_n (by decide +kernel : decode (bOf 90) 90 = .ok (.aload_n 0, 1)) rfl
theorem x_90_91 (h : kd t r = 5) : Ev d 90 91 L (.ref r :: st) (t, V, A, P) Q = Ev d 90 94 L (V r 16 :: st) (t, V, A, P) Q := e_getf (by decide +kernel : decode (bOf 90) 91 = .ok (.getfield 101, 3)) (by decide +kernel) (by decide +kernel) h
theorem x_90_94 : Ev d 90 94 L st μ Q = Ev d 90 96 L (.int (iI 99) :: st) μ Q := e_bipush (by decide +kernel : decode (bOf 90) 94 = .ok (.bipush 99, 2)) (by decide +kernel)
theorem x_90_96 : Ev d 90 96 L (.int y :: .int x :: st) μ Q = if y < x then Ev d 90 99 L st μ Q else Ev d 90 106 L st μ Q := e_icmp_le (by decide +kernel : decode (bOf 90) 96 = .ok (.if_icmp .le 10, 3)) (by omega)
theorem x_90_99 : Ev d 90 99 (.ref r :: L) st μ Q = Ev d 90 100 (.ref r :: L) (.ref r :: st) μ Q := e_aload_n (by decide +kernel : decode (bOf 90) 99 = .ok (.aload_n 0, 1)) rfl
theorem x_90_100 (h : kd t r = 5) : Ev d 90 100 L (.ref r :: st) (t, V, A, P) Q = Ev d 90 103 L (V r 16 :: st) (t, V, A, P) Q := e_getf (by decide +kernel : decode (bOf 90) 100 = .ok (.getfield 101, 3)) (by decide +kernel) (by decide +kernel) h
theorem x_90_103 : Ev d 90 103 L st μ Q = Ev d 90 125 L st μ Q := e_goto (by decide +kernel : decode (bOf 90) 103 = .ok (.goto 22, 3)) (by omega)
theorem x_90_106 : Ev d 90 106 L st μ Q = Ev d 90 108 L (.int (iI 10) :: st) μ Q := e_bipush (by decide +kernel : decode (bOf 90) 106 = .ok (.bipush 10, 2)) (by decide +kernel)
theorem x_90_108 : Ev d 90 108 (.ref r :: L) st μ Q = Ev d 90 109 (.ref r :: L) (.ref r :: st) μ Q := e_aload_n (by decide +kernel : decode (bOf 90) 108 = .ok (.aload_n 0, 1)) rfl
theorem x_90_109 (h : kd t r = 5) : Ev d 90 109 L (.ref r :: st) (t, V, A, P) Q = Ev d 90 112 L (V r 16 :: st) (t, V, A, P) Q := e_getf (by decide +kernel : decode (bOf 90) 109 = .ok (.getfield 101, 3)) (by decide +kernel) (by decide +kernel) h
theorem x_90_112 : Ev d 90 112 L (.int y :: .int x :: st) μ Q = Ev d 90 113 L (.int (x * y) :: st) μ Q := e_imul (by decide +kernel : decode (bOf 90) 112 = .ok (.imul, 1))
theorem x_90_113 : Ev d 90 113 (.ref r :: L) st μ Q = Ev d 90 114 (.ref r :: L) (.ref r :: st) μ Q := e_aload_n (by decide +kernel : decode (bOf 90) 113 = .ok (.aload_n 0, 1)) rfl
theorem x_90_114 : Ev d 90 114 (.ref r :: L) st μ Q = Ev d 90 115 (.ref r :: L) (.ref r :: st) μ Q := e_aload_n (by decide +kernel : decode (bOf 90) 114 = .ok (.aload_n 0, 1)) rfl
theorem x_90_115 (h : kd t r = 5) : Ev d 90 115 L (.ref r :: st) (t, V, A, P) Q = Ev d 90 118 L (V r 13 :: st) (t, V, A, P) Q := e_getf (by decide +kernel : decode (bOf 90) 115 = .ok (.getfield 89, 3)) (by decide +kernel) (by decide +kernel) h
theorem x_90_118 (h : kd t r = 5) : Ev d 90 118 L [b0, .ref r, s0, s1] (t, V, A, P) Q = Call d 87 [.ref r, b0] (t, V, A, P) (fun v μ1 => Ev d 90 121 L (v.toList ++ [s0, s1]) μ1 Q) := e_callV (a := [b0]) (r := [s0, s1]) (by decide +kernel : decode (bOf 90) 118 = .ok (.invokevirtual 92, 3)) (by decide +kernel) (by decide +kernel) (by decide +kernel) (by omega) rfl (by simp) (by decide +kernel) h
theorem x_90_121 : Ev d 90 121 L (.int y :: .int x :: st) μ Q = Ev d 90 122 L (.int (x + y) :: st) μ Q := e_iadd (by decide +kernel : decode (bOf 90) 121 = .ok (.iadd, 1))
theorem x_90_122 : Ev d 90 122 L st μ Q = Ev d 90 124 L (.int (iI 48) :: st) μ Q := e_bipush (by decide +kernel : decode (bOf 90) 122 = .ok (.bipush 48, 2)) (by decide +kernel)
theorem x_90_124 : Ev d 90 124 L (.int y :: .int x :: st) μ Q = Ev d 90 125 L (.int (x - y) :: st) μ Q := e_isub (by decide +kernel : decode (bOf 90) 124 = .ok (.isub, 1))
theorem x_90_125 (h : kd t r = 5) : Ev d 90 125 L (.int x :: .ref r :: st) (t, V, A, P) Q = Ev d 90 128 L st (t, up1 V r (up1 (V r) 16 (.int x)), A, P) Q := e_putf (by decide +kernel : decode (bOf 90) 125 = .ok (.putfield 101, 3)) (by decide +kernel) (by decide +kernel) rfl h
theorem x_90_128 : Ev d 90 128 (.ref r :: L) st μ Q = Ev d 90 129 (.ref r :: L) (.ref r :: st) μ Q := e_aload_n (by decide +kernel : decode (bOf 90) 128 = .ok (.aload_n 0, 1)) rfl
theorem x_90_129 : Ev d 90 129 L (.ref r :: st) μ Q = Ev d 90 130 L (.ref r :: .ref r :: st) μ Q := e_dup_a (by decide +kernel : decode (bOf 90) 129 = .ok (.dup, 1))
theorem x_90_130 (h : kd t r = 5) : Ev d 90 130 L (.ref r :: st) (t, V, A, P) Q = Ev d 90 133 L (V r 13 :: st) (t, V, A, P) Q := e_getf (by decide +kernel : decode (bOf 90) 130 = .ok (.getfield 89, 3)) (by decide +kernel) (by decide +kernel) h
theorem x_90_133 : Ev d 90 133 L st μ Q = Ev d 90 134 L (.int (iI 1) :: st) μ Q := e_iconst (by decide +kernel : decode (bOf 90) 133 = .ok (.iconst 1, 1))
theorem x_90_134 : Ev d 90 134 L (.int y :: .int x :: st) μ Q = Ev d 90 135 L (.int (x + y) :: st) μ Q := e_iadd (by decide +kernel : decode (bOf 90) 134 = .ok (.iadd, 1))
theorem x_90_135 (h : kd t r = 5) : Ev d 90 135 L (.int x :: .ref r :: st) (t, V, A, P) Q = Ev d 90 138 L st (t, up1 V r (up1 (V r) 13 (.int x)), A, P) Q := e_putf (by decide +kernel : decode (bOf 90) 135 = .ok (.putfield 89, 3)) (by decide +kernel) (by decide +kernel) rfl h
theorem x_90_138 : Ev d 90 138 L st μ Q = Ev d 90 71 L st μ Q := e_goto (by decide +kernel : decode (bOf 90) 138 = .ok (.goto (-67), 3)) (by omega)
theorem x_90_141 : Ev d 90 141 (.ref r :: L) st μ Q = Ev d 90 142 (.ref r :: L) (.ref r :: st) μ Q := e_aload_n (by decide +kernel : decode (bOf 90) 141 = .ok (.aload_n 0, 1)) rfl
theorem x_90_142 : Ev d 90 142 (.ref r :: L) st μ Q = Ev d 90 143 (.ref r :: L) (.ref r :: st) μ Q := e_aload_n (by decide +kernel : decode (bOf 90) 142 = .ok (.aload_n 0, 1)) rfl
theorem x_90_143 (h : kd t r = 5) : Ev d 90 143 L (.ref r :: st) (t, V, A, P) Q = Ev d 90 146 L (V r 16 :: st) (t, V, A, P) Q := e_getf (by decide +kernel : decode (bOf 90) 143 = .ok (.getfield 101, 3)) (by decide +kernel) (by decide +kernel) h
theorem x_90_146 : Ev d 90 146 L st μ Q = Ev d 90 148 L (.int (iI 99) :: st) μ Q := e_bipush (by decide +kernel : decode (bOf 90) 146 = .ok (.bipush 99, 2)) (by decide +kernel)
theorem x_90_148 : Ev d 90 148 L (.int y :: .int x :: st) μ Q = if y < x then Ev d 90 170 L st μ Q else Ev d 90 151 L st μ Q := e_icmp_gt (by decide +kernel : decode (bOf 90) 148 = .ok (.if_icmp .gt 22, 3)) (by omega)
theorem x_90_151 : Ev d 90 151 (a0 :: .int x :: L) st μ Q = Ev d 90 152 (a0 :: .int x :: L) (.int x :: st) μ Q := e_iload_n (by decide +kernel : decode (bOf 90) 151 = .ok (.iload_n 1, 1)) rfl
theorem x_90_152 : Ev d 90 152 L st μ Q = Ev d 90 154 L (.int (iI 48) :: st) μ Q := e_bipush (by decide +kernel : decode (bOf 90) 152 = .ok (.bipush 48, 2)) (by decide +kernel)
theorem x_90_154 : Ev d 90 154 L (.int y :: .int x :: st) μ Q = if x = y then Ev d 90 157 L st μ Q else Ev d 90 174 L st μ Q := e_icmp_ne (by decide +kernel : decode (bOf 90) 154 = .ok (.if_icmp .ne 20, 3)) (by omega)
theorem x_90_157 : Ev d 90 157 (.ref r :: L) st μ Q = Ev d 90 158 (.ref r :: L) (.ref r :: st) μ Q := e_aload_n (by decide +kernel : decode (bOf 90) 157 = .ok (.aload_n 0, 1)) rfl
theorem x_90_158 (h : kd t r = 5) : Ev d 90 158 L (.ref r :: st) (t, V, A, P) Q = Ev d 90 161 L (V r 13 :: st) (t, V, A, P) Q := e_getf (by decide +kernel : decode (bOf 90) 158 = .ok (.getfield 89, 3)) (by decide +kernel) (by decide +kernel) h
theorem x_90_161 : Ev d 90 161 (.ref r :: L) st μ Q = Ev d 90 162 (.ref r :: L) (.ref r :: st) μ Q := e_aload_n (by decide +kernel : decode (bOf 90) 161 = .ok (.aload_n 0, 1)) rfl
theorem x_90_162 (h : kd t r = 5) : Ev d 90 162 L (.ref r :: st) (t, V, A, P) Q = Ev d 90 165 L (V r 14 :: st) (t, V, A, P) Q := e_getf (by decide +kernel : decode (bOf 90) 162 = .ok (.getfield 95, 3)) (by decide +kernel) (by decide +kernel) h
theorem x_90_165 : Ev d 90 165 L (.int y :: .int x :: st) μ Q = Ev d 90 166 L (.int (x - y) :: st) μ Q := e_isub (by decide +kernel : decode (bOf 90) 165 = .ok (.isub, 1))
theorem x_90_166 : Ev d 90 166 L st μ Q = Ev d 90 167 L (.int (iI 1) :: st) μ Q := e_iconst (by decide +kernel : decode (bOf 90) 166 = .ok (.iconst 1, 1))
theorem x_90_167 : Ev d 90 167 L (.int y :: .int x :: st) μ Q = if y < x then Ev d 90 170 L st μ Q else Ev d 90 174 L st μ Q := e_icmp_le (by decide +kernel : decode (bOf 90) 167 = .ok (.if_icmp .le 7, 3)) (by omega)
theorem x_90_170 : Ev d 90 170 L st μ Q = Ev d 90 171 L (.int (iI 4) :: st) μ Q := e_iconst (by decide +kernel : decode (bOf 90) 170 = .ok (.iconst 4, 1))
theorem x_90_171 : Ev d 90 171 L st μ Q = Ev d 90 175 L st μ Q := e_goto (by decide +kernel : decode (bOf 90) 171 = .ok (.goto 4, 3)) (by omega)
theorem x_90_174 : Ev d 90 174 L st μ Q = Ev d 90 175 L (.int (iI 2) :: st) μ Q := e_iconst (by decide +kernel : decode (bOf 90) 174 = .ok (.iconst 2, 1))
theorem x_90_175 (h : kd t r = 5) : Ev d 90 175 L (.int x :: .ref r :: st) (t, V, A, P) Q = Ev d 90 178 L st (t, up1 V r (up1 (V r) 15 (.int x)), A, P) Q := e_putf (by decide +kernel : decode (bOf 90) 175 = .ok (.putfield 98, 3)) (by decide +kernel) (by decide +kernel) rfl h
theorem x_90_178 : Ev d 90 178 L st μ Q = Ev d 90 227 L st μ Q := e_goto (by decide +kernel : decode (bOf 90) 178 = .ok (.goto 49, 3)) (by omega)
theorem x_90_181 : Ev d 90 181 (.ref r :: L) st μ Q = Ev d 90 182 (.ref r :: L) (.ref r :: st) μ Q := e_aload_n (by decide +kernel : decode (bOf 90) 181 = .ok (.aload_n 0, 1)) rfl
theorem x_90_182 : Ev d 90 182 L (.ref r :: st) μ Q = Ev d 90 183 L (.ref r :: .ref r :: st) μ Q := e_dup_a (by decide +kernel : decode (bOf 90) 182 = .ok (.dup, 1))
theorem x_90_183 (h : kd t r = 5) : Ev d 90 183 L (.ref r :: st) (t, V, A, P) Q = Ev d 90 186 L (V r 13 :: st) (t, V, A, P) Q := e_getf (by decide +kernel : decode (bOf 90) 183 = .ok (.getfield 89, 3)) (by decide +kernel) (by decide +kernel) h
theorem x_90_186 : Ev d 90 186 L st μ Q = Ev d 90 187 L (.int (iI 1) :: st) μ Q := e_iconst (by decide +kernel : decode (bOf 90) 186 = .ok (.iconst 1, 1))
theorem x_90_187 : Ev d 90 187 L (.int y :: .int x :: st) μ Q = Ev d 90 188 L (.int (x + y) :: st) μ Q := e_iadd (by decide +kernel : decode (bOf 90) 187 = .ok (.iadd, 1))
theorem x_90_188 (h : kd t r = 5) : Ev d 90 188 L (.int x :: .ref r :: st) (t, V, A, P) Q = Ev d 90 191 L st (t, up1 V r (up1 (V r) 13 (.int x)), A, P) Q := e_putf (by decide +kernel : decode (bOf 90) 188 = .ok (.putfield 89, 3)) (by decide +kernel) (by decide +kernel) rfl h
theorem x_90_191 : Ev d 90 191 (.ref r :: L) st μ Q = Ev d 90 192 (.ref r :: L) (.ref r :: st) μ Q := e_aload_n (by decide +kernel : decode (bOf 90) 191 = .ok (.aload_n 0, 1)) rfl
theorem x_90_192 : Ev d 90 192 (a0 :: .int x :: L) st μ Q = Ev d 90 193 (a0 :: .int x :: L) (.int x :: st) μ Q := e_iload_n (by decide +kernel : decode (bOf 90) 192 = .ok (.iload_n 1, 1)) rfl
theorem x_90_193 (h : kd t r = 5) : Ev d 90 193 L (.int x :: .ref r :: st) (t, V, A, P) Q = Ev d 90 196 L st (t, up1 V r (up1 (V r) 16 (.int x)), A, P) Q := e_putf (by decide +kernel : decode (bOf 90) 193 = .ok (.putfield 101, 3)) (by decide +kernel) (by decide +kernel) rfl h
theorem x_90_196 : Ev d 90 196 (.ref r :: L) st μ Q = Ev d 90 197 (.ref r :: L) (.ref r :: st) μ Q := e_aload_n (by decide +kernel : decode (bOf 90) 196 = .ok (.aload_n 0, 1)) rfl
theorem x_90_197 : Ev d 90 197 (a0 :: .int x :: L) st μ Q = Ev d 90 198 (a0 :: .int x :: L) (.int x :: st) μ Q := e_iload_n (by decide +kernel : decode (bOf 90) 197 = .ok (.iload_n 1, 1)) rfl
theorem x_90_198 : Ev d 90 198 L st μ Q = Ev d 90 200 L (.int (iI 59) :: st) μ Q := e_bipush (by decide +kernel : decode (bOf 90) 198 = .ok (.bipush 59, 2)) (by decide +kernel)
theorem x_90_200 : Ev d 90 200 L (.int y :: .int x :: st) μ Q = if x = y then Ev d 90 203 L st μ Q else Ev d 90 207 L st μ Q := e_icmp_ne (by decide +kernel : decode (bOf 90) 200 = .ok (.if_icmp .ne 7, 3)) (by omega)
theorem x_90_203 : Ev d 90 203 L st μ Q = Ev d 90 204 L (.int (iI 3) :: st) μ Q := e_iconst (by decide +kernel : decode (bOf 90) 203 = .ok (.iconst 3, 1))
theorem x_90_204 : Ev d 90 204 L st μ Q = Ev d 90 224 L st μ Q := e_goto (by decide +kernel : decode (bOf 90) 204 = .ok (.goto 20, 3)) (by omega)
theorem x_90_207 : Ev d 90 207 (a0 :: .int x :: L) st μ Q = Ev d 90 208 (a0 :: .int x :: L) (.int x :: st) μ Q := e_iload_n (by decide +kernel : decode (bOf 90) 207 = .ok (.iload_n 1, 1)) rfl
theorem x_90_208 : Ev d 90 208 L st μ Q = Ev d 90 210 L (.int (iI 100) :: st) μ Q := e_bipush (by decide +kernel : decode (bOf 90) 208 = .ok (.bipush 100, 2)) (by decide +kernel)
theorem x_90_210 : Ev d 90 210 L (.int y :: .int x :: st) μ Q = if x = y then Ev d 90 219 L st μ Q else Ev d 90 213 L st μ Q := e_icmp_eq (by decide +kernel : decode (bOf 90) 210 = .ok (.if_icmp .eq 9, 3)) (by omega)
theorem x_90_213 : Ev d 90 213 (a0 :: .int x :: L) st μ Q = Ev d 90 214 (a0 :: .int x :: L) (.int x :: st) μ Q := e_iload_n (by decide +kernel : decode (bOf 90) 213 = .ok (.iload_n 1, 1)) rfl
theorem x_90_214 : Ev d 90 214 L st μ Q = Ev d 90 216 L (.int (iI 107) :: st) μ Q := e_bipush (by decide +kernel : decode (bOf 90) 214 = .ok (.bipush 107, 2)) (by decide +kernel)
theorem x_90_216 : Ev d 90 216 L (.int y :: .int x :: st) μ Q = if x = y then Ev d 90 219 L st μ Q else Ev d 90 223 L st μ Q := e_icmp_ne (by decide +kernel : decode (bOf 90) 216 = .ok (.if_icmp .ne 7, 3)) (by omega)
theorem x_90_219 : Ev d 90 219 L st μ Q = Ev d 90 220 L (.int (iI 1) :: st) μ Q := e_iconst (by decide +kernel : decode (bOf 90) 219 = .ok (.iconst 1, 1))
theorem x_90_220 : Ev d 90 220 L st μ Q = Ev d 90 224 L st μ Q := e_goto (by decide +kernel : decode (bOf 90) 220 = .ok (.goto 4, 3)) (by omega)
theorem x_90_223 : Ev d 90 223 L st μ Q = Ev d 90 224 L (.int (iI 4) :: st) μ Q := e_iconst (by decide +kernel : decode (bOf 90) 223 = .ok (.iconst 4, 1))
theorem x_90_224 (h : kd t r = 5) : Ev d 90 224 L (.int x :: .ref r :: st) (t, V, A, P) Q = Ev d 90 227 L st (t, up1 V r (up1 (V r) 15 (.int x)), A, P) Q := e_putf (by decide +kernel : decode (bOf 90) 224 = .ok (.putfield 98, 3)) (by decide +kernel) (by decide +kernel) rfl h
theorem x_90_227 : Ev d 90 227 L [] μ Q = Q none μ := e_ret (by decide +kernel : decode (bOf 90) 227 = .ok (.return_, 1)) (by decide +kernel)
theorem c_91 : Call (d + 1) 91 [.ref r0, .int i1] μ Q = Ev d 91 0 [.ref r0, .int i1, .null] [] μ Q := call_ev rfl rfl
theorem x_91_0 : Ev d 91 0 (.ref r :: L) st μ Q = Ev d 91 1 (.ref r :: L) (.ref r :: st) μ Q := e_aload_n (by decide +kernel : decode (bOf 91) 0 = .ok (.aload_n 0, 1)) rfl
theorem x_91_1 (h : kd t r = 5) : Ev d 91 1 L (.ref r :: st) (t, V, A, P) Q = Ev d 91 4 L (V r 16 :: st) (t, V, A, P) Q := e_getf (by decide +kernel : decode (bOf 91) 1 = .ok (.getfield 101, 3)) (by decide +kernel) (by decide +kernel) h
theorem x_91_4 (h : a1.category = 1) : Ev d 91 4 (a0 :: a1 :: a2 :: L) (.int x :: st) μ Q = Ev d 91 5 (a0 :: a1 :: .int x :: L) st μ Q := e_istore_n (by decide +kernel : decode (bOf 91) 4 = .ok (.istore_n 2, 1)) (by show stOK _ 2 = true; simp [stOK, h])
theorem x_91_5 : Ev d 91 5 (.ref r :: L) st μ Q = Ev d 91 6 (.ref r :: L) (.ref r :: st) μ Q := e_aload_n (by decide +kernel : decode (bOf 91) 5 = .ok (.aload_n 0, 1)) rfl
theorem x_91_6 (h : kd t r = 5) : Ev d 91 6 L (.ref r :: st) (t, V, A, P) Q = Ev d 91 9 L (V r 17 :: st) (t, V, A, P) Q := e_getf (by decide +kernel : decode (bOf 91) 6 = .ok (.getfield 104, 3)) (by decide +kernel) (by decide +kernel) h
theorem x_91_9 : Ev d 91 9 L st μ Q = Ev d 91 11 L (.int (iI (-9)) :: st) μ Q := e_bipush (by decide +kernel : decode (bOf 91) 9 = .ok (.bipush (-9), 2)) (by decide +kernel)
theorem x_91_11 : Ev d 91 11 L (.int y :: .int x :: st) μ Q = if x = y then Ev d 91 14 L st μ Q else Ev d 91 33 L st μ Q := e_icmp_ne (by decide +kernel : decode (bOf 91) 11 = .ok (.if_icmp .ne 22, 3)) (by omega)
theorem x_91_14 : Ev d 91 14 (a0 :: .int x :: L) st μ Q = Ev d 91 15 (a0 :: .int x :: L) (.int x :: st) μ Q := e_iload_n (by decide +kernel : decode (bOf 91) 14 = .ok (.iload_n 1, 1)) rfl
theorem x_91_15 : Ev d 91 15 L (.int x :: st) μ Q = if x = iI 0 then Ev d 91 25 L st μ Q else Ev d 91 18 L st μ Q := e_if_eq (by decide +kernel : decode (bOf 91) 15 = .ok (.ifCond .eq 10, 3)) (by omega)
theorem x_91_18 : Ev d 91 18 (.ref r :: L) st μ Q = Ev d 91 19 (.ref r :: L) (.ref r :: st) μ Q := e_aload_n (by decide +kernel : decode (bOf 91) 18 = .ok (.aload_n 0, 1)) rfl
theorem x_91_19 (h : kd t r = 5) : Ev d 91 19 L [.ref r] (t, V, A, P) Q = Call d 90 [.ref r] (t, V, A, P) (fun v μ1 => Ev d 91 22 L (v.toList ++ []) μ1 Q) := e_callV (a := []) (r := []) (by decide +kernel : decode (bOf 91) 19 = .ok (.invokevirtual 107, 3)) (by decide +kernel) (by decide +kernel) (by decide +kernel) (by omega) rfl (by simp) (by decide +kernel) h
theorem x_91_22 : Ev d 91 22 L st μ Q = Ev d 91 33 L st μ Q := e_goto (by decide +kernel : decode (bOf 91) 22 = .ok (.goto 11, 3)) (by omega)
theorem x_91_25 : Ev d 91 25 (.ref r :: L) st μ Q = Ev d 91 26 (.ref r :: L) (.ref r :: st) μ Q := e_aload_n (by decide +kernel : decode (bOf 91) 25 = .ok (.aload_n 0, 1)) rfl
theorem x_91_26 : Ev d 91 26 (.ref r :: L) st μ Q = Ev d 91 27 (.ref r :: L) (.ref r :: st) μ Q := e_aload_n (by decide +kernel : decode (bOf 91) 26 = .ok (.aload_n 0, 1)) rfl
theorem x_91_27 (h : kd t r = 5) : Ev d 91 27 L (.ref r :: st) (t, V, A, P) Q = Ev d 91 30 L (V r 14 :: st) (t, V, A, P) Q := e_getf (by decide +kernel : decode (bOf 91) 27 = .ok (.getfield 95, 3)) (by decide +kernel) (by decide +kernel) h
theorem x_91_30 (h : kd t r = 5) : Ev d 91 30 L (.int x :: .ref r :: st) (t, V, A, P) Q = Ev d 91 33 L st (t, up1 V r (up1 (V r) 17 (.int x)), A, P) Q := e_putf (by decide +kernel : decode (bOf 91) 30 = .ok (.putfield 104, 3)) (by decide +kernel) (by decide +kernel) rfl h
theorem x_91_33 : Ev d 91 33 (a0 :: a1 :: .int x :: L) st μ Q = Ev d 91 34 (a0 :: a1 :: .int x :: L) (.int x :: st) μ Q := e_iload_n (by decide +kernel : decode (bOf 91) 33 = .ok (.iload_n 2, 1)) rfl
theorem x_91_34 : Ev d 91 34 L [.int x] μ Q = Q (some (.int x)) μ := e_iret (by decide +kernel : decode (bOf 91) 34 = .ok (.ireturn, 1)) (by decide +kernel)
theorem c_92 : Call (d + 1) 92 [.ref r0] μ Q = Ev d 92 0 [.ref r0, .null, .null] [] μ Q := call_ev rfl rfl
theorem x_92_0 : Ev d 92 0 (.ref r :: L) st μ Q = Ev d 92 1 (.ref r :: L) (.ref r :: st) μ Q := e_aload_n (by decide +kernel : decode (bOf 92) 0 = .ok (.aload_n 0, 1)) rfl
theorem x_92_1 : Ev d 92 1 L st μ Q = Ev d 92 3 L (.int (iI (-9)) :: st) μ Q := e_bipush (by decide +kernel : decode (bOf 92) 1 = .ok (.bipush (-9), 2)) (by decide +kernel)
theorem x_92_3 (h : kd t r = 5) : Ev d 92 3 L (.int x :: .ref r :: st) (t, V, A, P) Q = Ev d 92 6 L st (t, up1 V r (up1 (V r) 17 (.int x)), A, P) Q := e_putf (by decide +kernel : decode (bOf 92) 3 = .ok (.putfield 104, 3)) (by decide +kernel) (by decide +kernel) rfl h
theorem x_92_6 : Ev d 92 6 (.ref r :: L) st μ Q = Ev d 92 7 (.ref r :: L) (.ref r :: st) μ Q := e_aload_n (by decide +kernel : decode (bOf 92) 6 = .ok (.aload_n 0, 1)) rfl
theorem x_92_7 : Ev d 92 7 L st μ Q = Ev d 92 8 L (.int (iI 0) :: st) μ Q := e_iconst (by decide +kernel : decode (bOf 92) 7 = .ok (.iconst 0, 1))
theorem x_92_8 (h : kd t r = 5) : Ev d 92 8 L (.int x :: .ref r :: st) (t, V, A, P) Q = Ev d 92 11 L st (t, up1 V r (up1 (V r) 13 (.int x)), A, P) Q := e_putf (by decide +kernel : decode (bOf 92) 8 = .ok (.putfield 89, 3)) (by decide +kernel) (by decide +kernel) rfl h
theorem x_92_11 : Ev d 92 11 (.ref r :: L) st μ Q = Ev d 92 12 (.ref r :: L) (.ref r :: st) μ Q := e_aload_n (by decide +kernel : decode (bOf 92) 11 = .ok (.aload_n 0, 1)) rfl
theorem x_92_12 : Ev d 92 12 L st μ Q = Ev d 92 13 L (.int (iI 0) :: st) μ Q := e_iconst (by decide +kernel : decode (bOf 92) 12 = .ok (.iconst 0, 1))
theorem x_92_13 (h : kd t r = 5) : Ev d 92 13 L (.int x :: .ref r :: st) (t, V, A, P) Q = Ev d 92 16 L st (t, up1 V r (up1 (V r) 9 (.int x)), A, P) Q := e_putf (by decide +kernel : decode (bOf 92) 13 = .ok (.putfield 110, 3)) (by decide +kernel) (by decide +kernel) rfl h
theorem x_92_16 : Ev d 92 16 (.ref r :: L) st μ Q = Ev d 92 17 (.ref r :: L) (.ref r :: st) μ Q := e_aload_n (by decide +kernel : decode (bOf 92) 16 = .ok (.aload_n 0, 1)) rfl
theorem x_92_17 (h : kd t r = 5) : Ev d 92 17 L [.ref r] (t, V, A, P) Q = Call d 90 [.ref r] (t, V, A, P) (fun v μ1 => Ev d 92 20 L (v.toList ++ []) μ1 Q) := e_callV (a := []) (r := []) (by decide +kernel : decode (bOf 92) 17 = .ok (.invokevirtual 107, 3)) (by decide +kernel) (by decide +kernel) (by decide +kernel) (by omega) rfl (by simp) (by decide +kernel) h
theorem x_92_20 : Ev d 92 20 (.ref r :: L) st μ Q = Ev d 92 21 (.ref r :: L) (.ref r :: st) μ Q := e_aload_n (by decide +kernel : decode (bOf 92) 20 = .ok (.aload_n 0, 1)) rfl
theorem x_92_21 (h : kd t r = 5) : Ev d 92 21 L (.ref r :: st) (t, V, A, P) Q = Ev d 92 24 L (V r 17 :: st) (t, V, A, P) Q := e_getf (by decide +kernel : decode (bOf 92) 21 = .ok (.getfield 104, 3)) (by decide +kernel) (by decide +kernel) h
theorem x_92_24 : Ev d 92 24 L st μ Q = Ev d 92 26 L (.int (iI (-9)) :: st) μ Q := e_bipush (by decide +kernel : decode (bOf 92) 24 = .ok (.bipush (-9), 2)) (by decide +kernel)
theorem x_92_26 : Ev d 92 26 L (.int y :: .int x :: st) μ Q = if x = y then Ev d 92 29 L st μ Q else Ev d 92 162 L st μ Q := e_icmp_ne (by decide +kernel : decode (bOf 92) 26 = .ok (.if_icmp .ne 136, 3)) (by omega)
theorem x_92_29 : Ev d 92 29 (.ref r :: L) st μ Q = Ev d 92 30 (.ref r :: L) (.ref r :: st) μ Q := e_aload_n (by decide +kernel : decode (bOf 92) 29 = .ok (.aload_n 0, 1)) rfl
theorem x_92_30 (h : kd t r = 5) : Ev d 92 30 L (.ref r :: st) (t, V, A, P) Q = Ev d 92 33 L (V r 15 :: st) (t, V, A, P) Q := e_getf (by decide +kernel : decode (bOf 92) 30 = .ok (.getfield 98, 3)) (by decide +kernel) (by decide +kernel) h
theorem x_92_33 : Ev d 92 33 L (.int x :: st) μ Q = if x = iI 0 then Ev d 92 36 L st μ Q else Ev d 92 43 L st μ Q := e_if_ne (by decide +kernel : decode (bOf 92) 33 = .ok (.ifCond .ne 10, 3)) (by omega)
theorem x_92_36 : Ev d 92 36 (.ref r :: L) st μ Q = Ev d 92 37 (.ref r :: L) (.ref r :: st) μ Q := e_aload_n (by decide +kernel : decode (bOf 92) 36 = .ok (.aload_n 0, 1)) rfl
theorem x_92_37 (h : kd t r = 5) : Ev d 92 37 L (.ref r :: st) (t, V, A, P) Q = Ev d 92 40 L (V r 9 :: st) (t, V, A, P) Q := e_getf (by decide +kernel : decode (bOf 92) 37 = .ok (.getfield 110, 3)) (by decide +kernel) (by decide +kernel) h
theorem x_92_40 : Ev d 92 40 L (.int x :: st) μ Q = if x = iI 0 then Ev d 92 43 L st μ Q else Ev d 92 162 L st μ Q := e_if_ne (by decide +kernel : decode (bOf 92) 40 = .ok (.ifCond .ne 122, 3)) (by omega)
theorem x_92_43 : Ev d 92 43 (.ref r :: L) st μ Q = Ev d 92 44 (.ref r :: L) (.ref r :: st) μ Q := e_aload_n (by decide +kernel : decode (bOf 92) 43 = .ok (.aload_n 0, 1)) rfl
theorem x_92_44 : Ev d 92 44 (.ref r :: L) st μ Q = Ev d 92 45 (.ref r :: L) (.ref r :: st) μ Q := e_aload_n (by decide +kernel : decode (bOf 92) 44 = .ok (.aload_n 0, 1)) rfl
theorem x_92_45 (h : kd t r = 5) : Ev d 92 45 L (.ref r :: st) (t, V, A, P) Q = Ev d 92 48 L (V r 15 :: st) (t, V, A, P) Q := e_getf (by decide +kernel : decode (bOf 92) 45 = .ok (.getfield 98, 3)) (by decide +kernel) (by decide +kernel) h
theorem x_92_48 : Ev d 92 48 L st μ Q = Ev d 92 49 L (.int (iI 1) :: st) μ Q := e_iconst (by decide +kernel : decode (bOf 92) 48 = .ok (.iconst 1, 1))
theorem x_92_49 : Ev d 92 49 L (.int y :: .int x :: st) μ Q = if x = y then Ev d 92 52 L st μ Q else Ev d 92 56 L st μ Q := e_icmp_ne (by decide +kernel : decode (bOf 92) 49 = .ok (.if_icmp .ne 7, 3)) (by omega)
theorem x_92_52 : Ev d 92 52 L st μ Q = Ev d 92 53 L (.int (iI 1) :: st) μ Q := e_iconst (by decide +kernel : decode (bOf 92) 52 = .ok (.iconst 1, 1))
theorem x_92_53 : Ev d 92 53 L st μ Q = Ev d 92 57 L st μ Q := e_goto (by decide +kernel : decode (bOf 92) 53 = .ok (.goto 4, 3)) (by omega)
theorem x_92_56 : Ev d 92 56 L st μ Q = Ev d 92 57 L (.int (iI 0) :: st) μ Q := e_iconst (by decide +kernel : decode (bOf 92) 56 = .ok (.iconst 0, 1))
theorem x_92_57 (h : kd t r = 5) : Ev d 92 57 L [b0, .ref r] (t, V, A, P) Q = Call d 91 [.ref r, b0] (t, V, A, P) (fun v μ1 => Ev d 92 60 L (v.toList ++ []) μ1 Q) := e_callV (a := [b0]) (r := []) (by decide +kernel : decode (bOf 92) 57 = .ok (.invokevirtual 113, 3)) (by decide +kernel) (by decide +kernel) (by decide +kernel) (by omega) rfl (by simp) (by decide +kernel) h
theorem x_92_60 : Ev d 92 60 L st μ Q = Ev d 92 62 L (.int (iI 100) :: st) μ Q := e_bipush (by decide +kernel : decode (bOf 92) 60 = .ok (.bipush 100, 2)) (by decide +kernel)
theorem x_92_62 : Ev d 92 62 L (.int y :: .int x :: st) μ Q = if x = y then Ev d 92 65 L st μ Q else Ev d 92 69 L st μ Q := e_icmp_ne (by decide +kernel : decode (bOf 92) 62 = .ok (.if_icmp .ne 7, 3)) (by omega)
theorem x_92_65 : Ev d 92 65 L st μ Q = Ev d 92 66 L (.int (iI 1) :: st) μ Q := e_iconst (by decide +kernel : decode (bOf 92) 65 = .ok (.iconst 1, 1))
theorem x_92_66 : Ev d 92 66 L st μ Q = Ev d 92 70 L st μ Q := e_goto (by decide +kernel : decode (bOf 92) 66 = .ok (.goto 4, 3)) (by omega)
theorem x_92_69 : Ev d 92 69 L st μ Q = Ev d 92 70 L (.int (iI 0) :: st) μ Q := e_iconst (by decide +kernel : decode (bOf 92) 69 = .ok (.iconst 0, 1))
theorem x_92_70 (h : a0.category = 1) : Ev d 92 70 (a0 :: a1 :: L) (.int x :: st) μ Q = Ev d 92 71 (a0 :: .int x :: L) st μ Q := e_istore_n (by decide +kernel : decode (bOf 92) 70 = .ok (.istore_n 1, 1)) (by show stOK _ 1 = true; simp [stOK, h])
theorem x_92_71 : Ev d 92 71 (.ref r :: L) st μ Q = Ev d 92 72 (.ref r :: L) (.ref r :: st) μ Q := e_aload_n (by decide +kernel : decode (bOf 92) 71 = .ok (.aload_n 0, 1)) rfl
theorem x_92_72 : Ev d 92 72 (.ref r :: L) st μ Q = Ev d 92 73 (.ref r :: L) (.ref r :: st) μ Q := e_aload_n (by decide +kernel : decode (bOf 92) 72 = .ok (.aload_n 0, 1)) rfl
theorem x_92_73 (h : kd t r = 5) : Ev d 92 73 L (.ref r :: st) (t, V, A, P) Q = Ev d 92 76 L (V r 15 :: st) (t, V, A, P) Q := e_getf (by decide +kernel : decode (bOf 92) 73 = .ok (.getfield 98, 3)) (by decide +kernel) (by decide +kernel) h
theorem x_92_76 : Ev d 92 76 L st μ Q = Ev d 92 77 L (.int (iI 2) :: st) μ Q := e_iconst (by decide +kernel : decode (bOf 92) 76 = .ok (.iconst 2, 1))
theorem x_92_77 : Ev d 92 77 L (.int y :: .int x :: st) μ Q = if x = y then Ev d 92 80 L st μ Q else Ev d 92 105 L st μ Q := e_icmp_ne (by decide +kernel : decode (bOf 92) 77 = .ok (.if_icmp .ne 28, 3)) (by omega)
theorem x_92_80 : Ev d 92 80 (.ref r :: L) st μ Q = Ev d 92 81 (.ref r :: L) (.ref r :: st) μ Q := e_aload_n (by decide +kernel : decode (bOf 92) 80 = .ok (.aload_n 0, 1)) rfl
theorem x_92_81 (h : kd t r = 5) : Ev d 92 81 L (.ref r :: st) (t, V, A, P) Q = Ev d 92 84 L (V r 16 :: st) (t, V, A, P) Q := e_getf (by decide +kernel : decode (bOf 92) 81 = .ok (.getfield 101, 3)) (by decide +kernel) (by decide +kernel) h
theorem x_92_84 : Ev d 92 84 L st μ Q = Ev d 92 85 L (.int (iI 0) :: st) μ Q := e_iconst (by decide +kernel : decode (bOf 92) 84 = .ok (.iconst 0, 1))
theorem x_92_85 : Ev d 92 85 (a0 :: .int x :: L) st μ Q = Ev d 92 86 (a0 :: .int x :: L) (.int x :: st) μ Q := e_iload_n (by decide +kernel : decode (bOf 92) 85 = .ok (.iload_n 1, 1)) rfl
theorem x_92_86 : Ev d 92 86 L (.int x :: st) μ Q = if x = iI 0 then Ev d 92 94 L st μ Q else Ev d 92 89 L st μ Q := e_if_eq (by decide +kernel : decode (bOf 92) 86 = .ok (.ifCond .eq 8, 3)) (by omega)
theorem x_92_89 : Ev d 92 89 L st μ Q = Ev d 92 91 L (.int (iI 30) :: st) μ Q := e_bipush (by decide +kernel : decode (bOf 92) 89 = .ok (.bipush 30, 2)) (by decide +kernel)
theorem x_92_91 : Ev d 92 91 L st μ Q = Ev d 92 95 L st μ Q := e_goto (by decide +kernel : decode (bOf 92) 91 = .ok (.goto 4, 3)) (by omega)
theorem x_92_94 : Ev d 92 94 L st μ Q = Ev d 92 95 L (.int (iI 2) :: st) μ Q := e_iconst (by decide +kernel : decode (bOf 92) 94 = .ok (.iconst 2, 1))
theorem x_92_95 : Ev d 92 95 L [b2, b1, b0, s0] μ Q = Call d 81 [b0, b1, b2] μ (fun v μ1 => Ev d 92 98 L (v.toList ++ [s0]) μ1 Q) := e_callS (a := [b0, b1, b2]) (r := [s0]) (by decide +kernel : decode (bOf 92) 95 = .ok (.invokestatic 85, 3)) (by decide +kernel) (by decide +kernel) (by omega) rfl (by simp)
theorem x_92_98 : Ev d 92 98 L (.int x :: st) μ Q = if x = iI 0 then Ev d 92 105 L st μ Q else Ev d 92 101 L st μ Q := e_if_eq (by decide +kernel : decode (bOf 92) 98 = .ok (.ifCond .eq 7, 3)) (by omega)
theorem x_92_101 : Ev d 92 101 L st μ Q = Ev d 92 102 L (.int (iI 1) :: st) μ Q := e_iconst (by decide +kernel : decode (bOf 92) 101 = .ok (.iconst 1, 1))
theorem x_92_102 : Ev d 92 102 L st μ Q = Ev d 92 106 L st μ Q := e_goto (by decide +kernel : decode (bOf 92) 102 = .ok (.goto 4, 3)) (by omega)
theorem x_92_105 : Ev d 92 105 L st μ Q = Ev d 92 106 L (.int (iI 0) :: st) μ Q := e_iconst (by decide +kernel : decode (bOf 92) 105 = .ok (.iconst 0, 1))
theorem x_92_106 (h : kd t r = 5) : Ev d 92 106 L [b0, .ref r] (t, V, A, P) Q = Call d 91 [.ref r, b0] (t, V, A, P) (fun v μ1 => Ev d 92 109 L (v.toList ++ []) μ1 Q) := e_callV (a := [b0]) (r := []) (by decide +kernel : decode (bOf 92) 106 = .ok (.invokevirtual 113, 3)) (by decide +kernel) (by decide +kernel) (by decide +kernel) (by omega) rfl (by simp) (by decide +kernel) h
theorem x_92_109 (h : a1.category = 1) : Ev d 92 109 (a0 :: a1 :: a2 :: L) (.int x :: st) μ Q = Ev d 92 110 (a0 :: a1 :: .int x :: L) st μ Q := e_istore_n (by decide +kernel : decode (bOf 92) 109 = .ok (.istore_n 2, 1)) (by show stOK _ 2 = true; simp [stOK, h])
theorem x_92_110 : Ev d 92 110 (.ref r :: L) st μ Q = Ev d 92 111 (.ref r :: L) (.ref r :: st) μ Q := e_aload_n (by decide +kernel : decode (bOf 92) 110 = .ok (.aload_n 0, 1)) rfl
theorem x_92_111 : Ev d 92 111 (.ref r :: L) st μ Q = Ev d 92 112 (.ref r :: L) (.ref r :: st) μ Q := e_aload_n (by decide +kernel : decode (bOf 92) 111 = .ok (.aload_n 0, 1)) rfl
theorem x_92_112 (h : kd t r = 5) : Ev d 92 112 L (.ref r :: st) (t, V, A, P) Q = Ev d 92 115 L (V r 15 :: st) (t, V, A, P) Q := e_getf (by decide +kernel : decode (bOf 92) 112 = .ok (.getfield 98, 3)) (by decide +kernel) (by decide +kernel) h
theorem x_92_115 : Ev d 92 115 L st μ Q = Ev d 92 116 L (.int (iI 3) :: st) μ Q := e_iconst (by decide +kernel : decode (bOf 92) 115 = .ok (.iconst 3, 1))
theorem x_92_116 : Ev d 92 116 L (.int y :: .int x :: st) μ Q = if x = y then Ev d 92 119 L st μ Q else Ev d 92 123 L st μ Q := e_icmp_ne (by decide +kernel : decode (bOf 92) 116 = .ok (.if_icmp .ne 7, 3)) (by omega)
theorem x_92_119 : Ev d 92 119 L st μ Q = Ev d 92 120 L (.int (iI 1) :: st) μ Q := e_iconst (by decide +kernel : decode (bOf 92) 119 = .ok (.iconst 1, 1))
theorem x_92_120 : Ev d 92 120 L st μ Q = Ev d 92 124 L st μ Q := e_goto (by decide +kernel : decode (bOf 92) 120 = .ok (.goto 4, 3)) (by omega)
theorem x_92_123 : Ev d 92 123 L st μ Q = Ev d 92 124 L (.int (iI 0) :: st) μ Q := e_iconst (by decide +kernel : decode (bOf 92) 123 = .ok (.iconst 0, 1))
theorem x_92_124 (h : kd t r = 5) : Ev d 92 124 L [b0, .ref r] (t, V, A, P) Q = Call d 91 [.ref r, b0] (t, V, A, P) (fun v μ1 => Ev d 92 127 L (v.toList ++ []) μ1 Q) := e_callV (a := [b0]) (r := []) (by decide +kernel : decode (bOf 92) 124 = .ok (.invokevirtual 113, 3)) (by decide +kernel) (by decide +kernel) (by decide +kernel) (by omega) rfl (by simp) (by decide +kernel) h
theorem x_92_127 : Ev d 92 127 L (.int x :: st) μ Q = Ev d 92 128 L st μ Q := e_pop (by decide +kernel : decode (bOf 92) 127 = .ok (.pop, 1))
theorem x_92_128 : Ev d 92 128 (.ref r :: L) st μ Q = Ev d 92 129 (.ref r :: L) (.ref r :: st) μ Q := e_aload_n (by decide +kernel : decode (bOf 92) 128 = .ok (.aload_n 0, 1)) rfl
theorem x_92_129 (h : kd t r = 5) : Ev d 92 129 L (.ref r :: st) (t, V, A, P) Q = Ev d 92 132 L (V r 8 :: st) (t, V, A, P) Q := e_getf (by decide +kernel : decode (bOf 92) 129 = .ok (.getfield 26, 3)) (by decide +kernel) (by decide +kernel) h
theorem x_92_132 : Ev d 92 132 (.ref r :: L) st μ Q = Ev d 92 133 (.ref r :: L) (.ref r :: st) μ Q := e_aload_n (by decide +kernel : decode (bOf 92) 132 = .ok (.aload_n 0, 1)) rfl
theorem x_92_133 (h : kd t r = 5) : Ev d 92 133 L (.ref r :: st) (t, V, A, P) Q = Ev d 92 136 L (V r 9 :: st) (t, V, A, P) Q := e_getf (by decide +kernel : decode (bOf 92) 133 = .ok (.getfield 110, 3)) (by decide +kernel) (by decide +kernel) h
theorem x_92_136 : Ev d 92 136 (a0 :: .int x :: L) st μ Q = Ev d 92 137 (a0 :: .int x :: L) (.int x :: st) μ Q := e_iload_n (by decide +kernel : decode (bOf 92) 136 = .ok (.iload_n 1, 1)) rfl
theorem x_92_137 : Ev d 92 137 L (.int x :: st) μ Q = if x = iI 0 then Ev d 92 144 L st μ Q else Ev d 92 140 L st μ Q := e_if_eq (by decide +kernel : decode (bOf 92) 137 = .ok (.ifCond .eq 7, 3)) (by omega)
theorem x_92_140 : Ev d 92 140 (a0 :: a1 :: .int x :: L) st μ Q = Ev d 92 141 (a0 :: a1 :: .int x :: L) (.int x :: st) μ Q := e_iload_n (by decide +kernel : decode (bOf 92) 140 = .ok (.iload_n 2, 1)) rfl
theorem x_92_141 : Ev d 92 141 L st μ Q = Ev d 92 148 L st μ Q := e_goto (by decide +kernel : decode (bOf 92) 141 = .ok (.goto 7, 3)) (by omega)
theorem x_92_144 : Ev d 92 144 L st μ Q = Ev d 92 146 L (.int (iI 31) :: st) μ Q := e_bipush (by decide +kernel : decode (bOf 92) 144 = .ok (.bipush 31, 2)) (by decide +kernel)
theorem x_92_146 : Ev d 92 146 (a0 :: a1 :: .int x :: L) st μ Q = Ev d 92 147 (a0 :: a1 :: .int x :: L) (.int x :: st) μ Q := e_iload_n (by decide +kernel : decode (bOf 92) 146 = .ok (.iload_n 2, 1)) rfl
theorem x_92_147 : Ev d 92 147 L (.int y :: .int x :: st) μ Q = Ev d 92 148 L (.int (x + y) :: st) μ Q := e_iadd (by decide +kernel : decode (bOf 92) 147 = .ok (.iadd, 1))
theorem x_92_148 (h : kd t r = 6) (hi : inB x (ln t r) = true) : Ev d 92 148 L (.int y :: .int x :: .ref r :: st) (t, V, A, P) Q = Ev d 92 149 L st (t, V, up1 A r (upd (A r) x.toNatClampNeg y), P) Q := e_iast (by decide +kernel : decode (bOf 92) 148 = .ok (.iastore, 1)) h hi
theorem x_92_149 : Ev d 92 149 (.ref r :: L) st μ Q = Ev d 92 150 (.ref r :: L) (.ref r :: st) μ Q := e_aload_n (by decide +kernel : decode (bOf 92) 149 = .ok (.aload_n 0, 1)) rfl
theorem x_92_150 : Ev d 92 150 L (.ref r :: st) μ Q = Ev d 92 151 L (.ref r :: .ref r :: st) μ Q := e_dup_a (by decide +kernel : decode (bOf 92) 150 = .ok (.dup, 1))
theorem x_92_151 (h : kd t r = 5) : Ev d 92 151 L (.ref r :: st) (t, V, A, P) Q = Ev d 92 154 L (V r 9 :: st) (t, V, A, P) Q := e_getf (by decide +kernel : decode (bOf 92) 151 = .ok (.getfield 110, 3)) (by decide +kernel) (by decide +kernel) h
theorem x_92_154 : Ev d 92 154 L st μ Q = Ev d 92 155 L (.int (iI 1) :: st) μ Q := e_iconst (by decide +kernel : decode (bOf 92) 154 = .ok (.iconst 1, 1))
theorem x_92_155 : Ev d 92 155 L (.int y :: .int x :: st) μ Q = Ev d 92 156 L (.int (x + y) :: st) μ Q := e_iadd (by decide +kernel : decode (bOf 92) 155 = .ok (.iadd, 1))
theorem x_92_156 (h : kd t r = 5) : Ev d 92 156 L (.int x :: .ref r :: st) (t, V, A, P) Q = Ev d 92 159 L st (t, up1 V r (up1 (V r) 9 (.int x)), A, P) Q := e_putf (by decide +kernel : decode (bOf 92) 156 = .ok (.putfield 110, 3)) (by decide +kernel) (by decide +kernel) rfl h
theorem x_92_159 : Ev d 92 159 L st μ Q = Ev d 92 20 L st μ Q := e_goto (by decide +kernel : decode (bOf 92) 159 = .ok (.goto (-139), 3)) (by omega)
theorem x_92_162 : Ev d 92 162 L [] μ Q = Q none μ := e_ret (by decide +kernel : decode (bOf 92) 162 = .ok (.return_, 1)) (by decide +kernel)
theorem c_93 : Call (d + 1) 93 [.ref r0] μ Q = Ev d 93 0 [.ref r0, .null] [] μ Q := call_ev rfl rfl
theorem x_93_0 : Ev d 93 0 (.ref r :: L) st μ Q = Ev d 93 1 (.ref r :: L) (.ref r :: st) μ Q := e_aload_n (by decide +kernel : decode (bOf 93) 0 = .ok (.aload_n 0, 1)) rfl
theorem x_93_1 : Ev d 93 1 L st μ Q = Ev d 93 2 L (.int (iI 0) :: st) μ Q := e_iconst (by decide +kernel : decode (bOf 93) 1 = .ok (.iconst 0, 1))
theorem x_93_2 (h : kd t r = 5) : Ev d 93 2 L (.int x :: .ref r :: st) (t, V, A, P) Q = Ev d 93 5 L st (t, up1 V r (up1 (V r) 0 (.int x)), A, P) Q := e_putf (by decide +kernel : decode (bOf 93) 2 = .ok (.putfield 59, 3)) (by decide +kernel) (by decide +kernel) rfl h
theorem x_93_5 : Ev d 93 5 (.ref r :: L) st μ Q = Ev d 93 6 (.ref r :: L) (.ref r :: st) μ Q := e_aload_n (by decide +kernel : decode (bOf 93) 5 = .ok (.aload_n 0, 1)) rfl
theorem x_93_6 (h : kd t r = 5) : Ev d 93 6 L [.ref r] (t, V, A, P) Q = Call d 92 [.ref r] (t, V, A, P) (fun v μ1 => Ev d 93 9 L (v.toList ++ []) μ1 Q) := e_callV (a := []) (r := []) (by decide +kernel : decode (bOf 93) 6 = .ok (.invokevirtual 117, 3)) (by decide +kernel) (by decide +kernel) (by decide +kernel) (by omega) rfl (by simp) (by decide +kernel) h
theorem x_93_9 : Ev d 93 9 (.ref r :: L) st μ Q = Ev d 93 10 (.ref r :: L) (.ref r :: st) μ Q := e_aload_n (by decide +kernel : decode (bOf 93) 9 = .ok (.aload_n 0, 1)) rfl
theorem x_93_10 (h : kd t r = 5) : Ev d 93 10 L (.ref r :: st) (t, V, A, P) Q = Ev d 93 13 L (V r 17 :: st) (t, V, A, P) Q := e_getf (by decide +kernel : decode (bOf 93) 10 = .ok (.getfield 104, 3)) (by decide +kernel) (by decide +kernel) h
theorem x_93_13 : Ev d 93 13 L st μ Q = Ev d 93 15 L (.int (iI (-9)) :: st) μ Q := e_bipush (by decide +kernel : decode (bOf 93) 13 = .ok (.bipush (-9), 2)) (by decide +kernel)
theorem x_93_15 : Ev d 93 15 L (.int y :: .int x :: st) μ Q = if x = y then Ev d 93 26 L st μ Q else Ev d 93 18 L st μ Q := e_icmp_eq (by decide +kernel : decode (bOf 93) 15 = .ok (.if_icmp .eq 11, 3)) (by omega)
theorem x_93_18 : Ev d 93 18 L st μ Q = Ev d 93 20 L (.int (iI (-10)) :: st) μ Q := e_bipush (by decide +kernel : decode (bOf 93) 18 = .ok (.bipush (-10), 2)) (by decide +kernel)
theorem x_93_20 : Ev d 93 20 (.ref r :: L) st μ Q = Ev d 93 21 (.ref r :: L) (.ref r :: st) μ Q := e_aload_n (by decide +kernel : decode (bOf 93) 20 = .ok (.aload_n 0, 1)) rfl
theorem x_93_21 (h : kd t r = 5) : Ev d 93 21 L (.ref r :: st) (t, V, A, P) Q = Ev d 93 24 L (V r 17 :: st) (t, V, A, P) Q := e_getf (by decide +kernel : decode (bOf 93) 21 = .ok (.getfield 104, 3)) (by decide +kernel) (by decide +kernel) h
theorem x_93_24 : Ev d 93 24 L (.int y :: .int x :: st) μ Q = Ev d 93 25 L (.int (x - y) :: st) μ Q := e_isub (by decide +kernel : decode (bOf 93) 24 = .ok (.isub, 1))
theorem x_93_25 : Ev d 93 25 L [.int x] μ Q = Q (some (.int x)) μ := e_iret (by decide +kernel : decode (bOf 93) 25 = .ok (.ireturn, 1)) (by decide +kernel)
theorem x_93_26 : Ev d 93 26 (.ref r :: L) st μ Q = Ev d 93 27 (.ref r :: L) (.ref r :: st) μ Q := e_aload_n (by decide +kernel : decode (bOf 93) 26 = .ok (.aload_n 0, 1)) rfl
theorem x_93_27 (h : kd t r = 5) : Ev d 93 27 L (.ref r :: st) (t, V, A, P) Q = Ev d 93 30 L (V r 1 :: st) (t, V, A, P) Q := e_getf (by decide +kernel : decode (bOf 93) 27 = .ok (.getfield 7, 3)) (by decide +kernel) (by decide +kernel) h
theorem x_93_30 : Ev d 93 30 L st μ Q = Ev d 93 31 L (.int (iI 0) :: st) μ Q := e_iconst (by decide +kernel : decode (bOf 93) 30 = .ok (.iconst 0, 1))
theorem x_93_31 (h : kd t r = 6) (hi : inB x (ln t r) = true) : Ev d 93 31 L (.int x :: .ref r :: st) (t, V, A, P) Q = Ev d 93 32 L (.int (A r x.toNatClampNeg) :: st) (t, V, A, P) Q := e_iald (by decide +kernel : decode (bOf 93) 31 = .ok (.iaload, 1)) h hi
theorem x_93_32 : Ev d 93 32 (.ref r :: L) st μ Q = Ev d 93 33 (.ref r :: L) (.ref r :: st) μ Q := e_aload_n (by decide +kernel : decode (bOf 93) 32 = .ok (.aload_n 0, 1)) rfl
theorem x_93_33 (h : kd t r = 5) : Ev d 93 33 L (.ref r :: st) (t, V, A, P) Q = Ev d 93 36 L (V r 9 :: st) (t, V, A, P) Q := e_getf (by decide +kernel : decode (bOf 93) 33 = .ok (.getfield 110, 3)) (by decide +kernel) (by decide +kernel) h
theorem x_93_36 : Ev d 93 36 L (.int y :: .int x :: st) μ Q = Ev d 93 37 L (.int (x + y) :: st) μ Q := e_iadd (by decide +kernel : decode (bOf 93) 36 = .ok (.iadd, 1))
theorem x_93_37 : Ev d 93 37 L st μ Q = Ev d 93 39 L (.int (iI 32) :: st) μ Q := e_bipush (by decide +kernel : decode (bOf 93) 37 = .ok (.bipush 32, 2)) (by decide +kernel)
theorem x_93_39 : Ev d 93 39 L (.int y :: .int x :: st) μ Q = if y < x then Ev d 93 42 L st μ Q else Ev d 93 45 L st μ Q := e_icmp_le (by decide +kernel : decode (bOf 93) 39 = .ok (.if_icmp .le 6, 3)) (by omega)
theorem x_93_42 : Ev d 93 42 L st μ Q = Ev d 93 44 L (.int (iI (-3)) :: st) μ Q := e_bipush (by decide +kernel : decode (bOf 93) 42 = .ok (.bipush (-3), 2)) (by decide +kernel)
theorem x_93_44 : Ev d 93 44 L [.int x] μ Q = Q (some (.int x)) μ := e_iret (by decide +kernel : decode (bOf 93) 44 = .ok (.ireturn, 1)) (by decide +kernel)
theorem x_93_45 : Ev d 93 45 (.ref r :: L) st μ Q = Ev d 93 46 (.ref r :: L) (.ref r :: st) μ Q := e_aload_n (by decide +kernel : decode (bOf 93) 45 = .ok (.aload_n 0, 1)) rfl
theorem x_93_46 (h : kd t r = 5) : Ev d 93 46 L [.ref r] (t, V, A, P) Q = Call d 94 [.ref r] (t, V, A, P) (fun v μ1 => Ev d 93 49 L (v.toList ++ []) μ1 Q) := e_callV (a := []) (r := []) (by decide +kernel : decode (bOf 93) 46 = .ok (.invokevirtual 120, 3)) (by decide +kernel) (by decide +kernel) (by decide +kernel) (by omega) rfl (by simp) (by decide +kernel) h
theorem x_93_49 : Ev d 93 49 L st μ Q = Ev d 93 50 L (.int (iI 0) :: st) μ Q := e_iconst (by decide +kernel : decode (bOf 93) 49 = .ok (.iconst 0, 1))
theorem x_93_50 (h : a0.category = 1) : Ev d 93 50 (a0 :: a1 :: L) (.int x :: st) μ Q = Ev d 93 51 (a0 :: .int x :: L) st μ Q := e_istore_n (by decide +kernel : decode (bOf 93) 50 = .ok (.istore_n 1, 1)) (by show stOK _ 1 = true; simp [stOK, h])
theorem x_93_51 : Ev d 93 51 (a0 :: .int x :: L) st μ Q = Ev d 93 52 (a0 :: .int x :: L) (.int x :: st) μ Q := e_iload_n (by decide +kernel : decode (bOf 93) 51 = .ok (.iload_n 1, 1)) rfl
theorem x_93_52 : Ev d 93 52 (.ref r :: L) st μ Q = Ev d 93 53 (.ref r :: L) (.ref r :: st) μ Q := e_aload_n (by decide +kernel : decode (bOf 93) 52 = .ok (.aload_n 0, 1)) rfl
theorem x_93_53 (h : kd t r = 5) : Ev d 93 53 L (.ref r :: st) (t, V, A, P) Q = Ev d 93 56 L (V r 9 :: st) (t, V, A, P) Q := e_getf (by decide +kernel : decode (bOf 93) 53 = .ok (.getfield 110, 3)) (by decide +kernel) (by decide +kernel) h
theorem x_93_56 : Ev d 93 56 L (.int y :: .int x :: st) μ Q = if x < y then Ev d 93 59 L st μ Q else Ev d 93 76 L st μ Q := e_icmp_ge (by decide +kernel : decode (bOf 93) 56 = .ok (.if_icmp .ge 20, 3)) (by omega)
theorem x_93_59 : Ev d 93 59 (.ref r :: L) st μ Q = Ev d 93 60 (.ref r :: L) (.ref r :: st) μ Q := e_aload_n (by decide +kernel : decode (bOf 93) 59 = .ok (.aload_n 0, 1)) rfl
theorem x_93_60 : Ev d 93 60 (.ref r :: L) st μ Q = Ev d 93 61 (.ref r :: L) (.ref r :: st) μ Q := e_aload_n (by decide +kernel : decode (bOf 93) 60 = .ok (.aload_n 0, 1)) rfl
theorem x_93_61 (h : kd t r = 5) : Ev d 93 61 L (.ref r :: st) (t, V, A, P) Q = Ev d 93 64 L (V r 8 :: st) (t, V, A, P) Q := e_getf (by decide +kernel : decode (bOf 93) 61 = .ok (.getfield 26, 3)) (by decide +kernel) (by decide +kernel) h
theorem x_93_64 : Ev d 93 64 (a0 :: .int x :: L) st μ Q = Ev d 93 65 (a0 :: .int x :: L) (.int x :: st) μ Q := e_iload_n (by decide +kernel : decode (bOf 93) 64 = .ok (.iload_n 1, 1)) rfl
theorem x_93_65 (h : kd t r = 6) (hi : inB x (ln t r) = true) : Ev d 93 65 L (.int x :: .ref r :: st) (t, V, A, P) Q = Ev d 93 66 L (.int (A r x.toNatClampNeg) :: st) (t, V, A, P) Q := e_iald (by decide +kernel : decode (bOf 93) 65 = .ok (.iaload, 1)) h hi
theorem x_93_66 (h : kd t r = 5) : Ev d 93 66 L [b0, .ref r] (t, V, A, P) Q = Call d 96 [.ref r, b0] (t, V, A, P) (fun v μ1 => Ev d 93 69 L (v.toList ++ []) μ1 Q) := e_callV (a := [b0]) (r := []) (by decide +kernel : decode (bOf 93) 66 = .ok (.invokevirtual 123, 3)) (by decide +kernel) (by decide +kernel) (by decide +kernel) (by omega) rfl (by simp) (by decide +kernel) h
theorem x_93_69 : Ev d 93 69 L (.int x :: st) μ Q = Ev d 93 70 L st μ Q := e_pop (by decide +kernel : decode (bOf 93) 69 = .ok (.pop, 1))
theorem x_93_70 (h : a0.category = 1) : Ev d 93 70 (a0 :: .int x :: L) st μ Q = Ev d 93 73 (a0 :: .int (x + (iI 1)) :: L) st μ Q := e_iinc (by decide +kernel : decode (bOf 93) 70 = .ok (.iinc 1 1, 3)) rfl (by simp [stOK, h])
theorem x_93_73 : Ev d 93 73 L st μ Q = Ev d 93 51 L st μ Q := e_goto (by decide +kernel : decode (bOf 93) 73 = .ok (.goto (-22), 3)) (by omega)
theorem x_93_76 : Ev d 93 76 (.ref r :: L) st μ Q = Ev d 93 77 (.ref r :: L) (.ref r :: st) μ Q := e_aload_n (by decide +kernel : decode (bOf 93) 76 = .ok (.aload_n 0, 1)) rfl
theorem x_93_77 : Ev d 93 77 L st μ Q = Ev d 93 78 L (.int (iI 0) :: st) μ Q := e_iconst (by decide +kernel : decode (bOf 93) 77 = .ok (.iconst 0, 1))
theorem x_93_78 (h : kd t r = 5) : Ev d 93 78 L (.int x :: .ref r :: st) (t, V, A, P) Q = Ev d 93 81 L st (t, up1 V r (up1 (V r) 7 (.int x)), A, P) Q := e_putf (by decide +kernel : decode (bOf 93) 78 = .ok (.putfield 82, 3)) (by decide +kernel) (by decide +kernel) rfl h
theorem x_93_81 : Ev d 93 81 (.ref r :: L) st μ Q = Ev d 93 82 (.ref r :: L) (.ref r :: st) μ Q := e_aload_n (by decide +kernel : decode (bOf 93) 81 = .ok (.aload_n 0, 1)) rfl
theorem x_93_82 (h : kd t r = 5) : Ev d 93 82 L (.ref r :: st) (t, V, A, P) Q = Ev d 93 85 L (V r 9 :: st) (t, V, A, P) Q := e_getf (by decide +kernel : decode (bOf 93) 82 = .ok (.getfield 110, 3)) (by decide +kernel) (by decide +kernel) h
theorem x_93_85 : Ev d 93 85 L [.int x] μ Q = Q (some (.int x)) μ := e_iret (by decide +kernel : decode (bOf 93) 85 = .ok (.ireturn, 1)) (by decide +kernel)
theorem c_94 : Call (d + 1) 94 [.ref r0] μ Q = Ev d 94 0 [.ref r0, .null] [] μ Q := call_ev rfl rfl
theorem x_94_0 : Ev d 94 0 (.ref r :: L) st μ Q = Ev d 94 1 (.ref r :: L) (.ref r :: st) μ Q := e_aload_n (by decide +kernel : decode (bOf 94) 0 = .ok (.aload_n 0, 1)) rfl
theorem x_94_1 (h : kd t r = 5) : Ev d 94 1 L (.ref r :: st) (t, V, A, P) Q = Ev d 94 4 L (V r 3 :: st) (t, V, A, P) Q := e_getf (by decide +kernel : decode (bOf 94) 1 = .ok (.getfield 126, 3)) (by decide +kernel) (by decide +kernel) h
theorem x_94_4 : Ev d 94 4 L st μ Q = Ev d 94 6 L (.int (iI 6) :: st) μ Q := e_bipush (by decide +kernel : decode (bOf 94) 4 = .ok (.bipush 6, 2)) (by decide +kernel)
theorem x_94_6 : Ev d 94 6 L (.int y :: .int x :: st) μ Q = if x = y then Ev d 94 9 L st μ Q else Ev d 94 50 L st μ Q := e_icmp_ne (by decide +kernel : decode (bOf 94) 6 = .ok (.if_icmp .ne 44, 3)) (by omega)
theorem x_94_9 : Ev d 94 9 L st μ Q = Ev d 94 10 L (.int (iI 0) :: st) μ Q := e_iconst (by decide +kernel : decode (bOf 94) 9 = .ok (.iconst 0, 1))
theorem x_94_10 (h : a0.category = 1) : Ev d 94 10 (a0 :: a1 :: L) (.int x :: st) μ Q = Ev d 94 11 (a0 :: .int x :: L) st μ Q := e_istore_n (by decide +kernel : decode (bOf 94) 10 = .ok (.istore_n 1, 1)) (by show stOK _ 1 = true; simp [stOK, h])
theorem x_94_11 : Ev d 94 11 (a0 :: .int x :: L) st μ Q = Ev d 94 12 (a0 :: .int x :: L) (.int x :: st) μ Q := e_iload_n (by decide +kernel : decode (bOf 94) 11 = .ok (.iload_n 1, 1)) rfl
theorem x_94_12 : Ev d 94 12 L st μ Q = Ev d 94 15 L (.int (iI 1140) :: st) μ Q := e_sipush (by decide +kernel : decode (bOf 94) 12 = .ok (.sipush 1140, 3)) (by decide +kernel)
theorem x_94_15 : Ev d 94 15 L (.int y :: .int x :: st) μ Q = if x < y then Ev d 94 18 L st μ Q else Ev d 94 40 L st μ Q := e_icmp_ge (by decide +kernel : decode (bOf 94) 15 = .ok (.if_icmp .ge 25, 3)) (by omega)
theorem x_94_18 : Ev d 94 18 (.ref r :: L) st μ Q = Ev d 94 19 (.ref r :: L) (.ref r :: st) μ Q := e_aload_n (by decide +kernel : decode (bOf 94) 18 = .ok (.aload_n 0, 1)) rfl
theorem x_94_19 (h : kd t r = 5) : Ev d 94 19 L (.ref r :: st) (t, V, A, P) Q = Ev d 94 22 L (V r 2 :: st) (t, V, A, P) Q := e_getf (by decide +kernel : decode (bOf 94) 19 = .ok (.getfield 13, 3)) (by decide +kernel) (by decide +kernel) h
theorem x_94_22 : Ev d 94 22 (a0 :: .int x :: L) st μ Q = Ev d 94 23 (a0 :: .int x :: L) (.int x :: st) μ Q := e_iload_n (by decide +kernel : decode (bOf 94) 22 = .ok (.iload_n 1, 1)) rfl
theorem x_94_23 : Ev d 94 23 (.ref r :: L) st μ Q = Ev d 94 24 (.ref r :: L) (.ref r :: st) μ Q := e_aload_n (by decide +kernel : decode (bOf 94) 23 = .ok (.aload_n 0, 1)) rfl
theorem x_94_24 (h : kd t r = 5) : Ev d 94 24 L (.ref r :: st) (t, V, A, P) Q = Ev d 94 27 L (V r 2 :: st) (t, V, A, P) Q := e_getf (by decide +kernel : decode (bOf 94) 24 = .ok (.getfield 13, 3)) (by decide +kernel) (by decide +kernel) h
theorem x_94_27 : Ev d 94 27 L st μ Q = Ev d 94 30 L (.int (iI 228) :: st) μ Q := e_sipush (by decide +kernel : decode (bOf 94) 27 = .ok (.sipush 228, 3)) (by decide +kernel)
theorem x_94_30 : Ev d 94 30 (a0 :: .int x :: L) st μ Q = Ev d 94 31 (a0 :: .int x :: L) (.int x :: st) μ Q := e_iload_n (by decide +kernel : decode (bOf 94) 30 = .ok (.iload_n 1, 1)) rfl
theorem x_94_31 : Ev d 94 31 L (.int y :: .int x :: st) μ Q = Ev d 94 32 L (.int (x + y) :: st) μ Q := e_iadd (by decide +kernel : decode (bOf 94) 31 = .ok (.iadd, 1))
theorem x_94_32 (h : kd t r = 6) (hi : inB x (ln t r) = true) : Ev d 94 32 L (.int x :: .ref r :: st) (t, V, A, P) Q = Ev d 94 33 L (.int (A r x.toNatClampNeg) :: st) (t, V, A, P) Q := e_iald (by decide +kernel : decode (bOf 94) 32 = .ok (.iaload, 1)) h hi
theorem x_94_33 (h : kd t r = 6) (hi : inB x (ln t r) = true) : Ev d 94 33 L (.int y :: .int x :: .ref r :: st) (t, V, A, P) Q = Ev d 94 34 L st (t, V, up1 A r (upd (A r) x.toNatClampNeg y), P) Q := e_iast (by decide +kernel : decode (bOf 94) 33 = .ok (.iastore, 1)) h hi
theorem x_94_34 (h : a0.category = 1) : Ev d 94 34 (a0 :: .int x :: L) st μ Q = Ev d 94 37 (a0 :: .int (x + (iI 1)) :: L) st μ Q := e_iinc (by decide +kernel : decode (bOf 94) 34 = .ok (.iinc 1 1, 3)) rfl (by simp [stOK, h])
theorem x_94_37 : Ev d 94 37 L st μ Q = Ev d 94 11 L st μ Q := e_goto (by decide +kernel : decode (bOf 94) 37 = .ok (.goto (-26), 3)) (by omega)
theorem x_94_40 : Ev d 94 40 (.ref r :: L) st μ Q = Ev d 94 41 (.ref r :: L) (.ref r :: st) μ Q := e_aload_n (by decide +kernel : decode (bOf 94) 40 = .ok (.aload_n 0, 1)) rfl
theorem x_94_41 : Ev d 94 41 L (.ref r :: st) μ Q = Ev d 94 42 L (.ref r :: .ref r :: st) μ Q := e_dup_a (by decide +kernel : decode (bOf 94) 41 = .ok (.dup, 1))
theorem x_94_42 (h : kd t r = 5) : Ev d 94 42 L (.ref r :: st) (t, V, A, P) Q = Ev d 94 45 L (V r 3 :: st) (t, V, A, P) Q := e_getf (by decide +kernel : decode (bOf 94) 42 = .ok (.getfield 126, 3)) (by decide +kernel) (by decide +kernel) h
theorem x_94_45 : Ev d 94 45 L st μ Q = Ev d 94 46 L (.int (iI 1) :: st) μ Q := e_iconst (by decide +kernel : decode (bOf 94) 45 = .ok (.iconst 1, 1))
theorem x_94_46 : Ev d 94 46 L (.int y :: .int x :: st) μ Q = Ev d 94 47 L (.int (x - y) :: st) μ Q := e_isub (by decide +kernel : decode (bOf 94) 46 = .ok (.isub, 1))
theorem x_94_47 (h : kd t r = 5) : Ev d 94 47 L (.int x :: .ref r :: st) (t, V, A, P) Q = Ev d 94 50 L st (t, up1 V r (up1 (V r) 3 (.int x)), A, P) Q := e_putf (by decide +kernel : decode (bOf 94) 47 = .ok (.putfield 126, 3)) (by decide +kernel) (by decide +kernel) rfl h
theorem x_94_50 : Ev d 94 50 L st μ Q = Ev d 94 51 L (.int (iI 0) :: st) μ Q := e_iconst (by decide +kernel : decode (bOf 94) 50 = .ok (.iconst 0, 1))
theorem x_94_51 (h : a0.category = 1) : Ev d 94 51 (a0 :: a1 :: L) (.int x :: st) μ Q = Ev d 94 52 (a0 :: .int x :: L) st μ Q := e_istore_n (by decide +kernel : decode (bOf 94) 51 = .ok (.istore_n 1, 1)) (by show stOK _ 1 = true; simp [stOK, h])
theorem x_94_52 : Ev d 94 52 (a0 :: .int x :: L) st μ Q = Ev d 94 53 (a0 :: .int x :: L) (.int x :: st) μ Q := e_iload_n (by decide +kernel : decode (bOf 94) 52 = .ok (.iload_n 1, 1)) rfl
theorem x_94_53 : Ev d 94 53 L st μ Q = Ev d 94 56 L (.int (iI 228) :: st) μ Q := e_sipush (by decide +kernel : decode (bOf 94) 53 = .ok (.sipush 228, 3)) (by decide +kernel)
theorem x_94_56 : Ev d 94 56 L (.int y :: .int x :: st) μ Q = if x < y then Ev d 94 59 L st μ Q else Ev d 94 86 L st μ Q := e_icmp_ge (by decide +kernel : decode (bOf 94) 56 = .ok (.if_icmp .ge 30, 3)) (by omega)
theorem x_94_59 : Ev d 94 59 (.ref r :: L) st μ Q = Ev d 94 60 (.ref r :: L) (.ref r :: st) μ Q := e_aload_n (by decide +kernel : decode (bOf 94) 59 = .ok (.aload_n 0, 1)) rfl
theorem x_94_60 (h : kd t r = 5) : Ev d 94 60 L (.ref r :: st) (t, V, A, P) Q = Ev d 94 63 L (V r 2 :: st) (t, V, A, P) Q := e_getf (by decide +kernel : decode (bOf 94) 60 = .ok (.getfield 13, 3)) (by decide +kernel) (by decide +kernel) h
theorem x_94_63 : Ev d 94 63 L st μ Q = Ev d 94 66 L (.int (iI 228) :: st) μ Q := e_sipush (by decide +kernel : decode (bOf 94) 63 = .ok (.sipush 228, 3)) (by decide +kernel)
theorem x_94_66 : Ev d 94 66 (.ref r :: L) st μ Q = Ev d 94 67 (.ref r :: L) (.ref r :: st) μ Q := e_aload_n (by decide +kernel : decode (bOf 94) 66 = .ok (.aload_n 0, 1)) rfl
theorem x_94_67 (h : kd t r = 5) : Ev d 94 67 L (.ref r :: st) (t, V, A, P) Q = Ev d 94 70 L (V r 3 :: st) (t, V, A, P) Q := e_getf (by decide +kernel : decode (bOf 94) 67 = .ok (.getfield 126, 3)) (by decide +kernel) (by decide +kernel) h
theorem x_94_70 : Ev d 94 70 L (.int y :: .int x :: st) μ Q = Ev d 94 71 L (.int (x * y) :: st) μ Q := e_imul (by decide +kernel : decode (bOf 94) 70 = .ok (.imul, 1))
theorem x_94_71 : Ev d 94 71 (a0 :: .int x :: L) st μ Q = Ev d 94 72 (a0 :: .int x :: L) (.int x :: st) μ Q := e_iload_n (by decide +kernel : decode (bOf 94) 71 = .ok (.iload_n 1, 1)) rfl
theorem x_94_72 : Ev d 94 72 L (.int y :: .int x :: st) μ Q = Ev d 94 73 L (.int (x + y) :: st) μ Q := e_iadd (by decide +kernel : decode (bOf 94) 72 = .ok (.iadd, 1))
theorem x_94_73 : Ev d 94 73 (.ref r :: L) st μ Q = Ev d 94 74 (.ref r :: L) (.ref r :: st) μ Q := e_aload_n (by decide +kernel : decode (bOf 94) 73 = .ok (.aload_n 0, 1)) rfl
theorem x_94_74 (h : kd t r = 5) : Ev d 94 74 L (.ref r :: st) (t, V, A, P) Q = Ev d 94 77 L (V r 1 :: st) (t, V, A, P) Q := e_getf (by decide +kernel : decode (bOf 94) 74 = .ok (.getfield 7, 3)) (by decide +kernel) (by decide +kernel) h
theorem x_94_77 : Ev d 94 77 (a0 :: .int x :: L) st μ Q = Ev d 94 78 (a0 :: .int x :: L) (.int x :: st) μ Q := e_iload_n (by decide +kernel : decode (bOf 94) 77 = .ok (.iload_n 1, 1)) rfl
theorem x_94_78 (h : kd t r = 6) (hi : inB x (ln t r) = true) : Ev d 94 78 L (.int x :: .ref r :: st) (t, V, A, P) Q = Ev d 94 79 L (.int (A r x.toNatClampNeg) :: st) (t, V, A, P) Q := e_iald (by decide +kernel : decode (bOf 94) 78 = .ok (.iaload, 1)) h hi
theorem x_94_79 (h : kd t r = 6) (hi : inB x (ln t r) = true) : Ev d 94 79 L (.int y :: .int x :: .ref r :: st) (t, V, A, P) Q = Ev d 94 80 L st (t, V, up1 A r (upd (A r) x.toNatClampNeg y), P) Q := e_iast (by decide +kernel : decode (bOf 94) 79 = .ok (.iastore, 1)) h hi
theorem x_94_80 (h : a0.category = 1) : Ev d 94 80 (a0 :: .int x :: L) st μ Q = Ev d 94 83 (a0 :: .int (x + (iI 1)) :: L) st μ Q := e_iinc (by decide +kernel : decode (bOf 94) 80 = .ok (.iinc 1 1, 3)) rfl (by simp [stOK, h])
theorem x_94_83 : Ev d 94 83 L st μ Q = Ev d 94 52 L st μ Q := e_goto (by decide +kernel : decode (bOf 94) 83 = .ok (.goto (-31), 3)) (by omega)
theorem x_94_86 : Ev d 94 86 (.ref r :: L) st μ Q = Ev d 94 87 (.ref r :: L) (.ref r :: st) μ Q := e_aload_n (by decide +kernel : decode (bOf 94) 86 = .ok (.aload_n 0, 1)) rfl
theorem x_94_87 : Ev d 94 87 L (.ref r :: st) μ Q = Ev d 94 88 L (.ref r :: .ref r :: st) μ Q := e_dup_a (by decide +kernel : decode (bOf 94) 87 = .ok (.dup, 1))
theorem x_94_88 (h : kd t r = 5) : Ev d 94 88 L (.ref r :: st) (t, V, A, P) Q = Ev d 94 91 L (V r 3 :: st) (t, V, A, P) Q := e_getf (by decide +kernel : decode (bOf 94) 88 = .ok (.getfield 126, 3)) (by decide +kernel) (by decide +kernel) h
theorem x_94_91 : Ev d 94 91 L st μ Q = Ev d 94 92 L (.int (iI 1) :: st) μ Q := e_iconst (by decide +kernel : decode (bOf 94) 91 = .ok (.iconst 1, 1))
theorem x_94_92 : Ev d 94 92 L (.int y :: .int x :: st) μ Q = Ev d 94 93 L (.int (x + y) :: st) μ Q := e_iadd (by decide +kernel : decode (bOf 94) 92 = .ok (.iadd, 1))
theorem x_94_93 (h : kd t r = 5) : Ev d 94 93 L (.int x :: .ref r :: st) (t, V, A, P) Q = Ev d 94 96 L st (t, up1 V r (up1 (V r) 3 (.int x)), A, P) Q := e_putf (by decide +kernel : decode (bOf 94) 93 = .ok (.putfield 126, 3)) (by decide +kernel) (by decide +kernel) rfl h
theorem x_94_96 : Ev d 94 96 L [] μ Q = Q none μ := e_ret (by decide +kernel : decode (bOf 94) 96 = .ok (.return_, 1)) (by decide +kernel)
theorem c_95 : Call (d + 1) 95 [.ref r0, .int i1] μ Q = Ev d 95 0 [.ref r0, .int i1] [] μ Q := call_ev rfl rfl
theorem x_95_0 : Ev d 95 0 (.ref r :: L) st μ Q = Ev d 95 1 (.ref r :: L) (.ref r :: st) μ Q := e_aload_n (by decide +kernel : decode (bOf 95) 0 = .ok (.aload_n 0, 1)) rfl
theorem x_95_1 (h : kd t r = 5) : Ev d 95 1 L (.ref r :: st) (t, V, A, P) Q = Ev d 95 4 L (V r 1 :: st) (t, V, A, P) Q := e_getf (by decide +kernel : decode (bOf 95) 1 = .ok (.getfield 7, 3)) (by decide +kernel) (by decide +kernel) h
theorem x_95_4 : Ev d 95 4 L st μ Q = Ev d 95 5 L (.int (iI 3) :: st) μ Q := e_iconst (by decide +kernel : decode (bOf 95) 4 = .ok (.iconst 3, 1))
theorem x_95_5 (h : kd t r = 6) (hi : inB x (ln t r) = true) : Ev d 95 5 L (.int x :: .ref r :: st) (t, V, A, P) Q = Ev d 95 6 L (.int (A r x.toNatClampNeg) :: st) (t, V, A, P) Q := e_iald (by decide +kernel : decode (bOf 95) 5 = .ok (.iaload, 1)) h hi
theorem x_95_6 : Ev d 95 6 (a0 :: .int x :: L) st μ Q = Ev d 95 7 (a0 :: .int x :: L) (.int x :: st) μ Q := e_iload_n (by decide +kernel : decode (bOf 95) 6 = .ok (.iload_n 1, 1)) rfl
theorem x_95_7 : Ev d 95 7 L (.int y :: .int x :: st) μ Q = if x = y then Ev d 95 10 L st μ Q else Ev d 95 11 L st μ Q := e_icmp_ne (by decide +kernel : decode (bOf 95) 7 = .ok (.if_icmp .ne 4, 3)) (by omega)
theorem x_95_10 : Ev d 95 10 L [] μ Q = Q none μ := e_ret (by decide +kernel : decode (bOf 95) 10 = .ok (.return_, 1)) (by decide +kernel)
theorem x_95_11 : Ev d 95 11 (.ref r :: L) st μ Q = Ev d 95 12 (.ref r :: L) (.ref r :: st) μ Q := e_aload_n (by decide +kernel : decode (bOf 95) 11 = .ok (.aload_n 0, 1)) rfl
theorem x_95_12 (h : kd t r = 5) : Ev d 95 12 L (.ref r :: st) (t, V, A, P) Q = Ev d 95 15 L (V r 1 :: st) (t, V, A, P) Q := e_getf (by decide +kernel : decode (bOf 95) 12 = .ok (.getfield 7, 3)) (by decide +kernel) (by decide +kernel) h
theorem x_95_15 : Ev d 95 15 L st μ Q = Ev d 95 16 L (.int (iI 2) :: st) μ Q := e_iconst (by decide +kernel : decode (bOf 95) 15 = .ok (.iconst 2, 1))
theorem x_95_16 : Ev d 95 16 (.ref r :: L) st μ Q = Ev d 95 17 (.ref r :: L) (.ref r :: st) μ Q := e_aload_n (by decide +kernel : decode (bOf 95) 16 = .ok (.aload_n 0, 1)) rfl
theorem x_95_17 (h : kd t r = 5) : Ev d 95 17 L (.ref r :: st) (t, V, A, P) Q = Ev d 95 20 L (V r 1 :: st) (t, V, A, P) Q := e_getf (by decide +kernel : decode (bOf 95) 17 = .ok (.getfield 7, 3)) (by decide +kernel) (by decide +kernel) h
theorem x_95_20 : Ev d 95 20 L st μ Q = Ev d 95 21 L (.int (iI 3) :: st) μ Q := e_iconst (by decide +kernel : decode (bOf 95) 20 = .ok (.iconst 3, 1))
theorem x_95_21 (h : kd t r = 6) (hi : inB x (ln t r) = true) : Ev d 95 21 L (.int x :: .ref r :: st) (t, V, A, P) Q = Ev d 95 22 L (.int (A r x.toNatClampNeg) :: st) (t, V, A, P) Q := e_iald (by decide +kernel : decode (bOf 95) 21 = .ok (.iaload, 1)) h hi
theorem x_95_22 (h : kd t r = 6) (hi : inB x (ln t r) = true) : Ev d 95 22 L (.int y :: .int x :: .ref r :: st) (t, V, A, P) Q = Ev d 95 23 L st (t, V, up1 A r (upd (A r) x.toNatClampNeg y), P) Q := e_iast (by decide +kernel : decode (bOf 95) 22 = .ok (.iastore, 1)) h hi
theorem x_95_23 : Ev d 95 23 (.ref r :: L) st μ Q = Ev d 95 24 (.ref r :: L) (.ref r :: st) μ Q := e_aload_n (by decide +kernel : decode (bOf 95) 23 = .ok (.aload_n 0, 1)) rfl
theorem x_95_24 (h : kd t r = 5) : Ev d 95 24 L (.ref r :: st) (t, V, A, P) Q = Ev d 95 27 L (V r 1 :: st) (t, V, A, P) Q := e_getf (by decide +kernel : decode (bOf 95) 24 = .ok (.getfield 7, 3)) (by decide +kernel) (by decide +kernel) h
theorem x_95_27 : Ev d 95 27 L st μ Q = Ev d 95 28 L (.int (iI 3) :: st) μ Q := e_iconst (by decide +kernel : decode (bOf 95) 27 = .ok (.iconst 3, 1))
theorem x_95_28 : Ev d 95 28 (a0 :: .int x :: L) st μ Q = Ev d 95 29 (a0 :: .int x :: L) (.int x :: st) μ Q := e_iload_n (by decide +kernel : decode (bOf 95) 28 = .ok (.iload_n 1, 1)) rfl
theorem x_95_29 (h : kd t r = 6) (hi : inB x (ln t r) = true) : Ev d 95 29 L (.int y :: .int x :: .ref r :: st) (t, V, A, P) Q = Ev d 95 30 L st (t, V, up1 A r (upd (A r) x.toNatClampNeg y), P) Q := e_iast (by decide +kernel : decode (bOf 95) 29 = .ok (.iastore, 1)) h hi
theorem x_95_30 : Ev d 95 30 L [] μ Q = Q none μ := e_ret (by decide +kernel : decode (bOf 95) 30 = .ok (.return_, 1)) (by decide +kernel)
theorem c_96 : Call (d + 1) 96 [.ref r0, .int i1] μ Q = Ev d 96 0 [.ref r0, .int i1, .null, .null] [] μ Q := call_ev rfl rfl
theorem x_96_0 : Ev d 96 0 (a0 :: .int x :: L) st μ Q = Ev d 96 1 (a0 :: .int x :: L) (.int x :: st) μ Q := e_iload_n (by decide +kernel : decode (bOf 96) 0 = .ok (.iload_n 1, 1)) rfl
theorem x_96_1 : Ev d 96 1 (.ref r :: L) st μ Q = Ev d 96 2 (.ref r :: L) (.ref r :: st) μ Q := e_aload_n (by decide +kernel : decode (bOf 96) 1 = .ok (.aload_n 0, 1)) rfl
theorem x_96_2 (h : kd t r = 5) : Ev d 96 2 L (.ref r :: st) (t, V, A, P) Q = Ev d 96 5 L (V r 1 :: st) (t, V, A, P) Q := e_getf (by decide +kernel : decode (bOf 96) 2 = .ok (.getfield 7, 3)) (by decide +kernel) (by decide +kernel) h
theorem x_96_5 : Ev d 96 5 L st μ Q = Ev d 96 6 L (.int (iI 1) :: st) μ Q := e_iconst (by decide +kernel : decode (bOf 96) 5 = .ok (.iconst 1, 1))
theorem x_96_6 (h : kd t r = 6) (hi : inB x (ln t r) = true) : Ev d 96 6 L (.int x :: .ref r :: st) (t, V, A, P) Q = Ev d 96 7 L (.int (A r x.toNatClampNeg) :: st) (t, V, A, P) Q := e_iald (by decide +kernel : decode (bOf 96) 6 = .ok (.iaload, 1)) h hi
theorem x_96_7 : Ev d 96 7 L (.int x :: st) μ Q = if x < iI 0 then Ev d 96 10 L st μ Q else Ev d 96 14 L st μ Q := e_if_ge (by decide +kernel : decode (bOf 96) 7 = .ok (.ifCond .ge 7, 3)) (by omega)
theorem x_96_10 : Ev d 96 10 L st μ Q = Ev d 96 11 L (.int (iI 0) :: st) μ Q := e_iconst (by decide +kernel : decode (bOf 96) 10 = .ok (.iconst 0, 1))
theorem x_96_11 : Ev d 96 11 L st μ Q = Ev d 96 15 L st μ Q := e_goto (by decide +kernel : decode (bOf 96) 11 = .ok (.goto 4, 3)) (by omega)
theorem x_96_14 : Ev d 96 14 L st μ Q = Ev d 96 15 L (.int (iI 1) :: st) μ Q := e_iconst (by decide +kernel : decode (bOf 96) 14 = .ok (.iconst 1, 1))
theorem x_96_15 : Ev d 96 15 L [b1, b0] μ Q = Call d 85 [b0, b1] μ (fun v μ1 => Ev d 96 18 L (v.toList ++ []) μ1 Q) := e_callS (a := [b0, b1]) (r := []) (by decide +kernel : decode (bOf 96) 15 = .ok (.invokestatic 79, 3)) (by decide +kernel) (by decide +kernel) (by omega) rfl (by simp)
theorem x_96_18 (h : a1.category = 1) : Ev d 96 18 (a0 :: a1 :: a2 :: L) (.int x :: st) μ Q = Ev d 96 19 (a0 :: a1 :: .int x :: L) st μ Q := e_istore_n (by decide +kernel : decode (bOf 96) 18 = .ok (.istore_n 2, 1)) (by show stOK _ 2 = true; simp [stOK, h])
theorem x_96_19 : Ev d 96 19 L st μ Q = Ev d 96 20 L (.int (iI 0) :: st) μ Q := e_iconst (by decide +kernel : decode (bOf 96) 19 = .ok (.iconst 0, 1))
theorem x_96_20 (h : a2.category = 1) : Ev d 96 20 (a0 :: a1 :: a2 :: a3 :: L) (.int x :: st) μ Q = Ev d 96 21 (a0 :: a1 :: a2 :: .int x :: L) st μ Q := e_istore_n (by decide +kernel : decode (bOf 96) 20 = .ok (.istore_n 3, 1)) (by show stOK _ 3 = true; simp [stOK, h])
theorem x_96_21 : Ev d 96 21 (a0 :: a1 :: a2 :: .int x :: L) st μ Q = Ev d 96 22 (a0 :: a1 :: a2 :: .int x :: L) (.int x :: st) μ Q := e_iload_n (by decide +kernel : decode (bOf 96) 21 = .ok (.iload_n 3, 1)) rfl
theorem x_96_22 : Ev d 96 22 L st μ Q = Ev d 96 24 L (.int (iI 6) :: st) μ Q := e_bipush (by decide +kernel : decode (bOf 96) 22 = .ok (.bipush 6, 2)) (by decide +kernel)
theorem x_96_24 : Ev d 96 24 L (.int y :: .int x :: st) μ Q = if x < y then Ev d 96 27 L st μ Q else Ev d 96 59 L st μ Q := e_icmp_ge (by decide +kernel : decode (bOf 96) 24 = .ok (.if_icmp .ge 35, 3)) (by omega)
theorem x_96_27 : Ev d 96 27 (.ref r :: L) st μ Q = Ev d 96 28 (.ref r :: L) (.ref r :: st) μ Q := e_aload_n (by decide +kernel : decode (bOf 96) 27 = .ok (.aload_n 0, 1)) rfl
theorem x_96_28 (h : kd t r = 5) : Ev d 96 28 L (.ref r :: st) (t, V, A, P) Q = Ev d 96 31 L (V r 1 :: st) (t, V, A, P) Q := e_getf (by decide +kernel : decode (bOf 96) 28 = .ok (.getfield 7, 3)) (by decide +kernel) (by decide +kernel) h
theorem x_96_31 : Ev d 96 31 L st μ Q = Ev d 96 33 L (.int (iI 36) :: st) μ Q := e_bipush (by decide +kernel : decode (bOf 96) 31 = .ok (.bipush 36, 2)) (by decide +kernel)
theorem x_96_33 : Ev d 96 33 L st μ Q = Ev d 96 35 L (.int (iI 6) :: st) μ Q := e_bipush (by decide +kernel : decode (bOf 96) 33 = .ok (.bipush 6, 2)) (by decide +kernel)
theorem x_96_35 : Ev d 96 35 (.ref r :: L) st μ Q = Ev d 96 36 (.ref r :: L) (.ref r :: st) μ Q := e_aload_n (by decide +kernel : decode (bOf 96) 35 = .ok (.aload_n 0, 1)) rfl
theorem x_96_36 (h : kd t r = 5) : Ev d 96 36 L (.ref r :: st) (t, V, A, P) Q = Ev d 96 39 L (V r 1 :: st) (t, V, A, P) Q := e_getf (by decide +kernel : decode (bOf 96) 36 = .ok (.getfield 7, 3)) (by decide +kernel) (by decide +kernel) h
theorem x_96_39 : Ev d 96 39 L st μ Q = Ev d 96 40 L (.int (iI 0) :: st) μ Q := e_iconst (by decide +kernel : decode (bOf 96) 39 = .ok (.iconst 0, 1))
theorem x_96_40 (h : kd t r = 6) (hi : inB x (ln t r) = true) : Ev d 96 40 L (.int x :: .ref r :: st) (t, V, A, P) Q = Ev d 96 41 L (.int (A r x.toNatClampNeg) :: st) (t, V, A, P) Q := e_iald (by decide +kernel : decode (bOf 96) 40 = .ok (.iaload, 1)) h hi
theorem x_96_41 : Ev d 96 41 L (.int y :: .int x :: st) μ Q = Ev d 96 42 L (.int (x * y) :: st) μ Q := e_imul (by decide +kernel : decode (bOf 96) 41 = .ok (.imul, 1))
theorem x_96_42 : Ev d 96 42 L (.int y :: .int x :: st) μ Q = Ev d 96 43 L (.int (x + y) :: st) μ Q := e_iadd (by decide +kernel : decode (bOf 96) 42 = .ok (.iadd, 1))
theorem x_96_43 : Ev d 96 43 (a0 :: a1 :: a2 :: .int x :: L) st μ Q = Ev d 96 44 (a0 :: a1 :: a2 :: .int x :: L) (.int x :: st) μ Q := e_iload_n (by decide +kernel : decode (bOf 96) 43 = .ok (.iload_n 3, 1)) rfl
theorem x_96_44 : Ev d 96 44 L (.int y :: .int x :: st) μ Q = Ev d 96 45 L (.int (x + y) :: st) μ Q := e_iadd (by decide +kernel : decode (bOf 96) 44 = .ok (.iadd, 1))
theorem x_96_45 : Ev d 96 45 (a0 :: a1 :: .int x :: L) st μ Q = Ev d 96 46 (a0 :: a1 :: .int x :: L) (.int x :: st) μ Q := e_iload_n (by decide +kernel : decode (bOf 96) 45 = .ok (.iload_n 2, 1)) rfl
theorem x_96_46 : Ev d 96 46 L st μ Q = Ev d 96 47 L (.int (iI 5) :: st) μ Q := e_iconst (by decide +kernel : decode (bOf 96) 46 = .ok (.iconst 5, 1))
theorem x_96_47 : Ev d 96 47 (a0 :: a1 :: a2 :: .int x :: L) st μ Q = Ev d 96 48 (a0 :: a1 :: a2 :: .int x :: L) (.int x :: st) μ Q := e_iload_n (by decide +kernel : decode (bOf 96) 47 = .ok (.iload_n 3, 1)) rfl
theorem x_96_48 : Ev d 96 48 L (.int y :: .int x :: st) μ Q = Ev d 96 49 L (.int (x - y) :: st) μ Q := e_isub (by decide +kernel : decode (bOf 96) 48 = .ok (.isub, 1))
theorem x_96_49 : Ev d 96 49 L (.int y :: .int x :: st) μ Q = Ev d 96 50 L (.int (x >>> (y &&& 31)) :: st) μ Q := e_ishr (by decide +kernel : decode (bOf 96) 49 = .ok (.ishr, 1))
theorem x_96_50 : Ev d 96 50 L st μ Q = Ev d 96 51 L (.int (iI 1) :: st) μ Q := e_iconst (by decide +kernel : decode (bOf 96) 50 = .ok (.iconst 1, 1))
theorem x_96_51 : Ev d 96 51 L (.int y :: .int x :: st) μ Q = Ev d 96 52 L (.int (x &&& y) :: st) μ Q := e_iand (by decide +kernel : decode (bOf 96) 51 = .ok (.iand, 1))
theorem x_96_52 (h : kd t r = 6) (hi : inB x (ln t r) = true) : Ev d 96 52 L (.int y :: .int x :: .ref r :: st) (t, V, A, P) Q = Ev d 96 53 L st (t, V, up1 A r (upd (A r) x.toNatClampNeg y), P) Q := e_iast (by decide +kernel : decode (bOf 96) 52 = .ok (.iastore, 1)) h hi
theorem x_96_53 (h : a2.category = 1) : Ev d 96 53 (a0 :: a1 :: a2 :: .int x :: L) st μ Q = Ev d 96 56 (a0 :: a1 :: a2 :: .int (x + (iI 1)) :: L) st μ Q := e_iinc (by decide +kernel : decode (bOf 96) 53 = .ok (.iinc 3 1, 3)) rfl (by simp [stOK, h])
theorem x_96_56 : Ev d 96 56 L st μ Q = Ev d 96 21 L st μ Q := e_goto (by decide +kernel : decode (bOf 96) 56 = .ok (.goto (-35), 3)) (by omega)
theorem x_96_59 : Ev d 96 59 (.ref r :: L) st μ Q = Ev d 96 60 (.ref r :: L) (.ref r :: st) μ Q := e_aload_n (by decide +kernel : decode (bOf 96) 59 = .ok (.aload_n 0, 1)) rfl
theorem x_96_60 (h : kd t r = 5) : Ev d 96 60 L (.ref r :: st) (t, V, A, P) Q = Ev d 96 63 L (V r 1 :: st) (t, V, A, P) Q := e_getf (by decide +kernel : decode (bOf 96) 60 = .ok (.getfield 7, 3)) (by decide +kernel) (by decide +kernel) h
theorem x_96_63 : Ev d 96 63 L st μ Q = Ev d 96 64 L (.int (iI 4) :: st) μ Q := e_iconst (by decide +kernel : decode (bOf 96) 63 = .ok (.iconst 4, 1))
theorem x_96_64 : Ev d 96 64 (.ref r :: L) st μ Q = Ev d 96 65 (.ref r :: L) (.ref r :: st) μ Q := e_aload_n (by decide +kernel : decode (bOf 96) 64 = .ok (.aload_n 0, 1)) rfl
theorem x_96_65 (h : kd t r = 5) : Ev d 96 65 L (.ref r :: st) (t, V, A, P) Q = Ev d 96 68 L (V r 1 :: st) (t, V, A, P) Q := e_getf (by decide +kernel : decode (bOf 96) 65 = .ok (.getfield 7, 3)) (by decide +kernel) (by decide +kernel) h
theorem x_96_68 : Ev d 96 68 L st μ Q = Ev d 96 69 L (.int (iI 0) :: st) μ Q := e_iconst (by decide +kernel : decode (bOf 96) 68 = .ok (.iconst 0, 1))
theorem x_96_69 (h : kd t r = 6) (hi : inB x (ln t r) = true) : Ev d 96 69 L (.int x :: .ref r :: st) (t, V, A, P) Q = Ev d 96 70 L (.int (A r x.toNatClampNeg) :: st) (t, V, A, P) Q := e_iald (by decide +kernel : decode (bOf 96) 69 = .ok (.iaload, 1)) h hi
theorem x_96_70 : Ev d 96 70 L (.int y :: .int x :: st) μ Q = Ev d 96 71 L (.int (x + y) :: st) μ Q := e_iadd (by decide +kernel : decode (bOf 96) 70 = .ok (.iadd, 1))
theorem x_96_71 : Ev d 96 71 (a0 :: .int x :: L) st μ Q = Ev d 96 72 (a0 :: .int x :: L) (.int x :: st) μ Q := e_iload_n (by decide +kernel : decode (bOf 96) 71 = .ok (.iload_n 1, 1)) rfl
theorem x_96_72 (h : kd t r = 6) (hi : inB x (ln t r) = true) : Ev d 96 72 L (.int y :: .int x :: .ref r :: st) (t, V, A, P) Q = Ev d 96 73 L st (t, V, up1 A r (upd (A r) x.toNatClampNeg y), P) Q := e_iast (by decide +kernel : decode (bOf 96) 72 = .ok (.iastore, 1)) h hi
theorem x_96_73 : Ev d 96 73 (.ref r :: L) st μ Q = Ev d 96 74 (.ref r :: L) (.ref r :: st) μ Q := e_aload_n (by decide +kernel : decode (bOf 96) 73 = .ok (.aload_n 0, 1)) rfl
theorem x_96_74 (h : kd t r = 5) : Ev d 96 74 L (.ref r :: st) (t, V, A, P) Q = Ev d 96 77 L (V r 1 :: st) (t, V, A, P) Q := e_getf (by decide +kernel : decode (bOf 96) 74 = .ok (.getfield 7, 3)) (by decide +kernel) (by decide +kernel) h
theorem x_96_77 : Ev d 96 77 L st μ Q = Ev d 96 78 L (.int (iI 0) :: st) μ Q := e_iconst (by decide +kernel : decode (bOf 96) 77 = .ok (.iconst 0, 1))
theorem x_96_78 : Ev d 96 78 L (.int x :: .ref r :: st) μ Q = Ev d 96 79 L (.int x :: .ref r :: .int x :: .ref r :: st) μ Q := e_dup2 (by decide +kernel : decode (bOf 96) 78 = .ok (.dup2, 1))
theorem x_96_79 (h : kd t r = 6) (hi : inB x (ln t r) = true) : Ev d 96 79 L (.int x :: .ref r :: st) (t, V, A, P) Q = Ev d 96 80 L (.int (A r x.toNatClampNeg) :: st) (t, V, A, P) Q := e_iald (by decide +kernel : decode (bOf 96) 79 = .ok (.iaload, 1)) h hi
theorem x_96_80 : Ev d 96 80 L st μ Q = Ev d 96 81 L (.int (iI 1) :: st) μ Q := e_iconst (by decide +kernel : decode (bOf 96) 80 = .ok (.iconst 1, 1))
theorem x_96_81 : Ev d 96 81 L (.int y :: .int x :: st) μ Q = Ev d 96 82 L (.int (x + y) :: st) μ Q := e_iadd (by decide +kernel : decode (bOf 96) 81 = .ok (.iadd, 1))
theorem x_96_82 (h : kd t r = 6) (hi : inB x (ln t r) = true) : Ev d 96 82 L (.int y :: .int x :: .ref r :: st) (t, V, A, P) Q = Ev d 96 83 L st (t, V, up1 A r (upd (A r) x.toNatClampNeg y), P) Q := e_iast (by decide +kernel : decode (bOf 96) 82 = .ok (.iastore, 1)) h hi
theorem x_96_83 : Ev d 96 83 (.ref r :: L) st μ Q = Ev d 96 84 (.ref r :: L) (.ref r :: st) μ Q := e_aload_n (by decide +kernel : decode (bOf 96) 83 = .ok (.aload_n 0, 1)) rfl
theorem x_96_84 (h : kd t r = 5) : Ev d 96 84 L (.ref r :: st) (t, V, A, P) Q = Ev d 96 87 L (V r 1 :: st) (t, V, A, P) Q := e_getf (by decide +kernel : decode (bOf 96) 84 = .ok (.getfield 7, 3)) (by decide +kernel) (by decide +kernel) h
theorem x_96_87 : Ev d 96 87 L st μ Q = Ev d 96 88 L (.int (iI 1) :: st) μ Q := e_iconst (by decide +kernel : decode (bOf 96) 87 = .ok (.iconst 1, 1))
theorem x_96_88 : Ev d 96 88 (a0 :: a1 :: .int x :: L) st μ Q = Ev d 96 89 (a0 :: a1 :: .int x :: L) (.int x :: st) μ Q := e_iload_n (by decide +kernel : decode (bOf 96) 88 = .ok (.iload_n 2, 1)) rfl
theorem x_96_89 : Ev d 96 89 L [b0, s0, s1] μ Q = Call d 82 [b0] μ (fun v μ1 => Ev d 96 92 L (v.toList ++ [s0, s1]) μ1 Q) := e_callS (a := [b0]) (r := [s0, s1]) (by decide +kernel : decode (bOf 96) 89 = .ok (.invokestatic 63, 3)) (by decide +kernel) (by decide +kernel) (by omega) rfl (by simp)
theorem x_96_92 : Ev d 96 92 L st μ Q = Ev d 96 93 L (.int (iI 3) :: st) μ Q := e_iconst (by decide +kernel : decode (bOf 96) 92 = .ok (.iconst 3, 1))
theorem x_96_93 : Ev d 96 93 L (.int y :: .int x :: st) μ Q = if x = y then Ev d 96 96 L st μ Q else Ev d 96 105 L st μ Q := e_icmp_ne (by decide +kernel : decode (bOf 96) 93 = .ok (.if_icmp .ne 12, 3)) (by omega)
theorem x_96_96 : Ev d 96 96 (.ref r :: L) st μ Q = Ev d 96 97 (.ref r :: L) (.ref r :: st) μ Q := e_aload_n (by decide +kernel : decode (bOf 96) 96 = .ok (.aload_n 0, 1)) rfl
theorem x_96_97 (h : kd t r = 5) : Ev d 96 97 L (.ref r :: st) (t, V, A, P) Q = Ev d 96 100 L (V r 1 :: st) (t, V, A, P) Q := e_getf (by decide +kernel : decode (bOf 96) 97 = .ok (.getfield 7, 3)) (by decide +kernel) (by decide +kernel) h
theorem x_96_100 : Ev d 96 100 L st μ Q = Ev d 96 101 L (.int (iI 1) :: st) μ Q := e_iconst (by decide +kernel : decode (bOf 96) 100 = .ok (.iconst 1, 1))
theorem x_96_101 (h : kd t r = 6) (hi : inB x (ln t r) = true) : Ev d 96 101 L (.int x :: .ref r :: st) (t, V, A, P) Q = Ev d 96 102 L (.int (A r x.toNatClampNeg) :: st) (t, V, A, P) Q := e_iald (by decide +kernel : decode (bOf 96) 101 = .ok (.iaload, 1)) h hi
theorem x_96_102 : Ev d 96 102 L st μ Q = Ev d 96 112 L st μ Q := e_goto (by decide +kernel : decode (bOf 96) 102 = .ok (.goto 10, 3)) (by omega)
theorem x_96_105 : Ev d 96 105 (.ref r :: L) st μ Q = Ev d 96 106 (.ref r :: L) (.ref r :: st) μ Q := e_aload_n (by decide +kernel : decode (bOf 96) 105 = .ok (.aload_n 0, 1)) rfl
theorem x_96_106 (h : kd t r = 5) : Ev d 96 106 L (.ref r :: st) (t, V, A, P) Q = Ev d 96 109 L (V r 1 :: st) (t, V, A, P) Q := e_getf (by decide +kernel : decode (bOf 96) 106 = .ok (.getfield 7, 3)) (by decide +kernel) (by decide +kernel) h
theorem x_96_109 : Ev d 96 109 L st μ Q = Ev d 96 110 L (.int (iI 1) :: st) μ Q := e_iconst (by decide +kernel : decode (bOf 96) 109 = .ok (.iconst 1, 1))
theorem x_96_110 (h : kd t r = 6) (hi : inB x (ln t r) = true) : Ev d 96 110 L (.int x :: .ref r :: st) (t, V, A, P) Q = Ev d 96 111 L (.int (A r x.toNatClampNeg) :: st) (t, V, A, P) Q := e_iald (by decide +kernel : decode (bOf 96) 110 = .ok (.iaload, 1)) h hi
theorem x_96_111 : Ev d 96 111 L (.int x :: st) μ Q = Ev d 96 112 L (.int (-x) :: st) μ Q := e_ineg (by decide +kernel : decode (bOf 96) 111 = .ok (.ineg, 1))
theorem x_96_112 (h : kd t r = 6) (hi : inB x (ln t r) = true) : Ev d 96 112 L (.int y :: .int x :: .ref r :: st) (t, V, A, P) Q = Ev d 96 113 L st (t, V, up1 A r (upd (A r) x.toNatClampNeg y), P) Q := e_iast (by decide +kernel : decode (bOf 96) 112 = .ok (.iastore, 1)) h hi
theorem x_96_113 : Ev d 96 113 (a0 :: .int x :: L) st μ Q = Ev d 96 114 (a0 :: .int x :: L) (.int x :: st) μ Q := e_iload_n (by decide +kernel : decode (bOf 96) 113 = .ok (.iload_n 1, 1)) rfl
theorem x_96_114 : Ev d 96 114 L st μ Q = Ev d 96 116 L (.int (iI 30) :: st) μ Q := e_bipush (by decide +kernel : decode (bOf 96) 114 = .ok (.bipush 30, 2)) (by decide +kernel)
theorem x_96_116 : Ev d 96 116 L (.int y :: .int x :: st) μ Q = if y < x then Ev d 96 119 L st μ Q else Ev d 96 127 L st μ Q := e_icmp_le (by decide +kernel : decode (bOf 96) 116 = .ok (.if_icmp .le 11, 3)) (by omega)
theorem x_96_119 : Ev d 96 119 (.ref r :: L) st μ Q = Ev d 96 120 (.ref r :: L) (.ref r :: st) μ Q := e_aload_n (by decide +kernel : decode (bOf 96) 119 = .ok (.aload_n 0, 1)) rfl
theorem x_96_120 : Ev d 96 120 (a0 :: .int x :: L) st μ Q = Ev d 96 121 (a0 :: .int x :: L) (.int x :: st) μ Q := e_iload_n (by decide +kernel : decode (bOf 96) 120 = .ok (.iload_n 1, 1)) rfl
theorem x_96_121 : Ev d 96 121 L st μ Q = Ev d 96 123 L (.int (iI 31) :: st) μ Q := e_bipush (by decide +kernel : decode (bOf 96) 121 = .ok (.bipush 31, 2)) (by decide +kernel)
theorem x_96_123 : Ev d 96 123 L (.int y :: .int x :: st) μ Q = Ev d 96 124 L (.int (x - y) :: st) μ Q := e_isub (by decide +kernel : decode (bOf 96) 123 = .ok (.isub, 1))
theorem x_96_124 (h : kd t r = 5) : Ev d 96 124 L [b0, .ref r] (t, V, A, P) Q = Call d 95 [.ref r, b0] (t, V, A, P) (fun v μ1 => Ev d 96 127 L (v.toList ++ []) μ1 Q) := e_callV (a := [b0]) (r := []) (by decide +kernel : decode (bOf 96) 124 = .ok (.invokevirtual 129, 3)) (by decide +kernel) (by decide +kernel) (by decide +kernel) (by omega) rfl (by simp) (by decide +kernel) h
theorem x_96_127 : Ev d 96 127 (a0 :: a1 :: .int x :: L) st μ Q = Ev d 96 128 (a0 :: a1 :: .int x :: L) (.int x :: st) μ Q := e_iload_n (by decide +kernel : decode (bOf 96) 127 = .ok (.iload_n 2, 1)) rfl
theorem x_96_128 : Ev d 96 128 L [.int x] μ Q = Q (some (.int x)) μ := e_iret (by decide +kernel : decode (bOf 96) 128 = .ok (.ireturn, 1)) (by decide +kernel)
theorem c_97 : Call (d + 1) 97 [.ref r0, .int i1] μ Q = Ev d 97 0 [.ref r0, .int i1] [] μ Q := call_ev rfl rfl
theorem x_97_0 : Ev d 97 0 (.ref r :: L) st μ Q = Ev d 97 1 (.ref r :: L) (.ref r :: st) μ Q := e_aload_n (by decide +kernel : decode (bOf 97) 0 = .ok (.aload_n 0, 1)) rfl
theorem x_97_1 : Ev d 97 1 L st μ Q = Ev d 97 2 L (.int (iI 0) :: st) μ Q := e_iconst (by decide +kernel : decode (bOf 97) 1 = .ok (.iconst 0, 1))
theorem x_97_2 (h : kd t r = 5) : Ev d 97 2 L (.int x :: .ref r :: st) (t, V, A, P) Q = Ev d 97 5 L st (t, up1 V r (up1 (V r) 0 (.int x)), A, P) Q := e_putf (by decide +kernel : decode (bOf 97) 2 = .ok (.putfield 59, 3)) (by decide +kernel) (by decide +kernel) rfl h
theorem x_97_5 : Ev d 97 5 (a0 :: .int x :: L) st μ Q = Ev d 97 6 (a0 :: .int x :: L) (.int x :: st) μ Q := e_iload_n (by decide +kernel : decode (bOf 97) 5 = .ok (.iload_n 1, 1)) rfl
theorem x_97_6 : Ev d 97 6 L st μ Q = Ev d 97 7 L (.int (iI 0) :: st) μ Q := e_iconst (by decide +kernel : decode (bOf 97) 6 = .ok (.iconst 0, 1))
theorem x_97_7 : Ev d 97 7 L st μ Q = Ev d 97 9 L (.int (iI 30) :: st) μ Q := e_bipush (by decide +kernel : decode (bOf 97) 7 = .ok (.bipush 30, 2)) (by decide +kernel)
theorem x_97_9 : Ev d 97 9 L [b2, b1, b0] μ Q = Call d 81 [b0, b1, b2] μ (fun v μ1 => Ev d 97 12 L (v.toList ++ []) μ1 Q) := e_callS (a := [b0, b1, b2]) (r := []) (by decide +kernel : decode (bOf 97) 9 = .ok (.invokestatic 85, 3)) (by decide +kernel) (by decide +kernel) (by omega) rfl (by simp)
theorem x_97_12 : Ev d 97 12 L (.int x :: st) μ Q = if x = iI 0 then Ev d 97 15 L st μ Q else Ev d 97 17 L st μ Q := e_if_ne (by decide +kernel : decode (bOf 97) 12 = .ok (.ifCond .ne 5, 3)) (by omega)
theorem x_97_15 : Ev d 97 15 L st μ Q = Ev d 97 16 L (.int (iI (-1)) :: st) μ Q := e_iconst (by decide +kernel : decode (bOf 97) 15 = .ok (.iconst (-1), 1))
theorem x_97_16 : Ev d 97 16 L [.int x] μ Q = Q (some (.int x)) μ := e_iret (by decide +kernel : decode (bOf 97) 16 = .ok (.ireturn, 1)) (by decide +kernel)
theorem x_97_17 : Ev d 97 17 (.ref r :: L) st μ Q = Ev d 97 18 (.ref r :: L) (.ref r :: st) μ Q := e_aload_n (by decide +kernel : decode (bOf 97) 17 = .ok (.aload_n 0, 1)) rfl
theorem x_97_18 (h : kd t r = 5) : Ev d 97 18 L (.ref r :: st) (t, V, A, P) Q = Ev d 97 21 L (V r 1 :: st) (t, V, A, P) Q := e_getf (by decide +kernel : decode (bOf 97) 18 = .ok (.getfield 7, 3)) (by decide +kernel) (by decide +kernel) h
theorem x_97_21 : Ev d 97 21 L st μ Q = Ev d 97 22 L (.int (iI 0) :: st) μ Q := e_iconst (by decide +kernel : decode (bOf 97) 21 = .ok (.iconst 0, 1))
theorem x_97_22 (h : kd t r = 6) (hi : inB x (ln t r) = true) : Ev d 97 22 L (.int x :: .ref r :: st) (t, V, A, P) Q = Ev d 97 23 L (.int (A r x.toNatClampNeg) :: st) (t, V, A, P) Q := e_iald (by decide +kernel : decode (bOf 97) 22 = .ok (.iaload, 1)) h hi
theorem x_97_23 : Ev d 97 23 L st μ Q = Ev d 97 25 L (.int (iI 32) :: st) μ Q := e_bipush (by decide +kernel : decode (bOf 97) 23 = .ok (.bipush 32, 2)) (by decide +kernel)
theorem x_97_25 : Ev d 97 25 L (.int y :: .int x :: st) μ Q = if x = y then Ev d 97 28 L st μ Q else Ev d 97 31 L st μ Q := e_icmp_ne (by decide +kernel : decode (bOf 97) 25 = .ok (.if_icmp .ne 6, 3)) (by omega)
theorem x_97_28 : Ev d 97 28 L st μ Q = Ev d 97 30 L (.int (iI (-3)) :: st) μ Q := e_bipush (by decide +kernel : decode (bOf 97) 28 = .ok (.bipush (-3), 2)) (by decide +kernel)
theorem x_97_30 : Ev d 97 30 L [.int x] μ Q = Q (some (.int x)) μ := e_iret (by decide +kernel : decode (bOf 97) 30 = .ok (.ireturn, 1)) (by decide +kernel)
theorem x_97_31 : Ev d 97 31 (.ref r :: L) st μ Q = Ev d 97 32 (.ref r :: L) (.ref r :: st) μ Q := e_aload_n (by decide +kernel : decode (bOf 97) 31 = .ok (.aload_n 0, 1)) rfl
theorem x_97_32 (h : kd t r = 5) : Ev d 97 32 L [.ref r] (t, V, A, P) Q = Call d 94 [.ref r] (t, V, A, P) (fun v μ1 => Ev d 97 35 L (v.toList ++ []) μ1 Q) := e_callV (a := []) (r := []) (by decide +kernel : decode (bOf 97) 32 = .ok (.invokevirtual 120, 3)) (by decide +kernel) (by decide +kernel) (by decide +kernel) (by omega) rfl (by simp) (by decide +kernel) h
theorem x_97_35 : Ev d 97 35 (.ref r :: L) st μ Q = Ev d 97 36 (.ref r :: L) (.ref r :: st) μ Q := e_aload_n (by decide +kernel : decode (bOf 97) 35 = .ok (.aload_n 0, 1)) rfl
theorem x_97_36 : Ev d 97 36 (a0 :: .int x :: L) st μ Q = Ev d 97 37 (a0 :: .int x :: L) (.int x :: st) μ Q := e_iload_n (by decide +kernel : decode (bOf 97) 36 = .ok (.iload_n 1, 1)) rfl
theorem x_97_37 (h : kd t r = 5) : Ev d 97 37 L [b0, .ref r] (t, V, A, P) Q = Call d 96 [.ref r, b0] (t, V, A, P) (fun v μ1 => Ev d 97 40 L (v.toList ++ []) μ1 Q) := e_callV (a := [b0]) (r := []) (by decide +kernel : decode (bOf 97) 37 = .ok (.invokevirtual 123, 3)) (by decide +kernel) (by decide +kernel) (by decide +kernel) (by omega) rfl (by simp) (by decide +kernel) h
theorem x_97_40 : Ev d 97 40 L [.int x] μ Q = Q (some (.int x)) μ := e_iret (by decide +kernel : decode (bOf 97) 40 = .ok (.ireturn, 1)) (by decide +kernel)
theorem c_98 : Call (d + 1) 98 [.ref r0, .int i1] μ Q = Ev d 98 0 [.ref r0, .int i1] [] μ Q := call_ev rfl rfl
theorem x_98_0 : Ev d 98 0 (.ref r :: L) st μ Q = Ev d 98 1 (.ref r :: L) (.ref r :: st) μ Q := e_aload_n (by decide +kernel : decode (bOf 98) 0 = .ok (.aload_n 0, 1)) rfl
theorem x_98_1 : Ev d 98 1 L st μ Q = Ev d 98 2 L (.int (iI 0) :: st) μ Q := e_iconst (by decide +kernel : decode (bOf 98) 1 = .ok (.iconst 0, 1))
theorem x_98_2 (h : kd t r = 5) : Ev d 98 2 L (.int x :: .ref r :: st) (t, V, A, P) Q = Ev d 98 5 L st (t, up1 V r (up1 (V r) 0 (.int x)), A, P) Q := e_putf (by decide +kernel : decode (bOf 98) 2 = .ok (.putfield 59, 3)) (by decide +kernel) (by decide +kernel) rfl h
theorem x_98_5 : Ev d 98 5 (a0 :: .int x :: L) st μ Q = Ev d 98 6 (a0 :: .int x :: L) (.int x :: st) μ Q := e_iload_n (by decide +kernel : decode (bOf 98) 5 = .ok (.iload_n 1, 1)) rfl
theorem x_98_6 : Ev d 98 6 L st μ Q = Ev d 98 7 L (.int (iI 0) :: st) μ Q := e_iconst (by decide +kernel : decode (bOf 98) 6 = .ok (.iconst 0, 1))
theorem x_98_7 : Ev d 98 7 L st μ Q = Ev d 98 8 L (.int (iI 2) :: st) μ Q := e_iconst (by decide +kernel : decode (bOf 98) 7 = .ok (.iconst 2, 1))
theorem x_98_8 : Ev d 98 8 L [b2, b1, b0] μ Q = Call d 81 [b0, b1, b2] μ (fun v μ1 => Ev d 98 11 L (v.toList ++ []) μ1 Q) := e_callS (a := [b0, b1, b2]) (r := []) (by decide +kernel : decode (bOf 98) 8 = .ok (.invokestatic 85, 3)) (by decide +kernel) (by decide +kernel) (by omega) rfl (by simp)
theorem x_98_11 : Ev d 98 11 L (.int x :: st) μ Q = if x = iI 0 then Ev d 98 14 L st μ Q else Ev d 98 16 L st μ Q := e_if_ne (by decide +kernel : decode (bOf 98) 11 = .ok (.ifCond .ne 5, 3)) (by omega)
theorem x_98_14 : Ev d 98 14 L st μ Q = Ev d 98 15 L (.int (iI (-1)) :: st) μ Q := e_iconst (by decide +kernel : decode (bOf 98) 14 = .ok (.iconst (-1), 1))
theorem x_98_15 : Ev d 98 15 L [.int x] μ Q = Q (some (.int x)) μ := e_iret (by decide +kernel : decode (bOf 98) 15 = .ok (.ireturn, 1)) (by decide +kernel)
theorem x_98_16 : Ev d 98 16 (.ref r :: L) st μ Q = Ev d 98 17 (.ref r :: L) (.ref r :: st) μ Q := e_aload_n (by decide +kernel : decode (bOf 98) 16 = .ok (.aload_n 0, 1)) rfl
theorem x_98_17 (h : kd t r = 5) : Ev d 98 17 L (.ref r :: st) (t, V, A, P) Q = Ev d 98 20 L (V r 1 :: st) (t, V, A, P) Q := e_getf (by decide +kernel : decode (bOf 98) 17 = .ok (.getfield 7, 3)) (by decide +kernel) (by decide +kernel) h
theorem x_98_20 : Ev d 98 20 L st μ Q = Ev d 98 21 L (.int (iI 0) :: st) μ Q := e_iconst (by decide +kernel : decode (bOf 98) 20 = .ok (.iconst 0, 1))
theorem x_98_21 (h : kd t r = 6) (hi : inB x (ln t r) = true) : Ev d 98 21 L (.int x :: .ref r :: st) (t, V, A, P) Q = Ev d 98 22 L (.int (A r x.toNatClampNeg) :: st) (t, V, A, P) Q := e_iald (by decide +kernel : decode (bOf 98) 21 = .ok (.iaload, 1)) h hi
theorem x_98_22 : Ev d 98 22 L st μ Q = Ev d 98 24 L (.int (iI 32) :: st) μ Q := e_bipush (by decide +kernel : decode (bOf 98) 22 = .ok (.bipush 32, 2)) (by decide +kernel)
theorem x_98_24 : Ev d 98 24 L (.int y :: .int x :: st) μ Q = if x = y then Ev d 98 27 L st μ Q else Ev d 98 30 L st μ Q := e_icmp_ne (by decide +kernel : decode (bOf 98) 24 = .ok (.if_icmp .ne 6, 3)) (by omega)
theorem x_98_27 : Ev d 98 27 L st μ Q = Ev d 98 29 L (.int (iI (-3)) :: st) μ Q := e_bipush (by decide +kernel : decode (bOf 98) 27 = .ok (.bipush (-3), 2)) (by decide +kernel)
theorem x_98_29 : Ev d 98 29 L [.int x] μ Q = Q (some (.int x)) μ := e_iret (by decide +kernel : decode (bOf 98) 29 = .ok (.ireturn, 1)) (by decide +kernel)
theorem x_98_30 : Ev d 98 30 (.ref r :: L) st μ Q = Ev d 98 31 (.ref r :: L) (.ref r :: st) μ Q := e_aload_n (by decide +kernel : decode (bOf 98) 30 = .ok (.aload_n 0, 1)) rfl
theorem x_98_31 (h : kd t r = 5) : Ev d 98 31 L [.ref r] (t, V, A, P) Q = Call d 94 [.ref r] (t, V, A, P) (fun v μ1 => Ev d 98 34 L (v.toList ++ []) μ1 Q) := e_callV (a := []) (r := []) (by decide +kernel : decode (bOf 98) 31 = .ok (.invokevirtual 120, 3)) (by decide +kernel) (by decide +kernel) (by decide +kernel) (by omega) rfl (by simp) (by decide +kernel) h
theorem x_98_34 : Ev d 98 34 (.ref r :: L) st μ Q = Ev d 98 35 (.ref r :: L) (.ref r :: st) μ Q := e_aload_n (by decide +kernel : decode (bOf 98) 34 = .ok (.aload_n 0, 1)) rfl
theorem x_98_35 : Ev d 98 35 L st μ Q = Ev d 98 37 L (.int (iI 31) :: st) μ Q := e_bipush (by decide +kernel : decode (bOf 98) 35 = .ok (.bipush 31, 2)) (by decide +kernel)
theorem x_98_37 : Ev d 98 37 (a0 :: .int x :: L) st μ Q = Ev d 98 38 (a0 :: .int x :: L) (.int x :: st) μ Q := e_iload_n (by decide +kernel : decode (bOf 98) 37 = .ok (.iload_n 1, 1)) rfl
theorem x_98_38 : Ev d 98 38 L (.int y :: .int x :: st) μ Q = Ev d 98 39 L (.int (x + y) :: st) μ Q := e_iadd (by decide +kernel : decode (bOf 98) 38 = .ok (.iadd, 1))
theorem x_98_39 (h : kd t r = 5) : Ev d 98 39 L [b0, .ref r] (t, V, A, P) Q = Call d 96 [.ref r, b0] (t, V, A, P) (fun v μ1 => Ev d 98 42 L (v.toList ++ []) μ1 Q) := e_callV (a := [b0]) (r := []) (by decide +kernel : decode (bOf 98) 39 = .ok (.invokevirtual 123, 3)) (by decide +kernel) (by decide +kernel) (by decide +kernel) (by omega) rfl (by simp) (by decide +kernel) h
theorem x_98_42 : Ev d 98 42 L [.int x] μ Q = Q (some (.int x)) μ := e_iret (by decide +kernel : decode (bOf 98) 42 = .ok (.ireturn, 1)) (by decide +kernel)
theorem c_99 : Call (d + 1) 99 [.ref r0, .int i1] μ Q = Ev d 99 0 [.ref r0, .int i1] [] μ Q := call_ev rfl rfl
theorem x_99_0 : Ev d 99 0 (a0 :: .int x :: L) st μ Q = Ev d 99 1 (a0 :: .int x :: L) (.int x :: st) μ Q := e_iload_n (by decide +kernel : decode (bOf 99) 0 = .ok (.iload_n 1, 1)) rfl
theorem x_99_1 : Ev d 99 1 L st μ Q = Ev d 99 2 L (.int (iI 0) :: st) μ Q := e_iconst (by decide +kernel : decode (bOf 99) 1 = .ok (.iconst 0, 1))
theorem x_99_2 : Ev d 99 2 L st μ Q = Ev d 99 4 L (.int (iI 6) :: st) μ Q := e_bipush (by decide +kernel : decode (bOf 99) 2 = .ok (.bipush 6, 2)) (by decide +kernel)
theorem x_99_4 : Ev d 99 4 (.ref r :: L) st μ Q = Ev d 99 5 (.ref r :: L) (.ref r :: st) μ Q := e_aload_n (by decide +kernel : decode (bOf 99) 4 = .ok (.aload_n 0, 1)) rfl
theorem x_99_5 (h : kd t r = 5) : Ev d 99 5 L (.ref r :: st) (t, V, A, P) Q = Ev d 99 8 L (V r 1 :: st) (t, V, A, P) Q := e_getf (by decide +kernel : decode (bOf 99) 5 = .ok (.getfield 7, 3)) (by decide +kernel) (by decide +kernel) h
theorem x_99_8 : Ev d 99 8 L st μ Q = Ev d 99 9 L (.int (iI 0) :: st) μ Q := e_iconst (by decide +kernel : decode (bOf 99) 8 = .ok (.iconst 0, 1))
theorem x_99_9 (h : kd t r = 6) (hi : inB x (ln t r) = true) : Ev d 99 9 L (.int x :: .ref r :: st) (t, V, A, P) Q = Ev d 99 10 L (.int (A r x.toNatClampNeg) :: st) (t, V, A, P) Q := e_iald (by decide +kernel : decode (bOf 99) 9 = .ok (.iaload, 1)) h hi
theorem x_99_10 : Ev d 99 10 L (.int y :: .int x :: st) μ Q = Ev d 99 11 L (.int (x * y) :: st) μ Q := e_imul (by decide +kernel : decode (bOf 99) 10 = .ok (.imul, 1))
theorem x_99_11 : Ev d 99 11 L st μ Q = Ev d 99 12 L (.int (iI 1) :: st) μ Q := e_iconst (by decide +kernel : decode (bOf 99) 11 = .ok (.iconst 1, 1))
theorem x_99_12 : Ev d 99 12 L (.int y :: .int x :: st) μ Q = Ev d 99 13 L (.int (x - y) :: st) μ Q := e_isub (by decide +kernel : decode (bOf 99) 12 = .ok (.isub, 1))
theorem x_99_13 : Ev d 99 13 L [b2, b1, b0] μ Q = Call d 81 [b0, b1, b2] μ (fun v μ1 => Ev d 99 16 L (v.toList ++ []) μ1 Q) := e_callS (a := [b0, b1, b2]) (r := []) (by decide +kernel : decode (bOf 99) 13 = .ok (.invokestatic 85, 3)) (by decide +kernel) (by decide +kernel) (by omega) rfl (by simp)
theorem x_99_16 (hx : isB x) : Ev d 99 16 L [.int x] μ Q = Q (some (.int x)) μ := e_zret (by decide +kernel : decode (bOf 99) 16 = .ok (.ireturn, 1)) (by decide +kernel) hx
theorem c_100 : Call (d + 1) 100 [.ref r0, .int i1] μ Q = Ev d 100 0 [.ref r0, .int i1] [] μ Q := call_ev rfl rfl
theorem x_100_0 : Ev d 100 0 (.ref r :: L) st μ Q = Ev d 100 1 (.ref r :: L) (.ref r :: st) μ Q := e_aload_n (by decide +kernel : decode (bOf 100) 0 = .ok (.aload_n 0, 1)) rfl
theorem x_100_1 : Ev d 100 1 L st μ Q = Ev d 100 2 L (.int (iI 0) :: st) μ Q := e_iconst (by decide +kernel : decode (bOf 100) 1 = .ok (.iconst 0, 1))
theorem x_100_2 (h : kd t r = 5) : Ev d 100 2 L (.int x :: .ref r :: st) (t, V, A, P) Q = Ev d 100 5 L st (t, up1 V r (up1 (V r) 0 (.int x)), A, P) Q := e_putf (by decide +kernel : decode (bOf 100) 2 = .ok (.putfield 59, 3)) (by decide +kernel) (by decide +kernel) rfl h
theorem x_100_5 : Ev d 100 5 (.ref r :: L) st μ Q = Ev d 100 6 (.ref r :: L) (.ref r :: st) μ Q := e_aload_n (by decide +kernel : decode (bOf 100) 5 = .ok (.aload_n 0, 1)) rfl
theorem x_100_6 : Ev d 100 6 (a0 :: .int x :: L) st μ Q = Ev d 100 7 (a0 :: .int x :: L) (.int x :: st) μ Q := e_iload_n (by decide +kernel : decode (bOf 100) 6 = .ok (.iload_n 1, 1)) rfl
theorem x_100_7 (h : kd t r = 5) : Ev d 100 7 L [b0, .ref r] (t, V, A, P) Q = Call d 99 [.ref r, b0] (t, V, A, P) (fun v μ1 => Ev d 100 10 L (v.toList ++ []) μ1 Q) := e_callV (a := [b0]) (r := []) (by decide +kernel : decode (bOf 100) 7 = .ok (.invokevirtual 133, 3)) (by decide +kernel) (by decide +kernel) (by decide +kernel) (by omega) rfl (by simp) (by decide +kernel) h
theorem x_100_10 : Ev d 100 10 L (.int x :: st) μ Q = if x = iI 0 then Ev d 100 13 L st μ Q else Ev d 100 15 L st μ Q := e_if_ne (by decide +kernel : decode (bOf 100) 10 = .ok (.ifCond .ne 5, 3)) (by omega)
theorem x_100_13 : Ev d 100 13 L st μ Q = Ev d 100 14 L (.int (iI (-1)) :: st) μ Q := e_iconst (by decide +kernel : decode (bOf 100) 13 = .ok (.iconst (-1), 1))
theorem x_100_14 : Ev d 100 14 L [.int x] μ Q = Q (some (.int x)) μ := e_iret (by decide +kernel : decode (bOf 100) 14 = .ok (.ireturn, 1)) (by decide +kernel)
theorem x_100_15 : Ev d 100 15 (.ref r :: L) st μ Q = Ev d 100 16 (.ref r :: L) (.ref r :: st) μ Q := e_aload_n (by decide +kernel : decode (bOf 100) 15 = .ok (.aload_n 0, 1)) rfl
theorem x_100_16 (h : kd t r = 5) : Ev d 100 16 L [.ref r] (t, V, A, P) Q = Call d 94 [.ref r] (t, V, A, P) (fun v μ1 => Ev d 100 19 L (v.toList ++ []) μ1 Q) := e_callV (a := []) (r := []) (by decide +kernel : decode (bOf 100) 16 = .ok (.invokevirtual 120, 3)) (by decide +kernel) (by decide +kernel) (by decide +kernel) (by omega) rfl (by simp) (by decide +kernel) h
theorem x_100_19 : Ev d 100 19 (.ref r :: L) st μ Q = Ev d 100 20 (.ref r :: L) (.ref r :: st) μ Q := e_aload_n (by decide +kernel : decode (bOf 100) 19 = .ok (.aload_n 0, 1)) rfl
theorem x_100_20 (h : kd t r = 5) : Ev d 100 20 L (.ref r :: st) (t, V, A, P) Q = Ev d 100 23 L (V r 1 :: st) (t, V, A, P) Q := e_getf (by decide +kernel : decode (bOf 100) 20 = .ok (.getfield 7, 3)) (by decide +kernel) (by decide +kernel) h
theorem x_100_23 : Ev d 100 23 L st μ Q = Ev d 100 25 L (.int (iI 36) :: st) μ Q := e_bipush (by decide +kernel : decode (bOf 100) 23 = .ok (.bipush 36, 2)) (by decide +kernel)
theorem x_100_25 : Ev d 100 25 (a0 :: .int x :: L) st μ Q = Ev d 100 26 (a0 :: .int x :: L) (.int x :: st) μ Q := e_iload_n (by decide +kernel : decode (bOf 100) 25 = .ok (.iload_n 1, 1)) rfl
theorem x_100_26 : Ev d 100 26 L (.int y :: .int x :: st) μ Q = Ev d 100 27 L (.int (x + y) :: st) μ Q := e_iadd (by decide +kernel : decode (bOf 100) 26 = .ok (.iadd, 1))
theorem x_100_27 : Ev d 100 27 L st μ Q = Ev d 100 28 L (.int (iI 1) :: st) μ Q := e_iconst (by decide +kernel : decode (bOf 100) 27 = .ok (.iconst 1, 1))
theorem x_100_28 : Ev d 100 28 (.ref r :: L) st μ Q = Ev d 100 29 (.ref r :: L) (.ref r :: st) μ Q := e_aload_n (by decide +kernel : decode (bOf 100) 28 = .ok (.aload_n 0, 1)) rfl
theorem x_100_29 (h : kd t r = 5) : Ev d 100 29 L (.ref r :: st) (t, V, A, P) Q = Ev d 100 32 L (V r 1 :: st) (t, V, A, P) Q := e_getf (by decide +kernel : decode (bOf 100) 29 = .ok (.getfield 7, 3)) (by decide +kernel) (by decide +kernel) h
theorem x_100_32 : Ev d 100 32 L st μ Q = Ev d 100 34 L (.int (iI 36) :: st) μ Q := e_bipush (by decide +kernel : decode (bOf 100) 32 = .ok (.bipush 36, 2)) (by decide +kernel)
theorem x_100_34 : Ev d 100 34 (a0 :: .int x :: L) st μ Q = Ev d 100 35 (a0 :: .int x :: L) (.int x :: st) μ Q := e_iload_n (by decide +kernel : decode (bOf 100) 34 = .ok (.iload_n 1, 1)) rfl
theorem x_100_35 : Ev d 100 35 L (.int y :: .int x :: st) μ Q = Ev d 100 36 L (.int (x + y) :: st) μ Q := e_iadd (by decide +kernel : decode (bOf 100) 35 = .ok (.iadd, 1))
theorem x_100_36 (h : kd t r = 6) (hi : inB x (ln t r) = true) : Ev d 100 36 L (.int x :: .ref r :: st) (t, V, A, P) Q = Ev d 100 37 L (.int (A r x.toNatClampNeg) :: st) (t, V, A, P) Q := e_iald (by decide +kernel : decode (bOf 100) 36 = .ok (.iaload, 1)) h hi
theorem x_100_37 : Ev d 100 37 L (.int y :: .int x :: st) μ Q = Ev d 100 38 L (.int (x - y) :: st) μ Q := e_isub (by decide +kernel : decode (bOf 100) 37 = .ok (.isub, 1))
theorem x_100_38 (h : kd t r = 6) (hi : inB x (ln t r) = true) : Ev d 100 38 L (.int y :: .int x :: .ref r :: st) (t, V, A, P) Q = Ev d 100 39 L st (t, V, up1 A r (upd (A r) x.toNatClampNeg y), P) Q := e_iast (by decide +kernel : decode (bOf 100) 38 = .ok (.iastore, 1)) h hi
theorem x_100_39 : Ev d 100 39 (.ref r :: L) st μ Q = Ev d 100 40 (.ref r :: L) (.ref r :: st) μ Q := e_aload_n (by decide +kernel : decode (bOf 100) 39 = .ok (.aload_n 0, 1)) rfl
theorem x_100_40 (h : kd t r = 5) : Ev d 100 40 L (.ref r :: st) (t, V, A, P) Q = Ev d 100 43 L (V r 1 :: st) (t, V, A, P) Q := e_getf (by decide +kernel : decode (bOf 100) 40 = .ok (.getfield 7, 3)) (by decide +kernel) (by decide +kernel) h
theorem x_100_43 : Ev d 100 43 L st μ Q = Ev d 100 45 L (.int (iI 36) :: st) μ Q := e_bipush (by decide +kernel : decode (bOf 100) 43 = .ok (.bipush 36, 2)) (by decide +kernel)
theorem x_100_45 : Ev d 100 45 (a0 :: .int x :: L) st μ Q = Ev d 100 46 (a0 :: .int x :: L) (.int x :: st) μ Q := e_iload_n (by decide +kernel : decode (bOf 100) 45 = .ok (.iload_n 1, 1)) rfl
theorem x_100_46 : Ev d 100 46 L (.int y :: .int x :: st) μ Q = Ev d 100 47 L (.int (x + y) :: st) μ Q := e_iadd (by decide +kernel : decode (bOf 100) 46 = .ok (.iadd, 1))
theorem x_100_47 (h : kd t r = 6) (hi : inB x (ln t r) = true) : Ev d 100 47 L (.int x :: .ref r :: st) (t, V, A, P) Q = Ev d 100 48 L (.int (A r x.toNatClampNeg) :: st) (t, V, A, P) Q := e_iald (by decide +kernel : decode (bOf 100) 47 = .ok (.iaload, 1)) h hi
theorem x_100_48 : Ev d 100 48 L [.int x] μ Q = Q (some (.int x)) μ := e_iret (by decide +kernel : decode (bOf 100) 48 = .ok (.ireturn, 1)) (by decide +kernel)
theorem c_101 : Call (d + 1) 101 [.ref r0] μ Q = Ev d 101 0 [.ref r0, .null] [] μ Q := call_ev rfl rfl
theorem x_101_0 : Ev d 101 0 (.ref r :: L) st μ Q = Ev d 101 1 (.ref r :: L) (.ref r :: st) μ Q := e_aload_n (by decide +kernel : decode (bOf 101) 0 = .ok (.aload_n 0, 1)) rfl
theorem x_101_1 : Ev d 101 1 L st μ Q = Ev d 101 2 L (.int (iI 0) :: st) μ Q := e_iconst (by decide +kernel : decode (bOf 101) 1 = .ok (.iconst 0, 1))
theorem x_101_2 (h : kd t r = 5) : Ev d 101 2 L (.int x :: .ref r :: st) (t, V, A, P) Q = Ev d 101 5 L st (t, up1 V r (up1 (V r) 0 (.int x)), A, P) Q := e_putf (by decide +kernel : decode (bOf 101) 2 = .ok (.putfield 59, 3)) (by decide +kernel) (by decide +kernel) rfl h
theorem x_101_5 : Ev d 101 5 (.ref r :: L) st μ Q = Ev d 101 6 (.ref r :: L) (.ref r :: st) μ Q := e_aload_n (by decide +kernel : decode (bOf 101) 5 = .ok (.aload_n 0, 1)) rfl
theorem x_101_6 (h : kd t r = 5) : Ev d 101 6 L (.ref r :: st) (t, V, A, P) Q = Ev d 101 9 L (V r 1 :: st) (t, V, A, P) Q := e_getf (by decide +kernel : decode (bOf 101) 6 = .ok (.getfield 7, 3)) (by decide +kernel) (by decide +kernel) h
theorem x_101_9 : Ev d 101 9 L st μ Q = Ev d 101 10 L (.int (iI 0) :: st) μ Q := e_iconst (by decide +kernel : decode (bOf 101) 9 = .ok (.iconst 0, 1))
theorem x_101_10 (h : kd t r = 6) (hi : inB x (ln t r) = true) : Ev d 101 10 L (.int x :: .ref r :: st) (t, V, A, P) Q = Ev d 101 11 L (.int (A r x.toNatClampNeg) :: st) (t, V, A, P) Q := e_iald (by decide +kernel : decode (bOf 101) 10 = .ok (.iaload, 1)) h hi
theorem x_101_11 (h : a0.category = 1) : Ev d 101 11 (a0 :: a1 :: L) (.int x :: st) μ Q = Ev d 101 12 (a0 :: .int x :: L) st μ Q := e_istore_n (by decide +kernel : decode (bOf 101) 11 = .ok (.istore_n 1, 1)) (by show stOK _ 1 = true; simp [stOK, h])
theorem x_101_12 : Ev d 101 12 (a0 :: .int x :: L) st μ Q = Ev d 101 13 (a0 :: .int x :: L) (.int x :: st) μ Q := e_iload_n (by decide +kernel : decode (bOf 101) 12 = .ok (.iload_n 1, 1)) rfl
theorem x_101_13 : Ev d 101 13 L (.int x :: st) μ Q = if x = iI 0 then Ev d 101 16 L st μ Q else Ev d 101 19 L st μ Q := e_if_ne (by decide +kernel : decode (bOf 101) 13 = .ok (.ifCond .ne 6, 3)) (by omega)
theorem x_101_16 : Ev d 101 16 L st μ Q = Ev d 101 18 L (.int (iI (-2)) :: st) μ Q := e_bipush (by decide +kernel : decode (bOf 101) 16 = .ok (.bipush (-2), 2)) (by decide +kernel)
theorem x_101_18 : Ev d 101 18 L [.int x] μ Q = Q (some (.int x)) μ := e_iret (by decide +kernel : decode (bOf 101) 18 = .ok (.ireturn, 1)) (by decide +kernel)
theorem x_101_19 : Ev d 101 19 (.ref r :: L) st μ Q = Ev d 101 20 (.ref r :: L) (.ref r :: st) μ Q := e_aload_n (by decide +kernel : decode (bOf 101) 19 = .ok (.aload_n 0, 1)) rfl
theorem x_101_20 (h : kd t r = 5) : Ev d 101 20 L [.ref r] (t, V, A, P) Q = Call d 94 [.ref r] (t, V, A, P) (fun v μ1 => Ev d 101 23 L (v.toList ++ []) μ1 Q) := e_callV (a := []) (r := []) (by decide +kernel : decode (bOf 101) 20 = .ok (.invokevirtual 120, 3)) (by decide +kernel) (by decide +kernel) (by decide +kernel) (by omega) rfl (by simp) (by decide +kernel) h
theorem x_101_23 : Ev d 101 23 (.ref r :: L) st μ Q = Ev d 101 24 (.ref r :: L) (.ref r :: st) μ Q := e_aload_n (by decide +kernel : decode (bOf 101) 23 = .ok (.aload_n 0, 1)) rfl
theorem x_101_24 (h : kd t r = 5) : Ev d 101 24 L [.ref r] (t, V, A, P) Q = Call d 80 [.ref r] (t, V, A, P) (fun v μ1 => Ev d 101 27 L (v.toList ++ []) μ1 Q) := e_callV (a := []) (r := []) (by decide +kernel : decode (bOf 101) 24 = .ok (.invokevirtual 56, 3)) (by decide +kernel) (by decide +kernel) (by decide +kernel) (by omega) rfl (by simp) (by decide +kernel) h
theorem x_101_27 : Ev d 101 27 (a0 :: .int x :: L) st μ Q = Ev d 101 28 (a0 :: .int x :: L) (.int x :: st) μ Q := e_iload_n (by decide +kernel : decode (bOf 101) 27 = .ok (.iload_n 1, 1)) rfl
theorem x_101_28 : Ev d 101 28 L [.int x] μ Q = Q (some (.int x)) μ := e_iret (by decide +kernel : decode (bOf 101) 28 = .ok (.ireturn, 1)) (by decide +kernel)
theorem c_102 : Call (d + 1) 102 [.ref r0] μ Q = Ev d 102 0 [.ref r0, .null] [] μ Q := call_ev rfl rfl
theorem x_102_0 : Ev d 102 0 (.ref r :: L) st μ Q = Ev d 102 1 (.ref r :: L) (.ref r :: st) μ Q := e_aload_n (by decide +kernel : decode (bOf 102) 0 = .ok (.aload_n 0, 1)) rfl
theorem x_102_1 : Ev d 102 1 L st μ Q = Ev d 102 2 L (.int (iI 0) :: st) μ Q := e_iconst (by decide +kernel : decode (bOf 102) 1 = .ok (.iconst 0, 1))
theorem x_102_2 (h : kd t r = 5) : Ev d 102 2 L (.int x :: .ref r :: st) (t, V, A, P) Q = Ev d 102 5 L st (t, up1 V r (up1 (V r) 0 (.int x)), A, P) Q := e_putf (by decide +kernel : decode (bOf 102) 2 = .ok (.putfield 59, 3)) (by decide +kernel) (by decide +kernel) rfl h
theorem x_102_5 : Ev d 102 5 (.ref r :: L) st μ Q = Ev d 102 6 (.ref r :: L) (.ref r :: st) μ Q := e_aload_n (by decide +kernel : decode (bOf 102) 5 = .ok (.aload_n 0, 1)) rfl
theorem x_102_6 (h : kd t r = 5) : Ev d 102 6 L (.ref r :: st) (t, V, A, P) Q = Ev d 102 9 L (V r 3 :: st) (t, V, A, P) Q := e_getf (by decide +kernel : decode (bOf 102) 6 = .ok (.getfield 126, 3)) (by decide +kernel) (by decide +kernel) h
theorem x_102_9 : Ev d 102 9 L (.int x :: st) μ Q = if x = iI 0 then Ev d 102 12 L st μ Q else Ev d 102 15 L st μ Q := e_if_ne (by decide +kernel : decode (bOf 102) 9 = .ok (.ifCond .ne 6, 3)) (by omega)
theorem x_102_12 : Ev d 102 12 L st μ Q = Ev d 102 14 L (.int (iI (-2)) :: st) μ Q := e_bipush (by decide +kernel : decode (bOf 102) 12 = .ok (.bipush (-2), 2)) (by decide +kernel)
theorem x_102_14 : Ev d 102 14 L [.int x] μ Q = Q (some (.int x)) μ := e_iret (by decide +kernel : decode (bOf 102) 14 = .ok (.ireturn, 1)) (by decide +kernel)
theorem x_102_15 : Ev d 102 15 (.ref r :: L) st μ Q = Ev d 102 16 (.ref r :: L) (.ref r :: st) μ Q := e_aload_n (by decide +kernel : decode (bOf 102) 15 = .ok (.aload_n 0, 1)) rfl
theorem x_102_16 : Ev d 102 16 L (.ref r :: st) μ Q = Ev d 102 17 L (.ref r :: .ref r :: st) μ Q := e_dup_a (by decide +kernel : decode (bOf 102) 16 = .ok (.dup, 1))
theorem x_102_17 (h : kd t r = 5) : Ev d 102 17 L (.ref r :: st) (t, V, A, P) Q = Ev d 102 20 L (V r 3 :: st) (t, V, A, P) Q := e_getf (by decide +kernel : decode (bOf 102) 17 = .ok (.getfield 126, 3)) (by decide +kernel) (by decide +kernel) h
theorem x_102_20 : Ev d 102 20 L st μ Q = Ev d 102 21 L (.int (iI 1) :: st) μ Q := e_iconst (by decide +kernel : decode (bOf 102) 20 = .ok (.iconst 1, 1))
theorem x_102_21 : Ev d 102 21 L (.int y :: .int x :: st) μ Q = Ev d 102 22 L (.int (x - y) :: st) μ Q := e_isub (by decide +kernel : decode (bOf 102) 21 = .ok (.isub, 1))
theorem x_102_22 (h : kd t r = 5) : Ev d 102 22 L (.int x :: .ref r :: st) (t, V, A, P) Q = Ev d 102 25 L st (t, up1 V r (up1 (V r) 3 (.int x)), A, P) Q := e_putf (by decide +kernel : decode (bOf 102) 22 = .ok (.putfield 126, 3)) (by decide +kernel) (by decide +kernel) rfl h
theorem x_102_25 : Ev d 102 25 L st μ Q = Ev d 102 26 L (.int (iI 0) :: st) μ Q := e_iconst (by decide +kernel : decode (bOf 102) 25 = .ok (.iconst 0, 1))
theorem x_102_26 (h : a0.category = 1) : Ev d 102 26 (a0 :: a1 :: L) (.int x :: st) μ Q = Ev d 102 27 (a0 :: .int x :: L) st μ Q := e_istore_n (by decide +kernel : decode (bOf 102) 26 = .ok (.istore_n 1, 1)) (by show stOK _ 1 = true; simp [stOK, h])
theorem x_102_27 : Ev d 102 27 (a0 :: .int x :: L) st μ Q = Ev d 102 28 (a0 :: .int x :: L) (.int x :: st) μ Q := e_iload_n (by decide +kernel : decode (bOf 102) 27 = .ok (.iload_n 1, 1)) rfl
theorem x_102_28 : Ev d 102 28 L st μ Q = Ev d 102 31 L (.int (iI 228) :: st) μ Q := e_sipush (by decide +kernel : decode (bOf 102) 28 = .ok (.sipush 228, 3)) (by decide +kernel)
theorem x_102_31 : Ev d 102 31 L (.int y :: .int x :: st) μ Q = if x < y then Ev d 102 34 L st μ Q else Ev d 102 61 L st μ Q := e_icmp_ge (by decide +kernel : decode (bOf 102) 31 = .ok (.if_icmp .ge 30, 3)) (by omega)
theorem x_102_34 : Ev d 102 34 (.ref r :: L) st μ Q = Ev d 102 35 (.ref r :: L) (.ref r :: st) μ Q := e_aload_n (by decide +kernel : decode (bOf 102) 34 = .ok (.aload_n 0, 1)) rfl
theorem x_102_35 (h : kd t r = 5) : Ev d 102 35 L (.ref r :: st) (t, V, A, P) Q = Ev d 102 38 L (V r 1 :: st) (t, V, A, P) Q := e_getf (by decide +kernel : decode (bOf 102) 35 = .ok (.getfield 7, 3)) (by decide +kernel) (by decide +kernel) h
theorem x_102_38 : Ev d 102 38 (a0 :: .int x :: L) st μ Q = Ev d 102 39 (a0 :: .int x :: L) (.int x :: st) μ Q := e_iload_n (by decide +kernel : decode (bOf 102) 38 = .ok (.iload_n 1, 1)) rfl
theorem x_102_39 : Ev d 102 39 (.ref r :: L) st μ Q = Ev d 102 40 (.ref r :: L) (.ref r :: st) μ Q := e_aload_n (by decide +kernel : decode (bOf 102) 39 = .ok (.aload_n 0, 1)) rfl
theorem x_102_40 (h : kd t r = 5) : Ev d 102 40 L (.ref r :: st) (t, V, A, P) Q = Ev d 102 43 L (V r 2 :: st) (t, V, A, P) Q := e_getf (by decide +kernel : decode (bOf 102) 40 = .ok (.getfield 13, 3)) (by decide +kernel) (by decide +kernel) h
theorem x_102_43 : Ev d 102 43 L st μ Q = Ev d 102 46 L (.int (iI 228) :: st) μ Q := e_sipush (by decide +kernel : decode (bOf 102) 43 = .ok (.sipush 228, 3)) (by decide +kernel)
theorem x_102_46 : Ev d 102 46 (.ref r :: L) st μ Q = Ev d 102 47 (.ref r :: L) (.ref r :: st) μ Q := e_aload_n (by decide +kernel : decode (bOf 102) 46 = .ok (.aload_n 0, 1)) rfl
theorem x_102_47 (h : kd t r = 5) : Ev d 102 47 L (.ref r :: st) (t, V, A, P) Q = Ev d 102 50 L (V r 3 :: st) (t, V, A, P) Q := e_getf (by decide +kernel : decode (bOf 102) 47 = .ok (.getfield 126, 3)) (by decide +kernel) (by decide +kernel) h
theorem x_102_50 : Ev d 102 50 L (.int y :: .int x :: st) μ Q = Ev d 102 51 L (.int (x * y) :: st) μ Q := e_imul (by decide +kernel : decode (bOf 102) 50 = .ok (.imul, 1))
theorem x_102_51 : Ev d 102 51 (a0 :: .int x :: L) st μ Q = Ev d 102 52 (a0 :: .int x :: L) (.int x :: st) μ Q := e_iload_n (by decide +kernel : decode (bOf 102) 51 = .ok (.iload_n 1, 1)) rfl
theorem x_102_52 : Ev d 102 52 L (.int y :: .int x :: st) μ Q = Ev d 102 53 L (.int (x + y) :: st) μ Q := e_iadd (by decide +kernel : decode (bOf 102) 52 = .ok (.iadd, 1))
theorem x_102_53 (h : kd t r = 6) (hi : inB x (ln t r) = true) : Ev d 102 53 L (.int x :: .ref r :: st) (t, V, A, P) Q = Ev d 102 54 L (.int (A r x.toNatClampNeg) :: st) (t, V, A, P) Q := e_iald (by decide +kernel : decode (bOf 102) 53 = .ok (.iaload, 1)) h hi
theorem x_102_54 (h : kd t r = 6) (hi : inB x (ln t r) = true) : Ev d 102 54 L (.int y :: .int x :: .ref r :: st) (t, V, A, P) Q = Ev d 102 55 L st (t, V, up1 A r (upd (A r) x.toNatClampNeg y), P) Q := e_iast (by decide +kernel : decode (bOf 102) 54 = .ok (.iastore, 1)) h hi
theorem x_102_55 (h : a0.category = 1) : Ev d 102 55 (a0 :: .int x :: L) st μ Q = Ev d 102 58 (a0 :: .int (x + (iI 1)) :: L) st μ Q := e_iinc (by decide +kernel : decode (bOf 102) 55 = .ok (.iinc 1 1, 3)) rfl (by simp [stOK, h])
theorem x_102_58 : Ev d 102 58 L st μ Q = Ev d 102 27 L st μ Q := e_goto (by decide +kernel : decode (bOf 102) 58 = .ok (.goto (-31), 3)) (by omega)
theorem x_102_61 : Ev d 102 61 (.ref r :: L) st μ Q = Ev d 102 62 (.ref r :: L) (.ref r :: st) μ Q := e_aload_n (by decide +kernel : decode (bOf 102) 61 = .ok (.aload_n 0, 1)) rfl
theorem x_102_62 (h : kd t r = 5) : Ev d 102 62 L (.ref r :: st) (t, V, A, P) Q = Ev d 102 65 L (V r 3 :: st) (t, V, A, P) Q := e_getf (by decide +kernel : decode (bOf 102) 62 = .ok (.getfield 126, 3)) (by decide +kernel) (by decide +kernel) h
theorem x_102_65 : Ev d 102 65 L [.int x] μ Q = Q (some (.int x)) μ := e_iret (by decide +kernel : decode (bOf 102) 65 = .ok (.ireturn, 1)) (by decide +kernel)
theorem c_103 : Call (d + 1) 103 [.ref r0, .int i1, .int i2] μ Q = Ev d 103 0 [.ref r0, .int i1, .int i2] [] μ Q := call_ev rfl rfl
theorem x_103_0 : Ev d 103 0 (.ref r :: L) st μ Q = Ev d 103 1 (.ref r :: L) (.ref r :: st) μ Q := e_aload_n (by decide +kernel : decode (bOf 103) 0 = .ok (.aload_n 0, 1)) rfl
theorem x_103_1 : Ev d 103 1 L st μ Q = Ev d 103 2 L (.int (iI 0) :: st) μ Q := e_iconst (by decide +kernel : decode (bOf 103) 1 = .ok (.iconst 0, 1))
theorem x_103_2 (h : kd t r = 5) : Ev d 103 2 L (.int x :: .ref r :: st) (t, V, A, P) Q = Ev d 103 5 L st (t, up1 V r (up1 (V r) 0 (.int x)), A, P) Q := e_putf (by decide +kernel : decode (bOf 103) 2 = .ok (.putfield 59, 3)) (by decide +kernel) (by decide +kernel) rfl h
theorem x_103_5 : Ev d 103 5 (a0 :: .int x :: L) st μ Q = Ev d 103 6 (a0 :: .int x :: L) (.int x :: st) μ Q := e_iload_n (by decide +kernel : decode (bOf 103) 5 = .ok (.iload_n 1, 1)) rfl
theorem x_103_6 : Ev d 103 6 L st μ Q = Ev d 103 7 L (.int (iI 0) :: st) μ Q := e_iconst (by decide +kernel : decode (bOf 103) 6 = .ok (.iconst 0, 1))
theorem x_103_7 : Ev d 103 7 L st μ Q = Ev d 103 9 L (.int (iI 33) :: st) μ Q := e_bipush (by decide +kernel : decode (bOf 103) 7 = .ok (.bipush 33, 2)) (by decide +kernel)
theorem x_103_9 : Ev d 103 9 L [b2, b1, b0] μ Q = Call d 81 [b0, b1, b2] μ (fun v μ1 => Ev d 103 12 L (v.toList ++ []) μ1 Q) := e_callS (a := [b0, b1, b2]) (r := []) (by decide +kernel : decode (bOf 103) 9 = .ok (.invokestatic 85, 3)) (by decide +kernel) (by decide +kernel) (by omega) rfl (by simp)
theorem x_103_12 : Ev d 103 12 L (.int x :: st) μ Q = if x = iI 0 then Ev d 103 32 L st μ Q else Ev d 103 15 L st μ Q := e_if_eq (by decide +kernel : decode (bOf 103) 12 = .ok (.ifCond .eq 20, 3)) (by omega)
theorem x_103_15 : Ev d 103 15 (a0 :: a1 :: .int x :: L) st μ Q = Ev d 103 16 (a0 :: a1 :: .int x :: L) (.int x :: st) μ Q := e_iload_n (by decide +kernel : decode (bOf 103) 15 = .ok (.iload_n 2, 1)) rfl
theorem x_103_16 : Ev d 103 16 L st μ Q = Ev d 103 17 L (.int (iI 0) :: st) μ Q := e_iconst (by decide +kernel : decode (bOf 103) 16 = .ok (.iconst 0, 1))
theorem x_103_17 : Ev d 103 17 L st μ Q = Ev d 103 18 L (.int (iI 1) :: st) μ Q := e_iconst (by decide +kernel : decode (bOf 103) 17 = .ok (.iconst 1, 1))
theorem x_103_18 : Ev d 103 18 L [b2, b1, b0] μ Q = Call d 81 [b0, b1, b2] μ (fun v μ1 => Ev d 103 21 L (v.toList ++ []) μ1 Q) := e_callS (a := [b0, b1, b2]) (r := []) (by decide +kernel : decode (bOf 103) 18 = .ok (.invokestatic 85, 3)) (by decide +kernel) (by decide +kernel) (by omega) rfl (by simp)
theorem x_103_21 : Ev d 103 21 L (.int x :: st) μ Q = if x = iI 0 then Ev d 103 32 L st μ Q else Ev d 103 24 L st μ Q := e_if_eq (by decide +kernel : decode (bOf 103) 21 = .ok (.ifCond .eq 11, 3)) (by omega)
theorem x_103_24 : Ev d 103 24 (a0 :: .int x :: L) st μ Q = Ev d 103 25 (a0 :: .int x :: L) (.int x :: st) μ Q := e_iload_n (by decide +kernel : decode (bOf 103) 24 = .ok (.iload_n 1, 1)) rfl
theorem x_103_25 : Ev d 103 25 (a0 :: a1 :: .int x :: L) st μ Q = Ev d 103 26 (a0 :: a1 :: .int x :: L) (.int x :: st) μ Q := e_iload_n (by decide +kernel : decode (bOf 103) 25 = .ok (.iload_n 2, 1)) rfl
theorem x_103_26 : Ev d 103 26 L [b1, b0] μ Q = Call d 85 [b0, b1] μ (fun v μ1 => Ev d 103 29 L (v.toList ++ []) μ1 Q) := e_callS (a := [b0, b1]) (r := []) (by decide +kernel : decode (bOf 103) 26 = .ok (.invokestatic 79, 3)) (by decide +kernel) (by decide +kernel) (by omega) rfl (by simp)
theorem x_103_29 : Ev d 103 29 L st μ Q = Ev d 103 33 L st μ Q := e_goto (by decide +kernel : decode (bOf 103) 29 = .ok (.goto 4, 3)) (by omega)
theorem x_103_32 : Ev d 103 32 L st μ Q = Ev d 103 33 L (.int (iI (-1)) :: st) μ Q := e_iconst (by decide +kernel : decode (bOf 103) 32 = .ok (.iconst (-1), 1))
theorem x_103_33 : Ev d 103 33 L [.int x] μ Q = Q (some (.int x)) μ := e_iret (by decide +kernel : decode (bOf 103) 33 = .ok (.ireturn, 1)) (by decide +kernel)
theorem c_104 : Call (d + 1) 104 [.ref r0, .int i1] μ Q = Ev d 104 0 [.ref r0, .int i1] [] μ Q := call_ev rfl rfl
theorem x_104_0 : Ev d 104 0 (.ref r :: L) st μ Q = Ev d 104 1 (.ref r :: L) (.ref r :: st) μ Q := e_aload_n (by decide +kernel : decode (bOf 104) 0 = .ok (.aload_n 0, 1)) rfl
theorem x_104_1 : Ev d 104 1 L st μ Q = Ev d 104 2 L (.int (iI 0) :: st) μ Q := e_iconst (by decide +kernel : decode (bOf 104) 1 = .ok (.iconst 0, 1))
theorem x_104_2 (h : kd t r = 5) : Ev d 104 2 L (.int x :: .ref r :: st) (t, V, A, P) Q = Ev d 104 5 L st (t, up1 V r (up1 (V r) 0 (.int x)), A, P) Q := e_putf (by decide +kernel : decode (bOf 104) 2 = .ok (.putfield 59, 3)) (by decide +kernel) (by decide +kernel) rfl h
theorem x_104_5 : Ev d 104 5 (.ref r :: L) st μ Q = Ev d 104 6 (.ref r :: L) (.ref r :: st) μ Q := e_aload_n (by decide +kernel : decode (bOf 104) 5 = .ok (.aload_n 0, 1)) rfl
theorem x_104_6 : Ev d 104 6 (a0 :: .int x :: L) st μ Q = Ev d 104 7 (a0 :: .int x :: L) (.int x :: st) μ Q := e_iload_n (by decide +kernel : decode (bOf 104) 6 = .ok (.iload_n 1, 1)) rfl
theorem x_104_7 (h : kd t r = 5) : Ev d 104 7 L [b0, .ref r] (t, V, A, P) Q = Call d 99 [.ref r, b0] (t, V, A, P) (fun v μ1 => Ev d 104 10 L (v.toList ++ []) μ1 Q) := e_callV (a := [b0]) (r := []) (by decide +kernel : decode (bOf 104) 7 = .ok (.invokevirtual 133, 3)) (by decide +kernel) (by decide +kernel) (by decide +kernel) (by omega) rfl (by simp) (by decide +kernel) h
theorem x_104_10 : Ev d 104 10 L (.int x :: st) μ Q = if x = iI 0 then Ev d 104 25 L st μ Q else Ev d 104 13 L st μ Q := e_if_eq (by decide +kernel : decode (bOf 104) 10 = .ok (.ifCond .eq 15, 3)) (by omega)
theorem x_104_13 : Ev d 104 13 (.ref r :: L) st μ Q = Ev d 104 14 (.ref r :: L) (.ref r :: st) μ Q := e_aload_n (by decide +kernel : decode (bOf 104) 13 = .ok (.aload_n 0, 1)) rfl
theorem x_104_14 (h : kd t r = 5) : Ev d 104 14 L (.ref r :: st) (t, V, A, P) Q = Ev d 104 17 L (V r 1 :: st) (t, V, A, P) Q := e_getf (by decide +kernel : decode (bOf 104) 14 = .ok (.getfield 7, 3)) (by decide +kernel) (by decide +kernel) h
theorem x_104_17 : Ev d 104 17 L st μ Q = Ev d 104 19 L (.int (iI 36) :: st) μ Q := e_bipush (by decide +kernel : decode (bOf 104) 17 = .ok (.bipush 36, 2)) (by decide +kernel)
theorem x_104_19 : Ev d 104 19 (a0 :: .int x :: L) st μ Q = Ev d 104 20 (a0 :: .int x :: L) (.int x :: st) μ Q := e_iload_n (by decide +kernel : decode (bOf 104) 19 = .ok (.iload_n 1, 1)) rfl
theorem x_104_20 : Ev d 104 20 L (.int y :: .int x :: st) μ Q = Ev d 104 21 L (.int (x + y) :: st) μ Q := e_iadd (by decide +kernel : decode (bOf 104) 20 = .ok (.iadd, 1))
theorem x_104_21 (h : kd t r = 6) (hi : inB x (ln t r) = true) : Ev d 104 21 L (.int x :: .ref r :: st) (t, V, A, P) Q = Ev d 104 22 L (.int (A r x.toNatClampNeg) :: st) (t, V, A, P) Q := e_iald (by decide +kernel : decode (bOf 104) 21 = .ok (.iaload, 1)) h hi
theorem x_104_22 : Ev d 104 22 L st μ Q = Ev d 104 26 L st μ Q := e_goto (by decide +kernel : decode (bOf 104) 22 = .ok (.goto 4, 3)) (by omega)
theorem x_104_25 : Ev d 104 25 L st μ Q = Ev d 104 26 L (.int (iI (-1)) :: st) μ Q := e_iconst (by decide +kernel : decode (bOf 104) 25 = .ok (.iconst (-1), 1))
theorem x_104_26 : Ev d 104 26 L [.int x] μ Q = Q (some (.int x)) μ := e_iret (by decide +kernel : decode (bOf 104) 26 = .ok (.ireturn, 1)) (by decide +kernel)
end Xd
