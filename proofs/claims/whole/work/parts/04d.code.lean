section Xd
variable {d : Nat} {L st : List Value} {μ : mM} {Q : Option Value → mM → Prop} {t : mL} {V : Nat → Nat → Value} {A : Nat → Nat → Int32} {P : Nat → Nat → Option Nat} {N S : Nat} {K : Nat → Nat × Nat}
variable {a0 a1 a2 a3 a4 a5 a6 a7 a8 a9 a10 a11 a12 b0 b1 b2 b3 s0 s1 s2 s3 : Value} {x y i0 i1 i2 i3 i4 : Int32} {w z : Int64} {r q r0 r1 r2 : Nat}
theorem c_77 : Call (d + 1) 77 [.ref r0] μ Q = Ev d 77 0 [.ref r0] [] μ Q := call_ev rfl rfl
theorem x_77_0 : Ev d 77 0 (.ref r :: L) st μ Q = Ev d 77 1 (.ref r :: L) (.ref r :: st) μ Q := e_aload_n (by decide +kernel : decode (bOf 77) 0 = .ok (.aload_n 0, 1)) rfl
theorem x_77_1 : Ev d 77 1 L [.ref r] μ Q = Ev d 77 4 L [] μ Q := e_obj (by decide +kernel : decode (bOf 77) 1 = .ok (.invokespecial 1, 3)) (by decide +kernel) (by decide +kernel) (by simp)
theorem x_77_4 : Ev d 77 4 (.ref r :: L) st μ Q = Ev d 77 5 (.ref r :: L) (.ref r :: st) μ Q := e_aload_n (by decide +kernel : decode (bOf 77) 4 = .ok (.aload_n 0, 1)) rfl
theorem x_77_5 : Ev d 77 5 L st μ Q = Ev d 77 8 L (.int (iI 228) :: st) μ Q := e_sipush (by decide +kernel : decode (bOf 77) 5 = .ok (.sipush 228, 3)) (by decide +kernel)
theorem x_77_8 : Ev d 77 8 L (.int (iI 228) :: st) ((N, S, K), V, A, P) Q = Ev d 77 10 L (.ref N :: st) ((N + 1, S + 228, up1 K N (6, 228)), V, up1 A N (fun _ => 0), P) Q := e_newi 228 (by decide +kernel : decode (bOf 77) 8 = .ok (.newarray .int, 2)) (by decide +kernel) (by decide +kernel)
theorem x_77_10 (h : kd t r = 5) : Ev d 77 10 L (.ref q :: .ref r :: st) (t, V, A, P) Q = Ev d 77 13 L st (t, up1 V r (up1 (V r) 1 (.ref q)), A, P) Q := e_putf (by decide +kernel : decode (bOf 77) 10 = .ok (.putfield 7, 3)) (by decide +kernel) (by decide +kernel) rfl h
theorem x_77_13 : Ev d 77 13 (.ref r :: L) st μ Q = Ev d 77 14 (.ref r :: L) (.ref r :: st) μ Q := e_aload_n (by decide +kernel : decode (bOf 77) 13 = .ok (.aload_n 0, 1)) rfl
theorem x_77_14 : Ev d 77 14 L st μ Q = Ev d 77 17 L (.int (iI 1368) :: st) μ Q := e_sipush (by decide +kernel : decode (bOf 77) 14 = .ok (.sipush 1368, 3)) (by decide +kernel)
theorem x_77_17 : Ev d 77 17 L (.int (iI 1368) :: st) ((N, S, K), V, A, P) Q = Ev d 77 19 L (.ref N :: st) ((N + 1, S + 1368, up1 K N (6, 1368)), V, up1 A N (fun _ => 0), P) Q := e_newi 1368 (by decide +kernel : decode (bOf 77) 17 = .ok (.newarray .int, 2)) (by decide +kernel) (by decide +kernel)
theorem x_77_19 (h : kd t r = 5) : Ev d 77 19 L (.ref q :: .ref r :: st) (t, V, A, P) Q = Ev d 77 22 L st (t, up1 V r (up1 (V r) 2 (.ref q)), A, P) Q := e_putf (by decide +kernel : decode (bOf 77) 19 = .ok (.putfield 13, 3)) (by decide +kernel) (by decide +kernel) rfl h
theorem x_77_22 : Ev d 77 22 (.ref r :: L) st μ Q = Ev d 77 23 (.ref r :: L) (.ref r :: st) μ Q := e_aload_n (by decide +kernel : decode (bOf 77) 22 = .ok (.aload_n 0, 1)) rfl
theorem x_77_23 : Ev d 77 23 L st μ Q = Ev d 77 26 L (.int (iI 456) :: st) μ Q := e_sipush (by decide +kernel : decode (bOf 77) 23 = .ok (.sipush 456, 3)) (by decide +kernel)
theorem x_77_26 : Ev d 77 26 L (.int (iI 456) :: st) ((N, S, K), V, A, P) Q = Ev d 77 28 L (.ref N :: st) ((N + 1, S + 456, up1 K N (6, 456)), V, up1 A N (fun _ => 0), P) Q := e_newi 456 (by decide +kernel : decode (bOf 77) 26 = .ok (.newarray .int, 2)) (by decide +kernel) (by decide +kernel)
theorem x_77_28 (h : kd t r = 5) : Ev d 77 28 L (.ref q :: .ref r :: st) (t, V, A, P) Q = Ev d 77 31 L st (t, up1 V r (up1 (V r) 4 (.ref q)), A, P) Q := e_putf (by decide +kernel : decode (bOf 77) 28 = .ok (.putfield 16, 3)) (by decide +kernel) (by decide +kernel) rfl h
theorem x_77_31 : Ev d 77 31 (.ref r :: L) st μ Q = Ev d 77 32 (.ref r :: L) (.ref r :: st) μ Q := e_aload_n (by decide +kernel : decode (bOf 77) 31 = .ok (.aload_n 0, 1)) rfl
theorem x_77_32 : Ev d 77 32 L st μ Q = Ev d 77 33 L (.int (iI 2) :: st) μ Q := e_iconst (by decide +kernel : decode (bOf 77) 32 = .ok (.iconst 2, 1))
theorem x_77_33 : Ev d 77 33 L (.int (iI 2) :: st) ((N, S, K), V, A, P) Q = Ev d 77 35 L (.ref N :: st) ((N + 1, S + 2, up1 K N (7, 2)), V, up1 A N (fun _ => 0), P) Q := e_newz 2 (by decide +kernel : decode (bOf 77) 33 = .ok (.newarray .boolean, 2)) (by decide +kernel) (by decide +kernel)
theorem x_77_35 (h : kd t r = 5) : Ev d 77 35 L (.ref q :: .ref r :: st) (t, V, A, P) Q = Ev d 77 38 L st (t, up1 V r (up1 (V r) 5 (.ref q)), A, P) Q := e_putf (by decide +kernel : decode (bOf 77) 35 = .ok (.putfield 19, 3)) (by decide +kernel) (by decide +kernel) rfl h
theorem x_77_38 : Ev d 77 38 (.ref r :: L) st μ Q = Ev d 77 39 (.ref r :: L) (.ref r :: st) μ Q := e_aload_n (by decide +kernel : decode (bOf 77) 38 = .ok (.aload_n 0, 1)) rfl
theorem x_77_39 : Ev d 77 39 L st μ Q = Ev d 77 41 L (.int (iI 120) :: st) μ Q := e_bipush (by decide +kernel : decode (bOf 77) 39 = .ok (.bipush 120, 2)) (by decide +kernel)
theorem x_77_41 : Ev d 77 41 L (.int (iI 120) :: st) ((N, S, K), V, A, P) Q = Ev d 77 43 L (.ref N :: st) ((N + 1, S + 120, up1 K N (6, 120)), V, up1 A N (fun _ => 0), P) Q := e_newi 120 (by decide +kernel : decode (bOf 77) 41 = .ok (.newarray .int, 2)) (by decide +kernel) (by decide +kernel)
theorem x_77_43 (h : kd t r = 5) : Ev d 77 43 L (.ref q :: .ref r :: st) (t, V, A, P) Q = Ev d 77 46 L st (t, up1 V r (up1 (V r) 6 (.ref q)), A, P) Q := e_putf (by decide +kernel : decode (bOf 77) 43 = .ok (.putfield 23, 3)) (by decide +kernel) (by decide +kernel) rfl h
theorem x_77_46 : Ev d 77 46 (.ref r :: L) st μ Q = Ev d 77 47 (.ref r :: L) (.ref r :: st) μ Q := e_aload_n (by decide +kernel : decode (bOf 77) 46 = .ok (.aload_n 0, 1)) rfl
theorem x_77_47 : Ev d 77 47 L st μ Q = Ev d 77 49 L (.int (iI 60) :: st) μ Q := e_bipush (by decide +kernel : decode (bOf 77) 47 = .ok (.bipush 60, 2)) (by decide +kernel)
theorem x_77_49 : Ev d 77 49 L (.int (iI 60) :: st) ((N, S, K), V, A, P) Q = Ev d 77 51 L (.ref N :: st) ((N + 1, S + 60, up1 K N (6, 60)), V, up1 A N (fun _ => 0), P) Q := e_newi 60 (by decide +kernel : decode (bOf 77) 49 = .ok (.newarray .int, 2)) (by decide +kernel) (by decide +kernel)
theorem x_77_51 (h : kd t r = 5) : Ev d 77 51 L (.ref q :: .ref r :: st) (t, V, A, P) Q = Ev d 77 54 L st (t, up1 V r (up1 (V r) 8 (.ref q)), A, P) Q := e_putf (by decide +kernel : decode (bOf 77) 51 = .ok (.putfield 26, 3)) (by decide +kernel) (by decide +kernel) rfl h
theorem x_77_54 : Ev d 77 54 (.ref r :: L) st μ Q = Ev d 77 55 (.ref r :: L) (.ref r :: st) μ Q := e_aload_n (by decide +kernel : decode (bOf 77) 54 = .ok (.aload_n 0, 1)) rfl
theorem x_77_55 : Ev d 77 55 L st μ Q = Ev d 77 57 L (.int (iI 64) :: st) μ Q := e_bipush (by decide +kernel : decode (bOf 77) 55 = .ok (.bipush 64, 2)) (by decide +kernel)
theorem x_77_57 : Ev d 77 57 L (.int (iI 64) :: st) ((N, S, K), V, A, P) Q = Ev d 77 59 L (.ref N :: st) ((N + 1, S + 64, up1 K N (6, 64)), V, up1 A N (fun _ => 0), P) Q := e_newi 64 (by decide +kernel : decode (bOf 77) 57 = .ok (.newarray .int, 2)) (by decide +kernel) (by decide +kernel)
theorem x_77_59 (h : kd t r = 5) : Ev d 77 59 L (.ref q :: .ref r :: st) (t, V, A, P) Q = Ev d 77 62 L st (t, up1 V r (up1 (V r) 10 (.ref q)), A, P) Q := e_putf (by decide +kernel : decode (bOf 77) 59 = .ok (.putfield 29, 3)) (by decide +kernel) (by decide +kernel) rfl h
theorem x_77_62 : Ev d 77 62 (.ref r :: L) st μ Q = Ev d 77 63 (.ref r :: L) (.ref r :: st) μ Q := e_aload_n (by decide +kernel : decode (bOf 77) 62 = .ok (.aload_n 0, 1)) rfl
theorem x_77_63 : Ev d 77 63 L st μ Q = Ev d 77 65 L (.int (iI 64) :: st) μ Q := e_bipush (by decide +kernel : decode (bOf 77) 63 = .ok (.bipush 64, 2)) (by decide +kernel)
theorem x_77_65 : Ev d 77 65 L (.int (iI 64) :: st) ((N, S, K), V, A, P) Q = Ev d 77 67 L (.ref N :: st) ((N + 1, S + 64, up1 K N (6, 64)), V, up1 A N (fun _ => 0), P) Q := e_newi 64 (by decide +kernel : decode (bOf 77) 65 = .ok (.newarray .int, 2)) (by decide +kernel) (by decide +kernel)
theorem x_77_67 (h : kd t r = 5) : Ev d 77 67 L (.ref q :: .ref r :: st) (t, V, A, P) Q = Ev d 77 70 L st (t, up1 V r (up1 (V r) 11 (.ref q)), A, P) Q := e_putf (by decide +kernel : decode (bOf 77) 67 = .ok (.putfield 32, 3)) (by decide +kernel) (by decide +kernel) rfl h
theorem x_77_70 : Ev d 77 70 (.ref r :: L) st μ Q = Ev d 77 71 (.ref r :: L) (.ref r :: st) μ Q := e_aload_n (by decide +kernel : decode (bOf 77) 70 = .ok (.aload_n 0, 1)) rfl
theorem x_77_71 : Ev d 77 71 L st μ Q = Ev d 77 73 L (.int (iI 32) :: st) μ Q := e_bipush (by decide +kernel : decode (bOf 77) 71 = .ok (.bipush 32, 2)) (by decide +kernel)
theorem x_77_73 : Ev d 77 73 L (.int (iI 32) :: st) ((N, S, K), V, A, P) Q = Ev d 77 75 L (.ref N :: st) ((N + 1, S + 32, up1 K N (6, 32)), V, up1 A N (fun _ => 0), P) Q := e_newi 32 (by decide +kernel : decode (bOf 77) 73 = .ok (.newarray .int, 2)) (by decide +kernel) (by decide +kernel)
theorem x_77_75 (h : kd t r = 5) : Ev d 77 75 L (.ref q :: .ref r :: st) (t, V, A, P) Q = Ev d 77 78 L st (t, up1 V r (up1 (V r) 19 (.ref q)), A, P) Q := e_putf (by decide +kernel : decode (bOf 77) 75 = .ok (.putfield 35, 3)) (by decide +kernel) (by decide +kernel) rfl h
theorem x_77_78 : Ev d 77 78 (.ref r :: L) st μ Q = Ev d 77 79 (.ref r :: L) (.ref r :: st) μ Q := e_aload_n (by decide +kernel : decode (bOf 77) 78 = .ok (.aload_n 0, 1)) rfl
theorem x_77_79 : Ev d 77 79 L st μ Q = Ev d 77 81 L (.int (iI 32) :: st) μ Q := e_bipush (by decide +kernel : decode (bOf 77) 79 = .ok (.bipush 32, 2)) (by decide +kernel)
theorem x_77_81 : Ev d 77 81 L (.int (iI 32) :: st) ((N, S, K), V, A, P) Q = Ev d 77 83 L (.ref N :: st) ((N + 1, S + 32, up1 K N (6, 32)), V, up1 A N (fun _ => 0), P) Q := e_newi 32 (by decide +kernel : decode (bOf 77) 81 = .ok (.newarray .int, 2)) (by decide +kernel) (by decide +kernel)
theorem x_77_83 (h : kd t r = 5) : Ev d 77 83 L (.ref q :: .ref r :: st) (t, V, A, P) Q = Ev d 77 86 L st (t, up1 V r (up1 (V r) 20 (.ref q)), A, P) Q := e_putf (by decide +kernel : decode (bOf 77) 83 = .ok (.putfield 38, 3)) (by decide +kernel) (by decide +kernel) rfl h
theorem x_77_86 : Ev d 77 86 (.ref r :: L) st μ Q = Ev d 77 87 (.ref r :: L) (.ref r :: st) μ Q := e_aload_n (by decide +kernel : decode (bOf 77) 86 = .ok (.aload_n 0, 1)) rfl
theorem x_77_87 : Ev d 77 87 L st μ Q = Ev d 77 89 L (.int (iI 32) :: st) μ Q := e_bipush (by decide +kernel : decode (bOf 77) 87 = .ok (.bipush 32, 2)) (by decide +kernel)
theorem x_77_89 : Ev d 77 89 L (.int (iI 32) :: st) ((N, S, K), V, A, P) Q = Ev d 77 91 L (.ref N :: st) ((N + 1, S + 32, up1 K N (6, 32)), V, up1 A N (fun _ => 0), P) Q := e_newi 32 (by decide +kernel : decode (bOf 77) 89 = .ok (.newarray .int, 2)) (by decide +kernel) (by decide +kernel)
theorem x_77_91 (h : kd t r = 5) : Ev d 77 91 L (.ref q :: .ref r :: st) (t, V, A, P) Q = Ev d 77 94 L st (t, up1 V r (up1 (V r) 21 (.ref q)), A, P) Q := e_putf (by decide +kernel : decode (bOf 77) 91 = .ok (.putfield 41, 3)) (by decide +kernel) (by decide +kernel) rfl h
theorem x_77_94 : Ev d 77 94 (.ref r :: L) st μ Q = Ev d 77 95 (.ref r :: L) (.ref r :: st) μ Q := e_aload_n (by decide +kernel : decode (bOf 77) 94 = .ok (.aload_n 0, 1)) rfl
theorem x_77_95 : Ev d 77 95 L st μ Q = Ev d 77 97 L (.int (iI 32) :: st) μ Q := e_bipush (by decide +kernel : decode (bOf 77) 95 = .ok (.bipush 32, 2)) (by decide +kernel)
theorem x_77_97 : Ev d 77 97 L (.int (iI 32) :: st) ((N, S, K), V, A, P) Q = Ev d 77 99 L (.ref N :: st) ((N + 1, S + 32, up1 K N (6, 32)), V, up1 A N (fun _ => 0), P) Q := e_newi 32 (by decide +kernel : decode (bOf 77) 97 = .ok (.newarray .int, 2)) (by decide +kernel) (by decide +kernel)
theorem x_77_99 (h : kd t r = 5) : Ev d 77 99 L (.ref q :: .ref r :: st) (t, V, A, P) Q = Ev d 77 102 L st (t, up1 V r (up1 (V r) 22 (.ref q)), A, P) Q := e_putf (by decide +kernel : decode (bOf 77) 99 = .ok (.putfield 44, 3)) (by decide +kernel) (by decide +kernel) rfl h
theorem x_77_102 : Ev d 77 102 (.ref r :: L) st μ Q = Ev d 77 103 (.ref r :: L) (.ref r :: st) μ Q := e_aload_n (by decide +kernel : decode (bOf 77) 102 = .ok (.aload_n 0, 1)) rfl
theorem x_77_103 : Ev d 77 103 L st μ Q = Ev d 77 106 L (.int (iI 192) :: st) μ Q := e_sipush (by decide +kernel : decode (bOf 77) 103 = .ok (.sipush 192, 3)) (by decide +kernel)
theorem x_77_106 : Ev d 77 106 L (.int (iI 192) :: st) ((N, S, K), V, A, P) Q = Ev d 77 108 L (.ref N :: st) ((N + 1, S + 192, up1 K N (6, 192)), V, up1 A N (fun _ => 0), P) Q := e_newi 192 (by decide +kernel : decode (bOf 77) 106 = .ok (.newarray .int, 2)) (by decide +kernel) (by decide +kernel)
theorem x_77_108 (h : kd t r = 5) : Ev d 77 108 L (.ref q :: .ref r :: st) (t, V, A, P) Q = Ev d 77 111 L st (t, up1 V r (up1 (V r) 25 (.ref q)), A, P) Q := e_putf (by decide +kernel : decode (bOf 77) 108 = .ok (.putfield 47, 3)) (by decide +kernel) (by decide +kernel) rfl h
theorem x_77_111 : Ev d 77 111 (.ref r :: L) st μ Q = Ev d 77 112 (.ref r :: L) (.ref r :: st) μ Q := e_aload_n (by decide +kernel : decode (bOf 77) 111 = .ok (.aload_n 0, 1)) rfl
theorem x_77_112 : Ev d 77 112 L st μ Q = Ev d 77 114 L (.int (iI 6) :: st) μ Q := e_bipush (by decide +kernel : decode (bOf 77) 112 = .ok (.bipush 6, 2)) (by decide +kernel)
theorem x_77_114 : Ev d 77 114 L (.int (iI 6) :: st) ((N, S, K), V, A, P) Q = Ev d 77 116 L (.ref N :: st) ((N + 1, S + 6, up1 K N (6, 6)), V, up1 A N (fun _ => 0), P) Q := e_newi 6 (by decide +kernel : decode (bOf 77) 114 = .ok (.newarray .int, 2)) (by decide +kernel) (by decide +kernel)
theorem x_77_116 (h : kd t r = 5) : Ev d 77 116 L (.ref q :: .ref r :: st) (t, V, A, P) Q = Ev d 77 119 L st (t, up1 V r (up1 (V r) 30 (.ref q)), A, P) Q := e_putf (by decide +kernel : decode (bOf 77) 116 = .ok (.putfield 50, 3)) (by decide +kernel) (by decide +kernel) rfl h
theorem x_77_119 : Ev d 77 119 (.ref r :: L) st μ Q = Ev d 77 120 (.ref r :: L) (.ref r :: st) μ Q := e_aload_n (by decide +kernel : decode (bOf 77) 119 = .ok (.aload_n 0, 1)) rfl
theorem x_77_120 : Ev d 77 120 L st μ Q = Ev d 77 122 L (.int (iI 6) :: st) μ Q := e_bipush (by decide +kernel : decode (bOf 77) 120 = .ok (.bipush 6, 2)) (by decide +kernel)
theorem x_77_122 : Ev d 77 122 L (.int (iI 6) :: st) ((N, S, K), V, A, P) Q = Ev d 77 124 L (.ref N :: st) ((N + 1, S + 6, up1 K N (6, 6)), V, up1 A N (fun _ => 0), P) Q := e_newi 6 (by decide +kernel : decode (bOf 77) 122 = .ok (.newarray .int, 2)) (by decide +kernel) (by decide +kernel)
theorem x_77_124 (h : kd t r = 5) : Ev d 77 124 L (.ref q :: .ref r :: st) (t, V, A, P) Q = Ev d 77 127 L st (t, up1 V r (up1 (V r) 31 (.ref q)), A, P) Q := e_putf (by decide +kernel : decode (bOf 77) 124 = .ok (.putfield 53, 3)) (by decide +kernel) (by decide +kernel) rfl h
theorem x_77_127 : Ev d 77 127 (.ref r :: L) st μ Q = Ev d 77 128 (.ref r :: L) (.ref r :: st) μ Q := e_aload_n (by decide +kernel : decode (bOf 77) 127 = .ok (.aload_n 0, 1)) rfl
theorem x_77_128 (h : kd t r = 5) : Ev d 77 128 L [.ref r] (t, V, A, P) Q = Call d 78 [.ref r] (t, V, A, P) (fun v μ1 => Ev d 77 131 L (v.toList ++ []) μ1 Q) := e_callV (a := []) (r := []) (by decide +kernel : decode (bOf 77) 128 = .ok (.invokevirtual 56, 3)) (by decide +kernel) (by decide +kernel) (by decide +kernel) (by omega) rfl (by simp) (by decide +kernel) h
theorem x_77_131 : Ev d 77 131 L [] μ Q = Q none μ := e_ret (by decide +kernel : decode (bOf 77) 131 = .ok (.return_, 1)) (by decide +kernel)
theorem c_78 : Call (d + 1) 78 [.ref r0] μ Q = Ev d 78 0 [.ref r0, .null] [] μ Q := call_ev rfl rfl
theorem x_78_0 : Ev d 78 0 L st μ Q = Ev d 78 1 L (.int (iI 0) :: st) μ Q := e_iconst (by decide +kernel : decode (bOf 78) 0 = .ok (.iconst 0, 1))
theorem x_78_1 (h : a0.category = 1) : Ev d 78 1 (a0 :: a1 :: L) (.int x :: st) μ Q = Ev d 78 2 (a0 :: .int x :: L) st μ Q := e_istore_n (by decide +kernel : decode (bOf 78) 1 = .ok (.istore_n 1, 1)) (by show stOK _ 1 = true; simp [stOK, h])
theorem x_78_2 : Ev d 78 2 (a0 :: .int x :: L) st μ Q = Ev d 78 3 (a0 :: .int x :: L) (.int x :: st) μ Q := e_iload_n (by decide +kernel : decode (bOf 78) 2 = .ok (.iload_n 1, 1)) rfl
theorem x_78_3 : Ev d 78 3 L st μ Q = Ev d 78 6 L (.int (iI 228) :: st) μ Q := e_sipush (by decide +kernel : decode (bOf 78) 3 = .ok (.sipush 228, 3)) (by decide +kernel)
theorem x_78_6 : Ev d 78 6 L (.int y :: .int x :: st) μ Q = if x < y then Ev d 78 9 L st μ Q else Ev d 78 22 L st μ Q := e_icmp_ge (by decide +kernel : decode (bOf 78) 6 = .ok (.if_icmp .ge 16, 3)) (by omega)
theorem x_78_9 : Ev d 78 9 (.ref r :: L) st μ Q = Ev d 78 10 (.ref r :: L) (.ref r :: st) μ Q := e_aload_n (by decide +kernel : decode (bOf 78) 9 = .ok (.aload_n 0, 1)) rfl
theorem x_78_10 (h : kd t r = 5) : Ev d 78 10 L (.ref r :: st) (t, V, A, P) Q = Ev d 78 13 L (V r 1 :: st) (t, V, A, P) Q := e_getf (by decide +kernel : decode (bOf 78) 10 = .ok (.getfield 7, 3)) (by decide +kernel) (by decide +kernel) h
theorem x_78_13 : Ev d 78 13 (a0 :: .int x :: L) st μ Q = Ev d 78 14 (a0 :: .int x :: L) (.int x :: st) μ Q := e_iload_n (by decide +kernel : decode (bOf 78) 13 = .ok (.iload_n 1, 1)) rfl
theorem x_78_14 : Ev d 78 14 L st μ Q = Ev d 78 15 L (.int (iI 0) :: st) μ Q := e_iconst (by decide +kernel : decode (bOf 78) 14 = .ok (.iconst 0, 1))
theorem x_78_15 (h : kd t r = 6) (hi : inB x (ln t r) = true) : Ev d 78 15 L (.int y :: .int x :: .ref r :: st) (t, V, A, P) Q = Ev d 78 16 L st (t, V, up1 A r (upd (A r) x.toNatClampNeg y), P) Q := e_iast (by decide +kernel : decode (bOf 78) 15 = .ok (.iastore, 1)) h hi
theorem x_78_16 (h : a0.category = 1) : Ev d 78 16 (a0 :: .int x :: L) st μ Q = Ev d 78 19 (a0 :: .int (x + (iI 1)) :: L) st μ Q := e_iinc (by decide +kernel : decode (bOf 78) 16 = .ok (.iinc 1 1, 3)) rfl (by simp [stOK, h])
theorem x_78_19 : Ev d 78 19 L st μ Q = Ev d 78 2 L st μ Q := e_goto (by decide +kernel : decode (bOf 78) 19 = .ok (.goto (-17), 3)) (by omega)
theorem x_78_22 : Ev d 78 22 (.ref r :: L) st μ Q = Ev d 78 23 (.ref r :: L) (.ref r :: st) μ Q := e_aload_n (by decide +kernel : decode (bOf 78) 22 = .ok (.aload_n 0, 1)) rfl
theorem x_78_23 (h : kd t r = 5) : Ev d 78 23 L (.ref r :: st) (t, V, A, P) Q = Ev d 78 26 L (V r 1 :: st) (t, V, A, P) Q := e_getf (by decide +kernel : decode (bOf 78) 23 = .ok (.getfield 7, 3)) (by decide +kernel) (by decide +kernel) h
theorem x_78_26 : Ev d 78 26 L st μ Q = Ev d 78 27 L (.int (iI 1) :: st) μ Q := e_iconst (by decide +kernel : decode (bOf 78) 26 = .ok (.iconst 1, 1))
theorem x_78_27 : Ev d 78 27 L st μ Q = Ev d 78 28 L (.int (iI (-1)) :: st) μ Q := e_iconst (by decide +kernel : decode (bOf 78) 27 = .ok (.iconst (-1), 1))
theorem x_78_28 (h : kd t r = 6) (hi : inB x (ln t r) = true) : Ev d 78 28 L (.int y :: .int x :: .ref r :: st) (t, V, A, P) Q = Ev d 78 29 L st (t, V, up1 A r (upd (A r) x.toNatClampNeg y), P) Q := e_iast (by decide +kernel : decode (bOf 78) 28 = .ok (.iastore, 1)) h hi
theorem x_78_29 : Ev d 78 29 (.ref r :: L) st μ Q = Ev d 78 30 (.ref r :: L) (.ref r :: st) μ Q := e_aload_n (by decide +kernel : decode (bOf 78) 29 = .ok (.aload_n 0, 1)) rfl
theorem x_78_30 (h : kd t r = 5) : Ev d 78 30 L (.ref r :: st) (t, V, A, P) Q = Ev d 78 33 L (V r 1 :: st) (t, V, A, P) Q := e_getf (by decide +kernel : decode (bOf 78) 30 = .ok (.getfield 7, 3)) (by decide +kernel) (by decide +kernel) h
theorem x_78_33 : Ev d 78 33 L st μ Q = Ev d 78 34 L (.int (iI 2) :: st) μ Q := e_iconst (by decide +kernel : decode (bOf 78) 33 = .ok (.iconst 2, 1))
theorem x_78_34 : Ev d 78 34 L st μ Q = Ev d 78 36 L (.int (iI (-9)) :: st) μ Q := e_bipush (by decide +kernel : decode (bOf 78) 34 = .ok (.bipush (-9), 2)) (by decide +kernel)
theorem x_78_36 (h : kd t r = 6) (hi : inB x (ln t r) = true) : Ev d 78 36 L (.int y :: .int x :: .ref r :: st) (t, V, A, P) Q = Ev d 78 37 L st (t, V, up1 A r (upd (A r) x.toNatClampNeg y), P) Q := e_iast (by decide +kernel : decode (bOf 78) 36 = .ok (.iastore, 1)) h hi
theorem x_78_37 : Ev d 78 37 (.ref r :: L) st μ Q = Ev d 78 38 (.ref r :: L) (.ref r :: st) μ Q := e_aload_n (by decide +kernel : decode (bOf 78) 37 = .ok (.aload_n 0, 1)) rfl
theorem x_78_38 (h : kd t r = 5) : Ev d 78 38 L (.ref r :: st) (t, V, A, P) Q = Ev d 78 41 L (V r 1 :: st) (t, V, A, P) Q := e_getf (by decide +kernel : decode (bOf 78) 38 = .ok (.getfield 7, 3)) (by decide +kernel) (by decide +kernel) h
theorem x_78_41 : Ev d 78 41 L st μ Q = Ev d 78 42 L (.int (iI 3) :: st) μ Q := e_iconst (by decide +kernel : decode (bOf 78) 41 = .ok (.iconst 3, 1))
theorem x_78_42 : Ev d 78 42 L st μ Q = Ev d 78 44 L (.int (iI (-9)) :: st) μ Q := e_bipush (by decide +kernel : decode (bOf 78) 42 = .ok (.bipush (-9), 2)) (by decide +kernel)
theorem x_78_44 (h : kd t r = 6) (hi : inB x (ln t r) = true) : Ev d 78 44 L (.int y :: .int x :: .ref r :: st) (t, V, A, P) Q = Ev d 78 45 L st (t, V, up1 A r (upd (A r) x.toNatClampNeg y), P) Q := e_iast (by decide +kernel : decode (bOf 78) 44 = .ok (.iastore, 1)) h hi
theorem x_78_45 : Ev d 78 45 L [] μ Q = Q none μ := e_ret (by decide +kernel : decode (bOf 78) 45 = .ok (.return_, 1)) (by decide +kernel)
theorem c_79 : Call (d + 1) 79 [.int i0, .int i1, .int i2] μ Q = Ev d 79 0 [.int i0, .int i1, .int i2] [] μ Q := call_ev rfl rfl
theorem x_79_0 : Ev d 79 0 (.int x :: L) st μ Q = Ev d 79 1 (.int x :: L) (.int x :: st) μ Q := e_iload_n (by decide +kernel : decode (bOf 79) 0 = .ok (.iload_n 0, 1)) rfl
theorem x_79_1 : Ev d 79 1 (a0 :: .int x :: L) st μ Q = Ev d 79 2 (a0 :: .int x :: L) (.int x :: st) μ Q := e_iload_n (by decide +kernel : decode (bOf 79) 1 = .ok (.iload_n 1, 1)) rfl
theorem x_79_2 : Ev d 79 2 L (.int y :: .int x :: st) μ Q = if x < y then Ev d 79 14 L st μ Q else Ev d 79 5 L st μ Q := e_icmp_lt (by decide +kernel : decode (bOf 79) 2 = .ok (.if_icmp .lt 12, 3)) (by omega)
theorem x_79_5 : Ev d 79 5 (.int x :: L) st μ Q = Ev d 79 6 (.int x :: L) (.int x :: st) μ Q := e_iload_n (by decide +kernel : decode (bOf 79) 5 = .ok (.iload_n 0, 1)) rfl
theorem x_79_6 : Ev d 79 6 (a0 :: a1 :: .int x :: L) st μ Q = Ev d 79 7 (a0 :: a1 :: .int x :: L) (.int x :: st) μ Q := e_iload_n (by decide +kernel : decode (bOf 79) 6 = .ok (.iload_n 2, 1)) rfl
theorem x_79_7 : Ev d 79 7 L (.int y :: .int x :: st) μ Q = if y < x then Ev d 79 14 L st μ Q else Ev d 79 10 L st μ Q := e_icmp_gt (by decide +kernel : decode (bOf 79) 7 = .ok (.if_icmp .gt 7, 3)) (by omega)
theorem x_79_10 : Ev d 79 10 L st μ Q = Ev d 79 11 L (.int (iI 1) :: st) μ Q := e_iconst (by decide +kernel : decode (bOf 79) 10 = .ok (.iconst 1, 1))
theorem x_79_11 : Ev d 79 11 L st μ Q = Ev d 79 15 L st μ Q := e_goto (by decide +kernel : decode (bOf 79) 11 = .ok (.goto 4, 3)) (by omega)
theorem x_79_14 : Ev d 79 14 L st μ Q = Ev d 79 15 L (.int (iI 0) :: st) μ Q := e_iconst (by decide +kernel : decode (bOf 79) 14 = .ok (.iconst 0, 1))
theorem x_79_15 (hx : isB x) : Ev d 79 15 L [.int x] μ Q = Q (some (.int x)) μ := e_zret (by decide +kernel : decode (bOf 79) 15 = .ok (.ireturn, 1)) (by decide +kernel) hx
theorem c_80 : Call (d + 1) 80 [.int i0] μ Q = Ev d 80 0 [.int i0, .null, .null] [] μ Q := call_ev rfl rfl
theorem x_80_0 : Ev d 80 0 L st μ Q = Ev d 80 1 L (.int (iI 0) :: st) μ Q := e_iconst (by decide +kernel : decode (bOf 80) 0 = .ok (.iconst 0, 1))
theorem x_80_1 (h : a0.category = 1) : Ev d 80 1 (a0 :: a1 :: L) (.int x :: st) μ Q = Ev d 80 2 (a0 :: .int x :: L) st μ Q := e_istore_n (by decide +kernel : decode (bOf 80) 1 = .ok (.istore_n 1, 1)) (by show stOK _ 1 = true; simp [stOK, h])
theorem x_80_2 : Ev d 80 2 L st μ Q = Ev d 80 3 L (.int (iI 0) :: st) μ Q := e_iconst (by decide +kernel : decode (bOf 80) 2 = .ok (.iconst 0, 1))
theorem x_80_3 (h : a1.category = 1) : Ev d 80 3 (a0 :: a1 :: a2 :: L) (.int x :: st) μ Q = Ev d 80 4 (a0 :: a1 :: .int x :: L) st μ Q := e_istore_n (by decide +kernel : decode (bOf 80) 3 = .ok (.istore_n 2, 1)) (by show stOK _ 2 = true; simp [stOK, h])
theorem x_80_4 : Ev d 80 4 (a0 :: a1 :: .int x :: L) st μ Q = Ev d 80 5 (a0 :: a1 :: .int x :: L) (.int x :: st) μ Q := e_iload_n (by decide +kernel : decode (bOf 80) 4 = .ok (.iload_n 2, 1)) rfl
theorem x_80_5 : Ev d 80 5 L st μ Q = Ev d 80 7 L (.int (iI 6) :: st) μ Q := e_bipush (by decide +kernel : decode (bOf 80) 5 = .ok (.bipush 6, 2)) (by decide +kernel)
theorem x_80_7 : Ev d 80 7 L (.int y :: .int x :: st) μ Q = if x < y then Ev d 80 10 L st μ Q else Ev d 80 24 L st μ Q := e_icmp_ge (by decide +kernel : decode (bOf 80) 7 = .ok (.if_icmp .ge 17, 3)) (by omega)
theorem x_80_10 : Ev d 80 10 (a0 :: .int x :: L) st μ Q = Ev d 80 11 (a0 :: .int x :: L) (.int x :: st) μ Q := e_iload_n (by decide +kernel : decode (bOf 80) 10 = .ok (.iload_n 1, 1)) rfl
theorem x_80_11 : Ev d 80 11 (.int x :: L) st μ Q = Ev d 80 12 (.int x :: L) (.int x :: st) μ Q := e_iload_n (by decide +kernel : decode (bOf 80) 11 = .ok (.iload_n 0, 1)) rfl
theorem x_80_12 : Ev d 80 12 (a0 :: a1 :: .int x :: L) st μ Q = Ev d 80 13 (a0 :: a1 :: .int x :: L) (.int x :: st) μ Q := e_iload_n (by decide +kernel : decode (bOf 80) 12 = .ok (.iload_n 2, 1)) rfl
theorem x_80_13 : Ev d 80 13 L (.int y :: .int x :: st) μ Q = Ev d 80 14 L (.int (x >>> (y &&& 31)) :: st) μ Q := e_ishr (by decide +kernel : decode (bOf 80) 13 = .ok (.ishr, 1))
theorem x_80_14 : Ev d 80 14 L st μ Q = Ev d 80 15 L (.int (iI 1) :: st) μ Q := e_iconst (by decide +kernel : decode (bOf 80) 14 = .ok (.iconst 1, 1))
theorem x_80_15 : Ev d 80 15 L (.int y :: .int x :: st) μ Q = Ev d 80 16 L (.int (x &&& y) :: st) μ Q := e_iand (by decide +kernel : decode (bOf 80) 15 = .ok (.iand, 1))
theorem x_80_16 : Ev d 80 16 L (.int y :: .int x :: st) μ Q = Ev d 80 17 L (.int (x + y) :: st) μ Q := e_iadd (by decide +kernel : decode (bOf 80) 16 = .ok (.iadd, 1))
theorem x_80_17 (h : a0.category = 1) : Ev d 80 17 (a0 :: a1 :: L) (.int x :: st) μ Q = Ev d 80 18 (a0 :: .int x :: L) st μ Q := e_istore_n (by decide +kernel : decode (bOf 80) 17 = .ok (.istore_n 1, 1)) (by show stOK _ 1 = true; simp [stOK, h])
theorem x_80_18 (h : a1.category = 1) : Ev d 80 18 (a0 :: a1 :: .int x :: L) st μ Q = Ev d 80 21 (a0 :: a1 :: .int (x + (iI 1)) :: L) st μ Q := e_iinc (by decide +kernel : decode (bOf 80) 18 = .ok (.iinc 2 1, 3)) rfl (by simp [stOK, h])
theorem x_80_21 : Ev d 80 21 L st μ Q = Ev d 80 4 L st μ Q := e_goto (by decide +kernel : decode (bOf 80) 21 = .ok (.goto (-17), 3)) (by omega)
theorem x_80_24 : Ev d 80 24 (a0 :: .int x :: L) st μ Q = Ev d 80 25 (a0 :: .int x :: L) (.int x :: st) μ Q := e_iload_n (by decide +kernel : decode (bOf 80) 24 = .ok (.iload_n 1, 1)) rfl
theorem x_80_25 : Ev d 80 25 L [.int x] μ Q = Q (some (.int x)) μ := e_iret (by decide +kernel : decode (bOf 80) 25 = .ok (.ireturn, 1)) (by decide +kernel)
theorem c_81 : Call (d + 1) 81 [.int i0] μ Q = Ev d 81 0 [.int i0] [] μ Q := call_ev rfl rfl
theorem x_81_0 : Ev d 81 0 (.int x :: L) st μ Q = Ev d 81 1 (.int x :: L) (.int x :: st) μ Q := e_iload_n (by decide +kernel : decode (bOf 81) 0 = .ok (.iload_n 0, 1)) rfl
theorem x_81_1 : Ev d 81 1 L st μ Q = Ev d 81 3 L (.int (iI 15) :: st) μ Q := e_bipush (by decide +kernel : decode (bOf 81) 1 = .ok (.bipush 15, 2)) (by decide +kernel)
theorem x_81_3 : Ev d 81 3 L (.int y :: .int x :: st) μ Q = if x = y then Ev d 81 18 L st μ Q else Ev d 81 6 L st μ Q := e_icmp_eq (by decide +kernel : decode (bOf 81) 3 = .ok (.if_icmp .eq 15, 3)) (by omega)
theorem x_81_6 : Ev d 81 6 (.int x :: L) st μ Q = Ev d 81 7 (.int x :: L) (.int x :: st) μ Q := e_iload_n (by decide +kernel : decode (bOf 81) 6 = .ok (.iload_n 0, 1)) rfl
theorem x_81_7 : Ev d 81 7 L st μ Q = Ev d 81 9 L (.int (iI 30) :: st) μ Q := e_bipush (by decide +kernel : decode (bOf 81) 7 = .ok (.bipush 30, 2)) (by decide +kernel)
theorem x_81_9 : Ev d 81 9 L (.int y :: .int x :: st) μ Q = if x = y then Ev d 81 18 L st μ Q else Ev d 81 12 L st μ Q := e_icmp_eq (by decide +kernel : decode (bOf 81) 9 = .ok (.if_icmp .eq 9, 3)) (by omega)
theorem x_81_12 : Ev d 81 12 (.int x :: L) st μ Q = Ev d 81 13 (.int x :: L) (.int x :: st) μ Q := e_iload_n (by decide +kernel : decode (bOf 81) 12 = .ok (.iload_n 0, 1)) rfl
theorem x_81_13 : Ev d 81 13 L st μ Q = Ev d 81 15 L (.int (iI 60) :: st) μ Q := e_bipush (by decide +kernel : decode (bOf 81) 13 = .ok (.bipush 60, 2)) (by decide +kernel)
theorem x_81_15 : Ev d 81 15 L (.int y :: .int x :: st) μ Q = if x = y then Ev d 81 18 L st μ Q else Ev d 81 22 L st μ Q := e_icmp_ne (by decide +kernel : decode (bOf 81) 15 = .ok (.if_icmp .ne 7, 3)) (by omega)
theorem x_81_18 : Ev d 81 18 L st μ Q = Ev d 81 19 L (.int (iI 1) :: st) μ Q := e_iconst (by decide +kernel : decode (bOf 81) 18 = .ok (.iconst 1, 1))
theorem x_81_19 : Ev d 81 19 L st μ Q = Ev d 81 23 L st μ Q := e_goto (by decide +kernel : decode (bOf 81) 19 = .ok (.goto 4, 3)) (by omega)
theorem x_81_22 : Ev d 81 22 L st μ Q = Ev d 81 23 L (.int (iI 0) :: st) μ Q := e_iconst (by decide +kernel : decode (bOf 81) 22 = .ok (.iconst 0, 1))
theorem x_81_23 (hx : isB x) : Ev d 81 23 L [.int x] μ Q = Q (some (.int x)) μ := e_zret (by decide +kernel : decode (bOf 81) 23 = .ok (.ireturn, 1)) (by decide +kernel) hx
theorem c_82 : Call (d + 1) 82 [.int i0, .int i1] μ Q = Ev d 82 0 [.int i0, .int i1, .null, .null, .null] [] μ Q := call_ev rfl rfl
theorem x_82_0 : Ev d 82 0 (.int x :: L) st μ Q = Ev d 82 1 (.int x :: L) (.int x :: st) μ Q := e_iload_n (by decide +kernel : decode (bOf 82) 0 = .ok (.iload_n 0, 1)) rfl
theorem x_82_1 (h : a1.category = 1) : Ev d 82 1 (a0 :: a1 :: a2 :: L) (.int x :: st) μ Q = Ev d 82 2 (a0 :: a1 :: .int x :: L) st μ Q := e_istore_n (by decide +kernel : decode (bOf 82) 1 = .ok (.istore_n 2, 1)) (by show stOK _ 2 = true; simp [stOK, h])
theorem x_82_2 : Ev d 82 2 L st μ Q = Ev d 82 3 L (.int (iI 0) :: st) μ Q := e_iconst (by decide +kernel : decode (bOf 82) 2 = .ok (.iconst 0, 1))
theorem x_82_3 (h : a2.category = 1) : Ev d 82 3 (a0 :: a1 :: a2 :: a3 :: L) (.int x :: st) μ Q = Ev d 82 4 (a0 :: a1 :: a2 :: .int x :: L) st μ Q := e_istore_n (by decide +kernel : decode (bOf 82) 3 = .ok (.istore_n 3, 1)) (by show stOK _ 3 = true; simp [stOK, h])
theorem x_82_4 : Ev d 82 4 L st μ Q = Ev d 82 5 L (.int (iI 0) :: st) μ Q := e_iconst (by decide +kernel : decode (bOf 82) 4 = .ok (.iconst 0, 1))
theorem x_82_5 (h : a3.category = 1) : Ev d 82 5 (a0 :: a1 :: a2 :: a3 :: a4 :: L) (.int x :: st) μ Q = Ev d 82 7 (a0 :: a1 :: a2 :: a3 :: .int x :: L) st μ Q := e_istore (by decide +kernel : decode (bOf 82) 5 = .ok (.istore 4, 2)) (by show stOK _ 4 = true; simp [stOK, h])
theorem x_82_7 : Ev d 82 7 (a0 :: a1 :: a2 :: a3 :: .int x :: L) st μ Q = Ev d 82 9 (a0 :: a1 :: a2 :: a3 :: .int x :: L) (.int x :: st) μ Q := e_iload (by decide +kernel : decode (bOf 82) 7 = .ok (.iload 4, 2)) rfl
theorem x_82_9 : Ev d 82 9 L (.int x :: st) μ Q = if x = iI 0 then Ev d 82 16 L st μ Q else Ev d 82 12 L st μ Q := e_if_eq (by decide +kernel : decode (bOf 82) 9 = .ok (.ifCond .eq 7, 3)) (by omega)
theorem x_82_12 : Ev d 82 12 (a0 :: a1 :: .int x :: L) st μ Q = Ev d 82 13 (a0 :: a1 :: .int x :: L) (.int x :: st) μ Q := e_iload_n (by decide +kernel : decode (bOf 82) 12 = .ok (.iload_n 2, 1)) rfl
theorem x_82_13 : Ev d 82 13 L (.int x :: st) μ Q = if iI 0 < x then Ev d 82 16 L st μ Q else Ev d 82 100 L st μ Q := e_if_le (by decide +kernel : decode (bOf 82) 13 = .ok (.ifCond .le 87, 3)) (by omega)
theorem x_82_16 : Ev d 82 16 (a0 :: a1 :: a2 :: .int x :: L) st μ Q = Ev d 82 17 (a0 :: a1 :: a2 :: .int x :: L) (.int x :: st) μ Q := e_iload_n (by decide +kernel : decode (bOf 82) 16 = .ok (.iload_n 3, 1)) rfl
theorem x_82_17 : Ev d 82 17 (a0 :: a1 :: a2 :: a3 :: .int x :: L) st μ Q = Ev d 82 19 (a0 :: a1 :: a2 :: a3 :: .int x :: L) (.int x :: st) μ Q := e_iload (by decide +kernel : decode (bOf 82) 17 = .ok (.iload 4, 2)) rfl
theorem x_82_19 : Ev d 82 19 L (.int x :: st) μ Q = if x = iI 0 then Ev d 82 26 L st μ Q else Ev d 82 22 L st μ Q := e_if_eq (by decide +kernel : decode (bOf 82) 19 = .ok (.ifCond .eq 7, 3)) (by omega)
theorem x_82_22 : Ev d 82 22 L st μ Q = Ev d 82 23 L (.int (iI 1) :: st) μ Q := e_iconst (by decide +kernel : decode (bOf 82) 22 = .ok (.iconst 1, 1))
theorem x_82_23 : Ev d 82 23 L st μ Q = Ev d 82 27 L st μ Q := e_goto (by decide +kernel : decode (bOf 82) 23 = .ok (.goto 4, 3)) (by omega)
theorem x_82_26 : Ev d 82 26 L st μ Q = Ev d 82 27 L (.int (iI 0) :: st) μ Q := e_iconst (by decide +kernel : decode (bOf 82) 26 = .ok (.iconst 0, 1))
theorem x_82_27 : Ev d 82 27 L (.int y :: .int x :: st) μ Q = Ev d 82 28 L (.int (x + y) :: st) μ Q := e_iadd (by decide +kernel : decode (bOf 82) 27 = .ok (.iadd, 1))
theorem x_82_28 (h : a2.category = 1) : Ev d 82 28 (a0 :: a1 :: a2 :: a3 :: L) (.int x :: st) μ Q = Ev d 82 29 (a0 :: a1 :: a2 :: .int x :: L) st μ Q := e_istore_n (by decide +kernel : decode (bOf 82) 28 = .ok (.istore_n 3, 1)) (by show stOK _ 3 = true; simp [stOK, h])
theorem x_82_29 : Ev d 82 29 (a0 :: a1 :: .int x :: L) st μ Q = Ev d 82 30 (a0 :: a1 :: .int x :: L) (.int x :: st) μ Q := e_iload_n (by decide +kernel : decode (bOf 82) 29 = .ok (.iload_n 2, 1)) rfl
theorem x_82_30 : Ev d 82 30 (a0 :: a1 :: a2 :: a3 :: .int x :: L) st μ Q = Ev d 82 32 (a0 :: a1 :: a2 :: a3 :: .int x :: L) (.int x :: st) μ Q := e_iload (by decide +kernel : decode (bOf 82) 30 = .ok (.iload 4, 2)) rfl
theorem x_82_32 : Ev d 82 32 L (.int x :: st) μ Q = if x = iI 0 then Ev d 82 39 L st μ Q else Ev d 82 35 L st μ Q := e_if_eq (by decide +kernel : decode (bOf 82) 32 = .ok (.ifCond .eq 7, 3)) (by omega)
theorem x_82_35 : Ev d 82 35 L st μ Q = Ev d 82 36 L (.int (iI 1) :: st) μ Q := e_iconst (by decide +kernel : decode (bOf 82) 35 = .ok (.iconst 1, 1))
theorem x_82_36 : Ev d 82 36 L st μ Q = Ev d 82 40 L st μ Q := e_goto (by decide +kernel : decode (bOf 82) 36 = .ok (.goto 4, 3)) (by omega)
theorem x_82_39 : Ev d 82 39 L st μ Q = Ev d 82 40 L (.int (iI 0) :: st) μ Q := e_iconst (by decide +kernel : decode (bOf 82) 39 = .ok (.iconst 0, 1))
theorem x_82_40 : Ev d 82 40 L (.int y :: .int x :: st) μ Q = Ev d 82 41 L (.int (x - y) :: st) μ Q := e_isub (by decide +kernel : decode (bOf 82) 40 = .ok (.isub, 1))
theorem x_82_41 (h : a1.category = 1) : Ev d 82 41 (a0 :: a1 :: a2 :: L) (.int x :: st) μ Q = Ev d 82 42 (a0 :: a1 :: .int x :: L) st μ Q := e_istore_n (by decide +kernel : decode (bOf 82) 41 = .ok (.istore_n 2, 1)) (by show stOK _ 2 = true; simp [stOK, h])
theorem x_82_42 : Ev d 82 42 L st μ Q = Ev d 82 43 L (.int (iI 0) :: st) μ Q := e_iconst (by decide +kernel : decode (bOf 82) 42 = .ok (.iconst 0, 1))
theorem x_82_43 (h : a3.category = 1) : Ev d 82 43 (a0 :: a1 :: a2 :: a3 :: a4 :: L) (.int x :: st) μ Q = Ev d 82 45 (a0 :: a1 :: a2 :: a3 :: .int x :: L) st μ Q := e_istore (by decide +kernel : decode (bOf 82) 43 = .ok (.istore 4, 2)) (by show stOK _ 4 = true; simp [stOK, h])
theorem x_82_45 : Ev d 82 45 (a0 :: a1 :: a2 :: a3 :: .int x :: L) st μ Q = Ev d 82 47 (a0 :: a1 :: a2 :: a3 :: .int x :: L) (.int x :: st) μ Q := e_iload (by decide +kernel : decode (bOf 82) 45 = .ok (.iload 4, 2)) rfl
theorem x_82_47 : Ev d 82 47 L (.int x :: st) μ Q = if x = iI 0 then Ev d 82 50 L st μ Q else Ev d 82 7 L st μ Q := e_if_ne (by decide +kernel : decode (bOf 82) 47 = .ok (.ifCond .ne (-40), 3)) (by omega)
theorem x_82_50 : Ev d 82 50 (a0 :: a1 :: a2 :: .int x :: L) st μ Q = Ev d 82 51 (a0 :: a1 :: a2 :: .int x :: L) (.int x :: st) μ Q := e_iload_n (by decide +kernel : decode (bOf 82) 50 = .ok (.iload_n 3, 1)) rfl
theorem x_82_51 : Ev d 82 51 L [b0] μ Q = Call d 80 [b0] μ (fun v μ1 => Ev d 82 54 L (v.toList ++ []) μ1 Q) := e_callS (a := [b0]) (r := []) (by decide +kernel : decode (bOf 82) 51 = .ok (.invokestatic 63, 3)) (by decide +kernel) (by decide +kernel) (by omega) rfl (by simp)
theorem x_82_54 : Ev d 82 54 (a0 :: .int x :: L) st μ Q = Ev d 82 55 (a0 :: .int x :: L) (.int x :: st) μ Q := e_iload_n (by decide +kernel : decode (bOf 82) 54 = .ok (.iload_n 1, 1)) rfl
theorem x_82_55 : Ev d 82 55 L (.int y :: .int x :: st) μ Q = if x = y then Ev d 82 58 L st μ Q else Ev d 82 81 L st μ Q := e_icmp_ne (by decide +kernel : decode (bOf 82) 55 = .ok (.if_icmp .ne 26, 3)) (by omega)
theorem x_82_58 : Ev d 82 58 (a0 :: a1 :: a2 :: .int x :: L) st μ Q = Ev d 82 59 (a0 :: a1 :: a2 :: .int x :: L) (.int x :: st) μ Q := e_iload_n (by decide +kernel : decode (bOf 82) 58 = .ok (.iload_n 3, 1)) rfl
theorem x_82_59 : Ev d 82 59 L [b0] μ Q = Call d 81 [b0] μ (fun v μ1 => Ev d 82 62 L (v.toList ++ []) μ1 Q) := e_callS (a := [b0]) (r := []) (by decide +kernel : decode (bOf 82) 59 = .ok (.invokestatic 67, 3)) (by decide +kernel) (by decide +kernel) (by omega) rfl (by simp)
theorem x_82_62 : Ev d 82 62 L (.int x :: st) μ Q = if x = iI 0 then Ev d 82 65 L st μ Q else Ev d 82 81 L st μ Q := e_if_ne (by decide +kernel : decode (bOf 82) 62 = .ok (.ifCond .ne 19, 3)) (by omega)
theorem x_82_65 : Ev d 82 65 (a0 :: a1 :: a2 :: .int x :: L) st μ Q = Ev d 82 66 (a0 :: a1 :: a2 :: .int x :: L) (.int x :: st) μ Q := e_iload_n (by decide +kernel : decode (bOf 82) 65 = .ok (.iload_n 3, 1)) rfl
theorem x_82_66 : Ev d 82 66 L st μ Q = Ev d 82 68 L (.int (iI 7) :: st) μ Q := e_bipush (by decide +kernel : decode (bOf 82) 66 = .ok (.bipush 7, 2)) (by decide +kernel)
theorem x_82_68 : Ev d 82 68 L (.int y :: .int x :: st) μ Q = if x = y then Ev d 82 81 L st μ Q else Ev d 82 71 L st μ Q := e_icmp_eq (by decide +kernel : decode (bOf 82) 68 = .ok (.if_icmp .eq 13, 3)) (by omega)
theorem x_82_71 : Ev d 82 71 (a0 :: a1 :: a2 :: .int x :: L) st μ Q = Ev d 82 72 (a0 :: a1 :: a2 :: .int x :: L) (.int x :: st) μ Q := e_iload_n (by decide +kernel : decode (bOf 82) 71 = .ok (.iload_n 3, 1)) rfl
theorem x_82_72 : Ev d 82 72 L st μ Q = Ev d 82 74 L (.int (iI 56) :: st) μ Q := e_bipush (by decide +kernel : decode (bOf 82) 72 = .ok (.bipush 56, 2)) (by decide +kernel)
theorem x_82_74 : Ev d 82 74 L (.int y :: .int x :: st) μ Q = if x = y then Ev d 82 81 L st μ Q else Ev d 82 77 L st μ Q := e_icmp_eq (by decide +kernel : decode (bOf 82) 74 = .ok (.if_icmp .eq 7, 3)) (by omega)
theorem x_82_77 : Ev d 82 77 L st μ Q = Ev d 82 78 L (.int (iI 1) :: st) μ Q := e_iconst (by decide +kernel : decode (bOf 82) 77 = .ok (.iconst 1, 1))
theorem x_82_78 : Ev d 82 78 L st μ Q = Ev d 82 82 L st μ Q := e_goto (by decide +kernel : decode (bOf 82) 78 = .ok (.goto 4, 3)) (by omega)
theorem x_82_81 : Ev d 82 81 L st μ Q = Ev d 82 82 L (.int (iI 0) :: st) μ Q := e_iconst (by decide +kernel : decode (bOf 82) 81 = .ok (.iconst 0, 1))
theorem x_82_82 (h : a3.category = 1) : Ev d 82 82 (a0 :: a1 :: a2 :: a3 :: a4 :: L) (.int x :: st) μ Q = Ev d 82 84 (a0 :: a1 :: a2 :: a3 :: .int x :: L) st μ Q := e_istore (by decide +kernel : decode (bOf 82) 82 = .ok (.istore 4, 2)) (by show stOK _ 4 = true; simp [stOK, h])
theorem x_82_84 : Ev d 82 84 (a0 :: a1 :: a2 :: .int x :: L) st μ Q = Ev d 82 85 (a0 :: a1 :: a2 :: .int x :: L) (.int x :: st) μ Q := e_iload_n (by decide +kernel : decode (bOf 82) 84 = .ok (.iload_n 3, 1)) rfl
theorem x_82_85 : Ev d 82 85 (a0 :: a1 :: a2 :: a3 :: .int x :: L) st μ Q = Ev d 82 87 (a0 :: a1 :: a2 :: a3 :: .int x :: L) (.int x :: st) μ Q := e_iload (by decide +kernel : decode (bOf 82) 85 = .ok (.iload 4, 2)) rfl
theorem x_82_87 : Ev d 82 87 L (.int x :: st) μ Q = if x = iI 0 then Ev d 82 94 L st μ Q else Ev d 82 90 L st μ Q := e_if_eq (by decide +kernel : decode (bOf 82) 87 = .ok (.ifCond .eq 7, 3)) (by omega)
theorem x_82_90 : Ev d 82 90 L st μ Q = Ev d 82 91 L (.int (iI 0) :: st) μ Q := e_iconst (by decide +kernel : decode (bOf 82) 90 = .ok (.iconst 0, 1))
theorem x_82_91 : Ev d 82 91 L st μ Q = Ev d 82 95 L st μ Q := e_goto (by decide +kernel : decode (bOf 82) 91 = .ok (.goto 4, 3)) (by omega)
theorem x_82_94 : Ev d 82 94 L st μ Q = Ev d 82 95 L (.int (iI 1) :: st) μ Q := e_iconst (by decide +kernel : decode (bOf 82) 94 = .ok (.iconst 1, 1))
theorem x_82_95 : Ev d 82 95 L (.int y :: .int x :: st) μ Q = Ev d 82 96 L (.int (x + y) :: st) μ Q := e_iadd (by decide +kernel : decode (bOf 82) 95 = .ok (.iadd, 1))
theorem x_82_96 (h : a2.category = 1) : Ev d 82 96 (a0 :: a1 :: a2 :: a3 :: L) (.int x :: st) μ Q = Ev d 82 97 (a0 :: a1 :: a2 :: .int x :: L) st μ Q := e_istore_n (by decide +kernel : decode (bOf 82) 96 = .ok (.istore_n 3, 1)) (by show stOK _ 3 = true; simp [stOK, h])
theorem x_82_97 : Ev d 82 97 L st μ Q = Ev d 82 45 L st μ Q := e_goto (by decide +kernel : decode (bOf 82) 97 = .ok (.goto (-52), 3)) (by omega)
theorem x_82_100 : Ev d 82 100 (a0 :: a1 :: a2 :: .int x :: L) st μ Q = Ev d 82 101 (a0 :: a1 :: a2 :: .int x :: L) (.int x :: st) μ Q := e_iload_n (by decide +kernel : decode (bOf 82) 100 = .ok (.iload_n 3, 1)) rfl
theorem x_82_101 : Ev d 82 101 L [.int x] μ Q = Q (some (.int x)) μ := e_iret (by decide +kernel : decode (bOf 82) 101 = .ok (.ireturn, 1)) (by decide +kernel)
theorem c_83 : Call (d + 1) 83 [.int i0, .int i1] μ Q = Ev d 83 0 [.int i0, .int i1, .null] [] μ Q := call_ev rfl rfl
theorem x_83_0 : Ev d 83 0 (.int x :: L) st μ Q = Ev d 83 1 (.int x :: L) (.int x :: st) μ Q := e_iload_n (by decide +kernel : decode (bOf 83) 0 = .ok (.iload_n 0, 1)) rfl
theorem x_83_1 : Ev d 83 1 L st μ Q = Ev d 83 3 L (.int (iI 18) :: st) μ Q := e_bipush (by decide +kernel : decode (bOf 83) 1 = .ok (.bipush 18, 2)) (by decide +kernel)
theorem x_83_3 : Ev d 83 3 L (.int y :: .int x :: st) μ Q = if x < y then Ev d 83 6 L st μ Q else Ev d 83 14 L st μ Q := e_icmp_ge (by decide +kernel : decode (bOf 83) 3 = .ok (.if_icmp .ge 11, 3)) (by omega)
theorem x_83_6 : Ev d 83 6 (.int x :: L) st μ Q = Ev d 83 7 (.int x :: L) (.int x :: st) μ Q := e_iload_n (by decide +kernel : decode (bOf 83) 6 = .ok (.iload_n 0, 1)) rfl
theorem x_83_7 : Ev d 83 7 L st μ Q = Ev d 83 8 L (.int (iI 3) :: st) μ Q := e_iconst (by decide +kernel : decode (bOf 83) 7 = .ok (.iconst 3, 1))
theorem x_83_8 : Ev d 83 8 L [b1, b0] μ Q = Call d 82 [b0, b1] μ (fun v μ1 => Ev d 83 11 L (v.toList ++ []) μ1 Q) := e_callS (a := [b0, b1]) (r := []) (by decide +kernel : decode (bOf 83) 8 = .ok (.invokestatic 71, 3)) (by decide +kernel) (by decide +kernel) (by omega) rfl (by simp)
theorem x_83_11 : Ev d 83 11 L st μ Q = Ev d 83 66 L st μ Q := e_goto (by decide +kernel : decode (bOf 83) 11 = .ok (.goto 55, 3)) (by omega)
theorem x_83_14 : Ev d 83 14 (.int x :: L) st μ Q = Ev d 83 15 (.int x :: L) (.int x :: st) μ Q := e_iload_n (by decide +kernel : decode (bOf 83) 14 = .ok (.iload_n 0, 1)) rfl
theorem x_83_15 : Ev d 83 15 L st μ Q = Ev d 83 17 L (.int (iI 30) :: st) μ Q := e_bipush (by decide +kernel : decode (bOf 83) 15 = .ok (.bipush 30, 2)) (by decide +kernel)
theorem x_83_17 : Ev d 83 17 L (.int y :: .int x :: st) μ Q = if x < y then Ev d 83 20 L st μ Q else Ev d 83 31 L st μ Q := e_icmp_ge (by decide +kernel : decode (bOf 83) 17 = .ok (.if_icmp .ge 14, 3)) (by omega)
theorem x_83_20 : Ev d 83 20 (.int x :: L) st μ Q = Ev d 83 21 (.int x :: L) (.int x :: st) μ Q := e_iload_n (by decide +kernel : decode (bOf 83) 20 = .ok (.iload_n 0, 1)) rfl
theorem x_83_21 : Ev d 83 21 L st μ Q = Ev d 83 23 L (.int (iI 18) :: st) μ Q := e_bipush (by decide +kernel : decode (bOf 83) 21 = .ok (.bipush 18, 2)) (by decide +kernel)
theorem x_83_23 : Ev d 83 23 L (.int y :: .int x :: st) μ Q = Ev d 83 24 L (.int (x - y) :: st) μ Q := e_isub (by decide +kernel : decode (bOf 83) 23 = .ok (.isub, 1))
theorem x_83_24 : Ev d 83 24 L st μ Q = Ev d 83 25 L (.int (iI 4) :: st) μ Q := e_iconst (by decide +kernel : decode (bOf 83) 24 = .ok (.iconst 4, 1))
theorem x_83_25 : Ev d 83 25 L [b1, b0] μ Q = Call d 82 [b0, b1] μ (fun v μ1 => Ev d 83 28 L (v.toList ++ []) μ1 Q) := e_callS (a := [b0, b1]) (r := []) (by decide +kernel : decode (bOf 83) 25 = .ok (.invokestatic 71, 3)) (by decide +kernel) (by decide +kernel) (by omega) rfl (by simp)
theorem x_83_28 : Ev d 83 28 L st μ Q = Ev d 83 66 L st μ Q := e_goto (by decide +kernel : decode (bOf 83) 28 = .ok (.goto 38, 3)) (by omega)
theorem x_83_31 : Ev d 83 31 (.int x :: L) st μ Q = Ev d 83 32 (.int x :: L) (.int x :: st) μ Q := e_iload_n (by decide +kernel : decode (bOf 83) 31 = .ok (.iload_n 0, 1)) rfl
theorem x_83_32 : Ev d 83 32 L st μ Q = Ev d 83 34 L (.int (iI 30) :: st) μ Q := e_bipush (by decide +kernel : decode (bOf 83) 32 = .ok (.bipush 30, 2)) (by decide +kernel)
theorem x_83_34 : Ev d 83 34 L (.int y :: .int x :: st) μ Q = if x = y then Ev d 83 37 L st μ Q else Ev d 83 42 L st μ Q := e_icmp_ne (by decide +kernel : decode (bOf 83) 34 = .ok (.if_icmp .ne 8, 3)) (by omega)
theorem x_83_37 : Ev d 83 37 L st μ Q = Ev d 83 39 L (.int (iI 56) :: st) μ Q := e_bipush (by decide +kernel : decode (bOf 83) 37 = .ok (.bipush 56, 2)) (by decide +kernel)
theorem x_83_39 : Ev d 83 39 L st μ Q = Ev d 83 66 L st μ Q := e_goto (by decide +kernel : decode (bOf 83) 39 = .ok (.goto 27, 3)) (by omega)
theorem x_83_42 : Ev d 83 42 (.int x :: L) st μ Q = Ev d 83 43 (.int x :: L) (.int x :: st) μ Q := e_iload_n (by decide +kernel : decode (bOf 83) 42 = .ok (.iload_n 0, 1)) rfl
theorem x_83_43 : Ev d 83 43 L st μ Q = Ev d 83 45 L (.int (iI 31) :: st) μ Q := e_bipush (by decide +kernel : decode (bOf 83) 43 = .ok (.bipush 31, 2)) (by decide +kernel)
theorem x_83_45 : Ev d 83 45 L (.int y :: .int x :: st) μ Q = if x = y then Ev d 83 48 L st μ Q else Ev d 83 53 L st μ Q := e_icmp_ne (by decide +kernel : decode (bOf 83) 45 = .ok (.if_icmp .ne 8, 3)) (by omega)
theorem x_83_48 : Ev d 83 48 L st μ Q = Ev d 83 50 L (.int (iI 15) :: st) μ Q := e_bipush (by decide +kernel : decode (bOf 83) 48 = .ok (.bipush 15, 2)) (by decide +kernel)
theorem x_83_50 : Ev d 83 50 L st μ Q = Ev d 83 66 L st μ Q := e_goto (by decide +kernel : decode (bOf 83) 50 = .ok (.goto 16, 3)) (by omega)
theorem x_83_53 : Ev d 83 53 (.int x :: L) st μ Q = Ev d 83 54 (.int x :: L) (.int x :: st) μ Q := e_iload_n (by decide +kernel : decode (bOf 83) 53 = .ok (.iload_n 0, 1)) rfl
theorem x_83_54 : Ev d 83 54 L st μ Q = Ev d 83 56 L (.int (iI 32) :: st) μ Q := e_bipush (by decide +kernel : decode (bOf 83) 54 = .ok (.bipush 32, 2)) (by decide +kernel)
theorem x_83_56 : Ev d 83 56 L (.int y :: .int x :: st) μ Q = if x = y then Ev d 83 59 L st μ Q else Ev d 83 64 L st μ Q := e_icmp_ne (by decide +kernel : decode (bOf 83) 56 = .ok (.if_icmp .ne 8, 3)) (by omega)
theorem x_83_59 : Ev d 83 59 L st μ Q = Ev d 83 61 L (.int (iI 30) :: st) μ Q := e_bipush (by decide +kernel : decode (bOf 83) 59 = .ok (.bipush 30, 2)) (by decide +kernel)
theorem x_83_61 : Ev d 83 61 L st μ Q = Ev d 83 66 L st μ Q := e_goto (by decide +kernel : decode (bOf 83) 61 = .ok (.goto 5, 3)) (by omega)
theorem x_83_64 : Ev d 83 64 L st μ Q = Ev d 83 66 L (.int (iI 60) :: st) μ Q := e_bipush (by decide +kernel : decode (bOf 83) 64 = .ok (.bipush 60, 2)) (by decide +kernel)
theorem x_83_66 (h : a1.category = 1) : Ev d 83 66 (a0 :: a1 :: a2 :: L) (.int x :: st) μ Q = Ev d 83 67 (a0 :: a1 :: .int x :: L) st μ Q := e_istore_n (by decide +kernel : decode (bOf 83) 66 = .ok (.istore_n 2, 1)) (by show stOK _ 2 = true; simp [stOK, h])
theorem x_83_67 : Ev d 83 67 (.int x :: L) st μ Q = Ev d 83 68 (.int x :: L) (.int x :: st) μ Q := e_iload_n (by decide +kernel : decode (bOf 83) 67 = .ok (.iload_n 0, 1)) rfl
theorem x_83_68 : Ev d 83 68 L st μ Q = Ev d 83 70 L (.int (iI 18) :: st) μ Q := e_bipush (by decide +kernel : decode (bOf 83) 68 = .ok (.bipush 18, 2)) (by decide +kernel)
theorem x_83_70 : Ev d 83 70 L (.int y :: .int x :: st) μ Q = if x < y then Ev d 83 77 L st μ Q else Ev d 83 73 L st μ Q := e_icmp_lt (by decide +kernel : decode (bOf 83) 70 = .ok (.if_icmp .lt 7, 3)) (by omega)
theorem x_83_73 : Ev d 83 73 (a0 :: .int x :: L) st μ Q = Ev d 83 74 (a0 :: .int x :: L) (.int x :: st) μ Q := e_iload_n (by decide +kernel : decode (bOf 83) 73 = .ok (.iload_n 1, 1)) rfl
theorem x_83_74 : Ev d 83 74 L (.int x :: st) μ Q = if x = iI 0 then Ev d 83 77 L st μ Q else Ev d 83 81 L st μ Q := e_if_ne (by decide +kernel : decode (bOf 83) 74 = .ok (.ifCond .ne 7, 3)) (by omega)
theorem x_83_77 : Ev d 83 77 (a0 :: a1 :: .int x :: L) st μ Q = Ev d 83 78 (a0 :: a1 :: .int x :: L) (.int x :: st) μ Q := e_iload_n (by decide +kernel : decode (bOf 83) 77 = .ok (.iload_n 2, 1)) rfl
theorem x_83_78 : Ev d 83 78 L st μ Q = Ev d 83 85 L st μ Q := e_goto (by decide +kernel : decode (bOf 83) 78 = .ok (.goto 7, 3)) (by omega)
theorem x_83_81 : Ev d 83 81 L st μ Q = Ev d 83 83 L (.int (iI 63) :: st) μ Q := e_bipush (by decide +kernel : decode (bOf 83) 81 = .ok (.bipush 63, 2)) (by decide +kernel)
theorem x_83_83 : Ev d 83 83 (a0 :: a1 :: .int x :: L) st μ Q = Ev d 83 84 (a0 :: a1 :: .int x :: L) (.int x :: st) μ Q := e_iload_n (by decide +kernel : decode (bOf 83) 83 = .ok (.iload_n 2, 1)) rfl
theorem x_83_84 : Ev d 83 84 L (.int y :: .int x :: st) μ Q = Ev d 83 85 L (.int (x - y) :: st) μ Q := e_isub (by decide +kernel : decode (bOf 83) 84 = .ok (.isub, 1))
theorem x_83_85 : Ev d 83 85 L [.int x] μ Q = Q (some (.int x)) μ := e_iret (by decide +kernel : decode (bOf 83) 85 = .ok (.ireturn, 1)) (by decide +kernel)
theorem c_84 : Call (d + 1) 84 [.ref r0] μ Q = Ev d 84 0 [.ref r0, .null, .null] [] μ Q := call_ev rfl rfl
theorem x_84_0 : Ev d 84 0 (.ref r :: L) st μ Q = Ev d 84 1 (.ref r :: L) (.ref r :: st) μ Q := e_aload_n (by decide +kernel : decode (bOf 84) 0 = .ok (.aload_n 0, 1)) rfl
theorem x_84_1 (h : kd t r = 5) : Ev d 84 1 L (.ref r :: st) (t, V, A, P) Q = Ev d 84 4 L (V r 12 :: st) (t, V, A, P) Q := e_getf (by decide +kernel : decode (bOf 84) 1 = .ok (.getfield 75, 3)) (by decide +kernel) (by decide +kernel) h
theorem x_84_4 : Ev d 84 4 L (.int x :: st) μ Q = if x = iI 0 then Ev d 84 8 L st μ Q else Ev d 84 7 L st μ Q := e_if_eq (by decide +kernel : decode (bOf 84) 4 = .ok (.ifCond .eq 4, 3)) (by omega)
theorem x_84_7 : Ev d 84 7 L [] μ Q = Q none μ := e_ret (by decide +kernel : decode (bOf 84) 7 = .ok (.return_, 1)) (by decide +kernel)
theorem x_84_8 : Ev d 84 8 L st μ Q = Ev d 84 9 L (.int (iI 0) :: st) μ Q := e_iconst (by decide +kernel : decode (bOf 84) 8 = .ok (.iconst 0, 1))
theorem x_84_9 (h : a0.category = 1) : Ev d 84 9 (a0 :: a1 :: L) (.int x :: st) μ Q = Ev d 84 10 (a0 :: .int x :: L) st μ Q := e_istore_n (by decide +kernel : decode (bOf 84) 9 = .ok (.istore_n 1, 1)) (by show stOK _ 1 = true; simp [stOK, h])
theorem x_84_10 : Ev d 84 10 (a0 :: .int x :: L) st μ Q = Ev d 84 11 (a0 :: .int x :: L) (.int x :: st) μ Q := e_iload_n (by decide +kernel : decode (bOf 84) 10 = .ok (.iload_n 1, 1)) rfl
theorem x_84_11 : Ev d 84 11 L st μ Q = Ev d 84 13 L (.int (iI 64) :: st) μ Q := e_bipush (by decide +kernel : decode (bOf 84) 11 = .ok (.bipush 64, 2)) (by decide +kernel)
theorem x_84_13 : Ev d 84 13 L (.int y :: .int x :: st) μ Q = if x < y then Ev d 84 16 L st μ Q else Ev d 84 37 L st μ Q := e_icmp_ge (by decide +kernel : decode (bOf 84) 13 = .ok (.if_icmp .ge 24, 3)) (by omega)
theorem x_84_16 : Ev d 84 16 (.ref r :: L) st μ Q = Ev d 84 17 (.ref r :: L) (.ref r :: st) μ Q := e_aload_n (by decide +kernel : decode (bOf 84) 16 = .ok (.aload_n 0, 1)) rfl
theorem x_84_17 (h : kd t r = 5) : Ev d 84 17 L (.ref r :: st) (t, V, A, P) Q = Ev d 84 20 L (V r 10 :: st) (t, V, A, P) Q := e_getf (by decide +kernel : decode (bOf 84) 17 = .ok (.getfield 29, 3)) (by decide +kernel) (by decide +kernel) h
theorem x_84_20 : Ev d 84 20 (a0 :: .int x :: L) st μ Q = Ev d 84 21 (a0 :: .int x :: L) (.int x :: st) μ Q := e_iload_n (by decide +kernel : decode (bOf 84) 20 = .ok (.iload_n 1, 1)) rfl
theorem x_84_21 : Ev d 84 21 L st μ Q = Ev d 84 23 L (.int (iI (-9)) :: st) μ Q := e_bipush (by decide +kernel : decode (bOf 84) 21 = .ok (.bipush (-9), 2)) (by decide +kernel)
theorem x_84_23 (h : kd t r = 6) (hi : inB x (ln t r) = true) : Ev d 84 23 L (.int y :: .int x :: .ref r :: st) (t, V, A, P) Q = Ev d 84 24 L st (t, V, up1 A r (upd (A r) x.toNatClampNeg y), P) Q := e_iast (by decide +kernel : decode (bOf 84) 23 = .ok (.iastore, 1)) h hi
theorem x_84_24 : Ev d 84 24 (.ref r :: L) st μ Q = Ev d 84 25 (.ref r :: L) (.ref r :: st) μ Q := e_aload_n (by decide +kernel : decode (bOf 84) 24 = .ok (.aload_n 0, 1)) rfl
theorem x_84_25 (h : kd t r = 5) : Ev d 84 25 L (.ref r :: st) (t, V, A, P) Q = Ev d 84 28 L (V r 11 :: st) (t, V, A, P) Q := e_getf (by decide +kernel : decode (bOf 84) 25 = .ok (.getfield 32, 3)) (by decide +kernel) (by decide +kernel) h
theorem x_84_28 : Ev d 84 28 (a0 :: .int x :: L) st μ Q = Ev d 84 29 (a0 :: .int x :: L) (.int x :: st) μ Q := e_iload_n (by decide +kernel : decode (bOf 84) 28 = .ok (.iload_n 1, 1)) rfl
theorem x_84_29 : Ev d 84 29 L st μ Q = Ev d 84 30 L (.int (iI 0) :: st) μ Q := e_iconst (by decide +kernel : decode (bOf 84) 29 = .ok (.iconst 0, 1))
theorem x_84_30 (h : kd t r = 6) (hi : inB x (ln t r) = true) : Ev d 84 30 L (.int y :: .int x :: .ref r :: st) (t, V, A, P) Q = Ev d 84 31 L st (t, V, up1 A r (upd (A r) x.toNatClampNeg y), P) Q := e_iast (by decide +kernel : decode (bOf 84) 30 = .ok (.iastore, 1)) h hi
theorem x_84_31 (h : a0.category = 1) : Ev d 84 31 (a0 :: .int x :: L) st μ Q = Ev d 84 34 (a0 :: .int (x + (iI 1)) :: L) st μ Q := e_iinc (by decide +kernel : decode (bOf 84) 31 = .ok (.iinc 1 1, 3)) rfl (by simp [stOK, h])
theorem x_84_34 : Ev d 84 34 L st μ Q = Ev d 84 10 L st μ Q := e_goto (by decide +kernel : decode (bOf 84) 34 = .ok (.goto (-24), 3)) (by omega)
theorem x_84_37 : Ev d 84 37 L st μ Q = Ev d 84 38 L (.int (iI 0) :: st) μ Q := e_iconst (by decide +kernel : decode (bOf 84) 37 = .ok (.iconst 0, 1))
theorem x_84_38 (h : a0.category = 1) : Ev d 84 38 (a0 :: a1 :: L) (.int x :: st) μ Q = Ev d 84 39 (a0 :: .int x :: L) st μ Q := e_istore_n (by decide +kernel : decode (bOf 84) 38 = .ok (.istore_n 1, 1)) (by show stOK _ 1 = true; simp [stOK, h])
theorem x_84_39 : Ev d 84 39 (a0 :: .int x :: L) st μ Q = Ev d 84 40 (a0 :: .int x :: L) (.int x :: st) μ Q := e_iload_n (by decide +kernel : decode (bOf 84) 39 = .ok (.iload_n 1, 1)) rfl
theorem x_84_40 : Ev d 84 40 L st μ Q = Ev d 84 42 L (.int (iI 34) :: st) μ Q := e_bipush (by decide +kernel : decode (bOf 84) 40 = .ok (.bipush 34, 2)) (by decide +kernel)
theorem x_84_42 : Ev d 84 42 L (.int y :: .int x :: st) μ Q = if x < y then Ev d 84 45 L st μ Q else Ev d 84 91 L st μ Q := e_icmp_ge (by decide +kernel : decode (bOf 84) 42 = .ok (.if_icmp .ge 49, 3)) (by omega)
theorem x_84_45 : Ev d 84 45 L st μ Q = Ev d 84 46 L (.int (iI 0) :: st) μ Q := e_iconst (by decide +kernel : decode (bOf 84) 45 = .ok (.iconst 0, 1))
theorem x_84_46 (h : a1.category = 1) : Ev d 84 46 (a0 :: a1 :: a2 :: L) (.int x :: st) μ Q = Ev d 84 47 (a0 :: a1 :: .int x :: L) st μ Q := e_istore_n (by decide +kernel : decode (bOf 84) 46 = .ok (.istore_n 2, 1)) (by show stOK _ 2 = true; simp [stOK, h])
theorem x_84_47 : Ev d 84 47 (a0 :: a1 :: .int x :: L) st μ Q = Ev d 84 48 (a0 :: a1 :: .int x :: L) (.int x :: st) μ Q := e_iload_n (by decide +kernel : decode (bOf 84) 47 = .ok (.iload_n 2, 1)) rfl
theorem x_84_48 : Ev d 84 48 L st μ Q = Ev d 84 49 L (.int (iI 2) :: st) μ Q := e_iconst (by decide +kernel : decode (bOf 84) 48 = .ok (.iconst 2, 1))
theorem x_84_49 : Ev d 84 49 L (.int y :: .int x :: st) μ Q = if x < y then Ev d 84 52 L st μ Q else Ev d 84 85 L st μ Q := e_icmp_ge (by decide +kernel : decode (bOf 84) 49 = .ok (.if_icmp .ge 36, 3)) (by omega)
theorem x_84_52 : Ev d 84 52 (.ref r :: L) st μ Q = Ev d 84 53 (.ref r :: L) (.ref r :: st) μ Q := e_aload_n (by decide +kernel : decode (bOf 84) 52 = .ok (.aload_n 0, 1)) rfl
theorem x_84_53 (h : kd t r = 5) : Ev d 84 53 L (.ref r :: st) (t, V, A, P) Q = Ev d 84 56 L (V r 10 :: st) (t, V, A, P) Q := e_getf (by decide +kernel : decode (bOf 84) 53 = .ok (.getfield 29, 3)) (by decide +kernel) (by decide +kernel) h
theorem x_84_56 : Ev d 84 56 (a0 :: .int x :: L) st μ Q = Ev d 84 57 (a0 :: .int x :: L) (.int x :: st) μ Q := e_iload_n (by decide +kernel : decode (bOf 84) 56 = .ok (.iload_n 1, 1)) rfl
theorem x_84_57 : Ev d 84 57 (a0 :: a1 :: .int x :: L) st μ Q = Ev d 84 58 (a0 :: a1 :: .int x :: L) (.int x :: st) μ Q := e_iload_n (by decide +kernel : decode (bOf 84) 57 = .ok (.iload_n 2, 1)) rfl
theorem x_84_58 : Ev d 84 58 L [b1, b0, s0] μ Q = Call d 83 [b0, b1] μ (fun v μ1 => Ev d 84 61 L (v.toList ++ [s0]) μ1 Q) := e_callS (a := [b0, b1]) (r := [s0]) (by decide +kernel : decode (bOf 84) 58 = .ok (.invokestatic 79, 3)) (by decide +kernel) (by decide +kernel) (by omega) rfl (by simp)
theorem x_84_61 : Ev d 84 61 (a0 :: .int x :: L) st μ Q = Ev d 84 62 (a0 :: .int x :: L) (.int x :: st) μ Q := e_iload_n (by decide +kernel : decode (bOf 84) 61 = .ok (.iload_n 1, 1)) rfl
theorem x_84_62 (h : kd t r = 6) (hi : inB x (ln t r) = true) : Ev d 84 62 L (.int y :: .int x :: .ref r :: st) (t, V, A, P) Q = Ev d 84 63 L st (t, V, up1 A r (upd (A r) x.toNatClampNeg y), P) Q := e_iast (by decide +kernel : decode (bOf 84) 62 = .ok (.iastore, 1)) h hi
theorem x_84_63 : Ev d 84 63 (.ref r :: L) st μ Q = Ev d 84 64 (.ref r :: L) (.ref r :: st) μ Q := e_aload_n (by decide +kernel : decode (bOf 84) 63 = .ok (.aload_n 0, 1)) rfl
theorem x_84_64 (h : kd t r = 5) : Ev d 84 64 L (.ref r :: st) (t, V, A, P) Q = Ev d 84 67 L (V r 11 :: st) (t, V, A, P) Q := e_getf (by decide +kernel : decode (bOf 84) 64 = .ok (.getfield 32, 3)) (by decide +kernel) (by decide +kernel) h
theorem x_84_67 : Ev d 84 67 (a0 :: .int x :: L) st μ Q = Ev d 84 68 (a0 :: .int x :: L) (.int x :: st) μ Q := e_iload_n (by decide +kernel : decode (bOf 84) 67 = .ok (.iload_n 1, 1)) rfl
theorem x_84_68 : Ev d 84 68 (a0 :: a1 :: .int x :: L) st μ Q = Ev d 84 69 (a0 :: a1 :: .int x :: L) (.int x :: st) μ Q := e_iload_n (by decide +kernel : decode (bOf 84) 68 = .ok (.iload_n 2, 1)) rfl
theorem x_84_69 : Ev d 84 69 L [b1, b0, s0] μ Q = Call d 83 [b0, b1] μ (fun v μ1 => Ev d 84 72 L (v.toList ++ [s0]) μ1 Q) := e_callS (a := [b0, b1]) (r := [s0]) (by decide +kernel : decode (bOf 84) 69 = .ok (.invokestatic 79, 3)) (by decide +kernel) (by decide +kernel) (by omega) rfl (by simp)
theorem x_84_72 : Ev d 84 72 L (.int x :: .ref r :: st) μ Q = Ev d 84 73 L (.int x :: .ref r :: .int x :: .ref r :: st) μ Q := e_dup2 (by decide +kernel : decode (bOf 84) 72 = .ok (.dup2, 1))
theorem x_84_73 (h : kd t r = 6) (hi : inB x (ln t r) = true) : Ev d 84 73 L (.int x :: .ref r :: st) (t, V, A, P) Q = Ev d 84 74 L (.int (A r x.toNatClampNeg) :: st) (t, V, A, P) Q := e_iald (by decide +kernel : decode (bOf 84) 73 = .ok (.iaload, 1)) h hi
theorem x_84_74 : Ev d 84 74 L st μ Q = Ev d 84 75 L (.int (iI 1) :: st) μ Q := e_iconst (by decide +kernel : decode (bOf 84) 74 = .ok (.iconst 1, 1))
theorem x_84_75 : Ev d 84 75 (a0 :: a1 :: .int x :: L) st μ Q = Ev d 84 76 (a0 :: a1 :: .int x :: L) (.int x :: st) μ Q := e_iload_n (by decide +kernel : decode (bOf 84) 75 = .ok (.iload_n 2, 1)) rfl
theorem x_84_76 : Ev d 84 76 L (.int y :: .int x :: st) μ Q = Ev d 84 77 L (.int (x <<< (y &&& 31)) :: st) μ Q := e_ishl (by decide +kernel : decode (bOf 84) 76 = .ok (.ishl, 1))
theorem x_84_77 : Ev d 84 77 L (.int y :: .int x :: st) μ Q = Ev d 84 78 L (.int (x ||| y) :: st) μ Q := e_ior (by decide +kernel : decode (bOf 84) 77 = .ok (.ior, 1))
theorem x_84_78 (h : kd t r = 6) (hi : inB x (ln t r) = true) : Ev d 84 78 L (.int y :: .int x :: .ref r :: st) (t, V, A, P) Q = Ev d 84 79 L st (t, V, up1 A r (upd (A r) x.toNatClampNeg y), P) Q := e_iast (by decide +kernel : decode (bOf 84) 78 = .ok (.iastore, 1)) h hi
theorem x_84_79 (h : a1.category = 1) : Ev d 84 79 (a0 :: a1 :: .int x :: L) st μ Q = Ev d 84 82 (a0 :: a1 :: .int (x + (iI 1)) :: L) st μ Q := e_iinc (by decide +kernel : decode (bOf 84) 79 = .ok (.iinc 2 1, 3)) rfl (by simp [stOK, h])
theorem x_84_82 : Ev d 84 82 L st μ Q = Ev d 84 47 L st μ Q := e_goto (by decide +kernel : decode (bOf 84) 82 = .ok (.goto (-35), 3)) (by omega)
theorem x_84_85 (h : a0.category = 1) : Ev d 84 85 (a0 :: .int x :: L) st μ Q = Ev d 84 88 (a0 :: .int (x + (iI 1)) :: L) st μ Q := e_iinc (by decide +kernel : decode (bOf 84) 85 = .ok (.iinc 1 1, 3)) rfl (by simp [stOK, h])
theorem x_84_88 : Ev d 84 88 L st μ Q = Ev d 84 39 L st μ Q := e_goto (by decide +kernel : decode (bOf 84) 88 = .ok (.goto (-49), 3)) (by omega)
theorem x_84_91 : Ev d 84 91 (.ref r :: L) st μ Q = Ev d 84 92 (.ref r :: L) (.ref r :: st) μ Q := e_aload_n (by decide +kernel : decode (bOf 84) 91 = .ok (.aload_n 0, 1)) rfl
theorem x_84_92 : Ev d 84 92 L st μ Q = Ev d 84 93 L (.int (iI 1) :: st) μ Q := e_iconst (by decide +kernel : decode (bOf 84) 92 = .ok (.iconst 1, 1))
theorem x_84_93 (h : kd t r = 5) (hx : mayPut 84 5 12 (.int x) = true) : Ev d 84 93 L (.int x :: .ref r :: st) (t, V, A, P) Q = Ev d 84 96 L st (t, up1 V r (up1 (V r) 12 (.int x)), A, P) Q := e_putf (by decide +kernel : decode (bOf 84) 93 = .ok (.putfield 75, 3)) (by decide +kernel) (by decide +kernel) hx h
theorem x_84_96 : Ev d 84 96 L [] μ Q = Q none μ := e_ret (by decide +kernel : decode (bOf 84) 96 = .ok (.return_, 1)) (by decide +kernel)
theorem c_85 : Call (d + 1) 85 [.ref r0, .int i1] μ Q = Ev d 85 0 [.ref r0, .int i1] [] μ Q := call_ev rfl rfl
theorem x_85_0 : Ev d 85 0 (a0 :: .int x :: L) st μ Q = Ev d 85 1 (a0 :: .int x :: L) (.int x :: st) μ Q := e_iload_n (by decide +kernel : decode (bOf 85) 0 = .ok (.iload_n 1, 1)) rfl
theorem x_85_1 : Ev d 85 1 (.ref r :: L) st μ Q = Ev d 85 2 (.ref r :: L) (.ref r :: st) μ Q := e_aload_n (by decide +kernel : decode (bOf 85) 1 = .ok (.aload_n 0, 1)) rfl
theorem x_85_2 (h : kd t r = 5) : Ev d 85 2 L (.ref r :: st) (t, V, A, P) Q = Ev d 85 5 L (V r 7 :: st) (t, V, A, P) Q := e_getf (by decide +kernel : decode (bOf 85) 2 = .ok (.getfield 82, 3)) (by decide +kernel) (by decide +kernel) h
theorem x_85_5 : Ev d 85 5 L (.int y :: .int x :: st) μ Q = if x < y then Ev d 85 8 L st μ Q else Ev d 85 17 L st μ Q := e_icmp_ge (by decide +kernel : decode (bOf 85) 5 = .ok (.if_icmp .ge 12, 3)) (by omega)
theorem x_85_8 : Ev d 85 8 (.ref r :: L) st μ Q = Ev d 85 9 (.ref r :: L) (.ref r :: st) μ Q := e_aload_n (by decide +kernel : decode (bOf 85) 8 = .ok (.aload_n 0, 1)) rfl
theorem x_85_9 (h : kd t r = 5) : Ev d 85 9 L (.ref r :: st) (t, V, A, P) Q = Ev d 85 12 L (V r 6 :: st) (t, V, A, P) Q := e_getf (by decide +kernel : decode (bOf 85) 9 = .ok (.getfield 23, 3)) (by decide +kernel) (by decide +kernel) h
theorem x_85_12 : Ev d 85 12 (a0 :: .int x :: L) st μ Q = Ev d 85 13 (a0 :: .int x :: L) (.int x :: st) μ Q := e_iload_n (by decide +kernel : decode (bOf 85) 12 = .ok (.iload_n 1, 1)) rfl
theorem x_85_13 (h : kd t r = 6) (hi : inB x (ln t r) = true) : Ev d 85 13 L (.int x :: .ref r :: st) (t, V, A, P) Q = Ev d 85 14 L (.int (A r x.toNatClampNeg) :: st) (t, V, A, P) Q := e_iald (by decide +kernel : decode (bOf 85) 13 = .ok (.iaload, 1)) h hi
theorem x_85_14 : Ev d 85 14 L st μ Q = Ev d 85 18 L st μ Q := e_goto (by decide +kernel : decode (bOf 85) 14 = .ok (.goto 4, 3)) (by omega)
theorem x_85_17 : Ev d 85 17 L st μ Q = Ev d 85 18 L (.int (iI (-1)) :: st) μ Q := e_iconst (by decide +kernel : decode (bOf 85) 17 = .ok (.iconst (-1), 1))
theorem x_85_18 : Ev d 85 18 L [.int x] μ Q = Q (some (.int x)) μ := e_iret (by decide +kernel : decode (bOf 85) 18 = .ok (.ireturn, 1)) (by decide +kernel)
theorem c_86 : Call (d + 1) 86 [.ref r0, .int i1] μ Q = Ev d 86 0 [.ref r0, .int i1] [] μ Q := call_ev rfl rfl
theorem x_86_0 : Ev d 86 0 (.ref r :: L) st μ Q = Ev d 86 1 (.ref r :: L) (.ref r :: st) μ Q := e_aload_n (by decide +kernel : decode (bOf 86) 0 = .ok (.aload_n 0, 1)) rfl
theorem x_86_1 : Ev d 86 1 L st μ Q = Ev d 86 2 L (.int (iI 0) :: st) μ Q := e_iconst (by decide +kernel : decode (bOf 86) 1 = .ok (.iconst 0, 1))
theorem x_86_2 (h : kd t r = 5) : Ev d 86 2 L (.int x :: .ref r :: st) (t, V, A, P) Q = Ev d 86 5 L st (t, up1 V r (up1 (V r) 0 (.int x)), A, P) Q := e_putf (by decide +kernel : decode (bOf 86) 2 = .ok (.putfield 59, 3)) (by decide +kernel) (by decide +kernel) rfl h
theorem x_86_5 : Ev d 86 5 (a0 :: .int x :: L) st μ Q = Ev d 86 6 (a0 :: .int x :: L) (.int x :: st) μ Q := e_iload_n (by decide +kernel : decode (bOf 86) 5 = .ok (.iload_n 1, 1)) rfl
theorem x_86_6 : Ev d 86 6 L st μ Q = Ev d 86 7 L (.int (iI 0) :: st) μ Q := e_iconst (by decide +kernel : decode (bOf 86) 6 = .ok (.iconst 0, 1))
theorem x_86_7 : Ev d 86 7 L st μ Q = Ev d 86 10 L (.int (iI 255) :: st) μ Q := e_sipush (by decide +kernel : decode (bOf 86) 7 = .ok (.sipush 255, 3)) (by decide +kernel)
theorem x_86_10 : Ev d 86 10 L [b2, b1, b0] μ Q = Call d 79 [b0, b1, b2] μ (fun v μ1 => Ev d 86 13 L (v.toList ++ []) μ1 Q) := e_callS (a := [b0, b1, b2]) (r := []) (by decide +kernel : decode (bOf 86) 10 = .ok (.invokestatic 85, 3)) (by decide +kernel) (by decide +kernel) (by omega) rfl (by simp)
theorem x_86_13 : Ev d 86 13 L (.int x :: st) μ Q = if x = iI 0 then Ev d 86 16 L st μ Q else Ev d 86 18 L st μ Q := e_if_ne (by decide +kernel : decode (bOf 86) 13 = .ok (.ifCond .ne 5, 3)) (by omega)
theorem x_86_16 : Ev d 86 16 L st μ Q = Ev d 86 17 L (.int (iI (-1)) :: st) μ Q := e_iconst (by decide +kernel : decode (bOf 86) 16 = .ok (.iconst (-1), 1))
theorem x_86_17 : Ev d 86 17 L [.int x] μ Q = Q (some (.int x)) μ := e_iret (by decide +kernel : decode (bOf 86) 17 = .ok (.ireturn, 1)) (by decide +kernel)
theorem x_86_18 : Ev d 86 18 (.ref r :: L) st μ Q = Ev d 86 19 (.ref r :: L) (.ref r :: st) μ Q := e_aload_n (by decide +kernel : decode (bOf 86) 18 = .ok (.aload_n 0, 1)) rfl
theorem x_86_19 (h : kd t r = 5) : Ev d 86 19 L (.ref r :: st) (t, V, A, P) Q = Ev d 86 22 L (V r 7 :: st) (t, V, A, P) Q := e_getf (by decide +kernel : decode (bOf 86) 19 = .ok (.getfield 82, 3)) (by decide +kernel) (by decide +kernel) h
theorem x_86_22 : Ev d 86 22 L st μ Q = Ev d 86 24 L (.int (iI 120) :: st) μ Q := e_bipush (by decide +kernel : decode (bOf 86) 22 = .ok (.bipush 120, 2)) (by decide +kernel)
theorem x_86_24 : Ev d 86 24 L (.int y :: .int x :: st) μ Q = if x = y then Ev d 86 27 L st μ Q else Ev d 86 30 L st μ Q := e_icmp_ne (by decide +kernel : decode (bOf 86) 24 = .ok (.if_icmp .ne 6, 3)) (by omega)
theorem x_86_27 : Ev d 86 27 L st μ Q = Ev d 86 29 L (.int (iI (-3)) :: st) μ Q := e_bipush (by decide +kernel : decode (bOf 86) 27 = .ok (.bipush (-3), 2)) (by decide +kernel)
theorem x_86_29 : Ev d 86 29 L [.int x] μ Q = Q (some (.int x)) μ := e_iret (by decide +kernel : decode (bOf 86) 29 = .ok (.ireturn, 1)) (by decide +kernel)
theorem x_86_30 : Ev d 86 30 (.ref r :: L) st μ Q = Ev d 86 31 (.ref r :: L) (.ref r :: st) μ Q := e_aload_n (by decide +kernel : decode (bOf 86) 30 = .ok (.aload_n 0, 1)) rfl
theorem x_86_31 (h : kd t r = 5) : Ev d 86 31 L (.ref r :: st) (t, V, A, P) Q = Ev d 86 34 L (V r 6 :: st) (t, V, A, P) Q := e_getf (by decide +kernel : decode (bOf 86) 31 = .ok (.getfield 23, 3)) (by decide +kernel) (by decide +kernel) h
theorem x_86_34 : Ev d 86 34 (.ref r :: L) st μ Q = Ev d 86 35 (.ref r :: L) (.ref r :: st) μ Q := e_aload_n (by decide +kernel : decode (bOf 86) 34 = .ok (.aload_n 0, 1)) rfl
theorem x_86_35 (h : kd t r = 5) : Ev d 86 35 L (.ref r :: st) (t, V, A, P) Q = Ev d 86 38 L (V r 7 :: st) (t, V, A, P) Q := e_getf (by decide +kernel : decode (bOf 86) 35 = .ok (.getfield 82, 3)) (by decide +kernel) (by decide +kernel) h
theorem x_86_38 : Ev d 86 38 (a0 :: .int x :: L) st μ Q = Ev d 86 39 (a0 :: .int x :: L) (.int x :: st) μ Q := e_iload_n (by decide +kernel : decode (bOf 86) 38 = .ok (.iload_n 1, 1)) rfl
theorem x_86_39 (h : kd t r = 6) (hi : inB x (ln t r) = true) : Ev d 86 39 L (.int y :: .int x :: .ref r :: st) (t, V, A, P) Q = Ev d 86 40 L st (t, V, up1 A r (upd (A r) x.toNatClampNeg y), P) Q := e_iast (by decide +kernel : decode (bOf 86) 39 = .ok (.iastore, 1)) h hi
theorem x_86_40 : Ev d 86 40 (.ref r :: L) st μ Q = Ev d 86 41 (.ref r :: L) (.ref r :: st) μ Q := e_aload_n (by decide +kernel : decode (bOf 86) 40 = .ok (.aload_n 0, 1)) rfl
theorem x_86_41 : Ev d 86 41 L (.ref r :: st) μ Q = Ev d 86 42 L (.ref r :: .ref r :: st) μ Q := e_dup_a (by decide +kernel : decode (bOf 86) 41 = .ok (.dup, 1))
theorem x_86_42 (h : kd t r = 5) : Ev d 86 42 L (.ref r :: st) (t, V, A, P) Q = Ev d 86 45 L (V r 7 :: st) (t, V, A, P) Q := e_getf (by decide +kernel : decode (bOf 86) 42 = .ok (.getfield 82, 3)) (by decide +kernel) (by decide +kernel) h
theorem x_86_45 : Ev d 86 45 L st μ Q = Ev d 86 46 L (.int (iI 1) :: st) μ Q := e_iconst (by decide +kernel : decode (bOf 86) 45 = .ok (.iconst 1, 1))
theorem x_86_46 : Ev d 86 46 L (.int y :: .int x :: st) μ Q = Ev d 86 47 L (.int (x + y) :: st) μ Q := e_iadd (by decide +kernel : decode (bOf 86) 46 = .ok (.iadd, 1))
theorem x_86_47 (h : kd t r = 5) : Ev d 86 47 L (.int x :: .ref r :: st) (t, V, A, P) Q = Ev d 86 50 L st (t, up1 V r (up1 (V r) 7 (.int x)), A, P) Q := e_putf (by decide +kernel : decode (bOf 86) 47 = .ok (.putfield 82, 3)) (by decide +kernel) (by decide +kernel) rfl h
theorem x_86_50 : Ev d 86 50 (.ref r :: L) st μ Q = Ev d 86 51 (.ref r :: L) (.ref r :: st) μ Q := e_aload_n (by decide +kernel : decode (bOf 86) 50 = .ok (.aload_n 0, 1)) rfl
theorem x_86_51 (h : kd t r = 5) : Ev d 86 51 L (.ref r :: st) (t, V, A, P) Q = Ev d 86 54 L (V r 7 :: st) (t, V, A, P) Q := e_getf (by decide +kernel : decode (bOf 86) 51 = .ok (.getfield 82, 3)) (by decide +kernel) (by decide +kernel) h
theorem x_86_54 : Ev d 86 54 L [.int x] μ Q = Q (some (.int x)) μ := e_iret (by decide +kernel : decode (bOf 86) 54 = .ok (.ireturn, 1)) (by decide +kernel)
theorem c_87 : Call (d + 1) 87 [.ref r0] μ Q = Ev d 87 0 [.ref r0, .null] [] μ Q := call_ev rfl rfl
theorem x_87_0 : Ev d 87 0 (.ref r :: L) st μ Q = Ev d 87 1 (.ref r :: L) (.ref r :: st) μ Q := e_aload_n (by decide +kernel : decode (bOf 87) 0 = .ok (.aload_n 0, 1)) rfl
theorem x_87_1 : Ev d 87 1 L st μ Q = Ev d 87 2 L (.int (iI 0) :: st) μ Q := e_iconst (by decide +kernel : decode (bOf 87) 1 = .ok (.iconst 0, 1))
theorem x_87_2 (h : kd t r = 5) : Ev d 87 2 L (.int x :: .ref r :: st) (t, V, A, P) Q = Ev d 87 5 L st (t, up1 V r (up1 (V r) 0 (.int x)), A, P) Q := e_putf (by decide +kernel : decode (bOf 87) 2 = .ok (.putfield 59, 3)) (by decide +kernel) (by decide +kernel) rfl h
theorem x_87_5 : Ev d 87 5 (.ref r :: L) st μ Q = Ev d 87 6 (.ref r :: L) (.ref r :: st) μ Q := e_aload_n (by decide +kernel : decode (bOf 87) 5 = .ok (.aload_n 0, 1)) rfl
theorem x_87_6 (h : kd t r = 5) : Ev d 87 6 L (.ref r :: st) (t, V, A, P) Q = Ev d 87 9 L (V r 7 :: st) (t, V, A, P) Q := e_getf (by decide +kernel : decode (bOf 87) 6 = .ok (.getfield 82, 3)) (by decide +kernel) (by decide +kernel) h
theorem x_87_9 (h : a0.category = 1) : Ev d 87 9 (a0 :: a1 :: L) (.int x :: st) μ Q = Ev d 87 10 (a0 :: .int x :: L) st μ Q := e_istore_n (by decide +kernel : decode (bOf 87) 9 = .ok (.istore_n 1, 1)) (by show stOK _ 1 = true; simp [stOK, h])
theorem x_87_10 : Ev d 87 10 (.ref r :: L) st μ Q = Ev d 87 11 (.ref r :: L) (.ref r :: st) μ Q := e_aload_n (by decide +kernel : decode (bOf 87) 10 = .ok (.aload_n 0, 1)) rfl
theorem x_87_11 : Ev d 87 11 L st μ Q = Ev d 87 12 L (.int (iI 0) :: st) μ Q := e_iconst (by decide +kernel : decode (bOf 87) 11 = .ok (.iconst 0, 1))
theorem x_87_12 (h : kd t r = 5) : Ev d 87 12 L (.int x :: .ref r :: st) (t, V, A, P) Q = Ev d 87 15 L st (t, up1 V r (up1 (V r) 7 (.int x)), A, P) Q := e_putf (by decide +kernel : decode (bOf 87) 12 = .ok (.putfield 82, 3)) (by decide +kernel) (by decide +kernel) rfl h
theorem x_87_15 : Ev d 87 15 (a0 :: .int x :: L) st μ Q = Ev d 87 16 (a0 :: .int x :: L) (.int x :: st) μ Q := e_iload_n (by decide +kernel : decode (bOf 87) 15 = .ok (.iload_n 1, 1)) rfl
theorem x_87_16 : Ev d 87 16 L [.int x] μ Q = Q (some (.int x)) μ := e_iret (by decide +kernel : decode (bOf 87) 16 = .ok (.ireturn, 1)) (by decide +kernel)
theorem c_88 : Call (d + 1) 88 [.ref r0] μ Q = Ev d 88 0 [.ref r0, .null] [] μ Q := call_ev rfl rfl
theorem x_88_0 : Ev d 88 0 (.ref r :: L) st μ Q = Ev d 88 1 (.ref r :: L) (.ref r :: st) μ Q := e_aload_n (by decide +kernel : decode (bOf 88) 0 = .ok (.aload_n 0, 1)) rfl
theorem x_88_1 : Ev d 88 1 (.ref r :: L) st μ Q = Ev d 88 2 (.ref r :: L) (.ref r :: st) μ Q := e_aload_n (by decide +kernel : decode (bOf 88) 1 = .ok (.aload_n 0, 1)) rfl
theorem x_88_2 (h : kd t r = 5) : Ev d 88 2 L (.ref r :: st) (t, V, A, P) Q = Ev d 88 5 L (V r 13 :: st) (t, V, A, P) Q := e_getf (by decide +kernel : decode (bOf 88) 2 = .ok (.getfield 89, 3)) (by decide +kernel) (by decide +kernel) h
theorem x_88_5 (h : kd t r = 5) : Ev d 88 5 L [b0, .ref r] (t, V, A, P) Q = Call d 85 [.ref r, b0] (t, V, A, P) (fun v μ1 => Ev d 88 8 L (v.toList ++ []) μ1 Q) := e_callV (a := [b0]) (r := []) (by decide +kernel : decode (bOf 88) 5 = .ok (.invokevirtual 92, 3)) (by decide +kernel) (by decide +kernel) (by decide +kernel) (by omega) rfl (by simp) (by decide +kernel) h
theorem x_88_8 : Ev d 88 8 L st μ Q = Ev d 88 10 L (.int (iI 32) :: st) μ Q := e_bipush (by decide +kernel : decode (bOf 88) 8 = .ok (.bipush 32, 2)) (by decide +kernel)
theorem x_88_10 : Ev d 88 10 L (.int y :: .int x :: st) μ Q = if x = y then Ev d 88 13 L st μ Q else Ev d 88 26 L st μ Q := e_icmp_ne (by decide +kernel : decode (bOf 88) 10 = .ok (.if_icmp .ne 16, 3)) (by omega)
theorem x_88_13 : Ev d 88 13 (.ref r :: L) st μ Q = Ev d 88 14 (.ref r :: L) (.ref r :: st) μ Q := e_aload_n (by decide +kernel : decode (bOf 88) 13 = .ok (.aload_n 0, 1)) rfl
theorem x_88_14 : Ev d 88 14 L (.ref r :: st) μ Q = Ev d 88 15 L (.ref r :: .ref r :: st) μ Q := e_dup_a (by decide +kernel : decode (bOf 88) 14 = .ok (.dup, 1))
theorem x_88_15 (h : kd t r = 5) : Ev d 88 15 L (.ref r :: st) (t, V, A, P) Q = Ev d 88 18 L (V r 13 :: st) (t, V, A, P) Q := e_getf (by decide +kernel : decode (bOf 88) 15 = .ok (.getfield 89, 3)) (by decide +kernel) (by decide +kernel) h
theorem x_88_18 : Ev d 88 18 L st μ Q = Ev d 88 19 L (.int (iI 1) :: st) μ Q := e_iconst (by decide +kernel : decode (bOf 88) 18 = .ok (.iconst 1, 1))
theorem x_88_19 : Ev d 88 19 L (.int y :: .int x :: st) μ Q = Ev d 88 20 L (.int (x + y) :: st) μ Q := e_iadd (by decide +kernel : decode (bOf 88) 19 = .ok (.iadd, 1))
theorem x_88_20 (h : kd t r = 5) : Ev d 88 20 L (.int x :: .ref r :: st) (t, V, A, P) Q = Ev d 88 23 L st (t, up1 V r (up1 (V r) 13 (.int x)), A, P) Q := e_putf (by decide +kernel : decode (bOf 88) 20 = .ok (.putfield 89, 3)) (by decide +kernel) (by decide +kernel) rfl h
theorem x_88_23 : Ev d 88 23 L st μ Q = Ev d 88 0 L st μ Q := e_goto (by decide +kernel : decode (bOf 88) 23 = .ok (.goto (-23), 3)) (by omega)
theorem x_88_26 : Ev d 88 26 (.ref r :: L) st μ Q = Ev d 88 27 (.ref r :: L) (.ref r :: st) μ Q := e_aload_n (by decide +kernel : decode (bOf 88) 26 = .ok (.aload_n 0, 1)) rfl
theorem x_88_27 : Ev d 88 27 (.ref r :: L) st μ Q = Ev d 88 28 (.ref r :: L) (.ref r :: st) μ Q := e_aload_n (by decide +kernel : decode (bOf 88) 27 = .ok (.aload_n 0, 1)) rfl
theorem x_88_28 (h : kd t r = 5) : Ev d 88 28 L (.ref r :: st) (t, V, A, P) Q = Ev d 88 31 L (V r 13 :: st) (t, V, A, P) Q := e_getf (by decide +kernel : decode (bOf 88) 28 = .ok (.getfield 89, 3)) (by decide +kernel) (by decide +kernel) h
theorem x_88_31 (h : kd t r = 5) : Ev d 88 31 L (.int x :: .ref r :: st) (t, V, A, P) Q = Ev d 88 34 L st (t, up1 V r (up1 (V r) 14 (.int x)), A, P) Q := e_putf (by decide +kernel : decode (bOf 88) 31 = .ok (.putfield 95, 3)) (by decide +kernel) (by decide +kernel) rfl h
theorem x_88_34 : Ev d 88 34 (.ref r :: L) st μ Q = Ev d 88 35 (.ref r :: L) (.ref r :: st) μ Q := e_aload_n (by decide +kernel : decode (bOf 88) 34 = .ok (.aload_n 0, 1)) rfl
theorem x_88_35 : Ev d 88 35 (.ref r :: L) st μ Q = Ev d 88 36 (.ref r :: L) (.ref r :: st) μ Q := e_aload_n (by decide +kernel : decode (bOf 88) 35 = .ok (.aload_n 0, 1)) rfl
theorem x_88_36 (h : kd t r = 5) : Ev d 88 36 L (.ref r :: st) (t, V, A, P) Q = Ev d 88 39 L (V r 13 :: st) (t, V, A, P) Q := e_getf (by decide +kernel : decode (bOf 88) 36 = .ok (.getfield 89, 3)) (by decide +kernel) (by decide +kernel) h
theorem x_88_39 (h : kd t r = 5) : Ev d 88 39 L [b0, .ref r] (t, V, A, P) Q = Call d 85 [.ref r, b0] (t, V, A, P) (fun v μ1 => Ev d 88 42 L (v.toList ++ []) μ1 Q) := e_callV (a := [b0]) (r := []) (by decide +kernel : decode (bOf 88) 39 = .ok (.invokevirtual 92, 3)) (by decide +kernel) (by decide +kernel) (by decide +kernel) (by omega) rfl (by simp) (by decide +kernel) h
theorem x_88_42 (h : a0.category = 1) : Ev d 88 42 (a0 :: a1 :: L) (.int x :: st) μ Q = Ev d 88 43 (a0 :: .int x :: L) st μ Q := e_istore_n (by decide +kernel : decode (bOf 88) 42 = .ok (.istore_n 1, 1)) (by show stOK _ 1 = true; simp [stOK, h])
theorem x_88_43 : Ev d 88 43 (a0 :: .int x :: L) st μ Q = Ev d 88 44 (a0 :: .int x :: L) (.int x :: st) μ Q := e_iload_n (by decide +kernel : decode (bOf 88) 43 = .ok (.iload_n 1, 1)) rfl
theorem x_88_44 : Ev d 88 44 L (.int x :: st) μ Q = if x < iI 0 then Ev d 88 47 L st μ Q else Ev d 88 55 L st μ Q := e_if_ge (by decide +kernel : decode (bOf 88) 44 = .ok (.ifCond .ge 11, 3)) (by omega)
theorem x_88_47 : Ev d 88 47 (.ref r :: L) st μ Q = Ev d 88 48 (.ref r :: L) (.ref r :: st) μ Q := e_aload_n (by decide +kernel : decode (bOf 88) 47 = .ok (.aload_n 0, 1)) rfl
theorem x_88_48 : Ev d 88 48 L st μ Q = Ev d 88 49 L (.int (iI 0) :: st) μ Q := e_iconst (by decide +kernel : decode (bOf 88) 48 = .ok (.iconst 0, 1))
theorem x_88_49 (h : kd t r = 5) : Ev d 88 49 L (.int x :: .ref r :: st) (t, V, A, P) Q = Ev d 88 52 L st (t, up1 V r (up1 (V r) 15 (.int x)), A, P) Q := e_putf (by decide +kernel : decode (bOf 88) 49 = .ok (.putfield 98, 3)) (by decide +kernel) (by decide +kernel) rfl h
theorem x_88_52 : Ev d 88 52 L st μ Q = Ev d 88 227 L st μ Q := e_goto (by decide +kernel : decode (bOf 88) 52 = .ok (.goto 175, 3)) (by omega)
theorem x_88_55 : Ev d 88 55 (a0 :: .int x :: L) st μ Q = Ev d 88 56 (a0 :: .int x :: L) (.int x :: st) μ Q := e_iload_n (by decide +kernel : decode (bOf 88) 55 = .ok (.iload_n 1, 1)) rfl
theorem x_88_56 : Ev d 88 56 L st μ Q = Ev d 88 58 L (.int (iI 48) :: st) μ Q := e_bipush (by decide +kernel : decode (bOf 88) 56 = .ok (.bipush 48, 2)) (by decide +kernel)
theorem x_88_58 : Ev d 88 58 L st μ Q = Ev d 88 60 L (.int (iI 57) :: st) μ Q := e_bipush (by decide +kernel : decode (bOf 88) 58 = .ok (.bipush 57, 2)) (by decide +kernel)
theorem x_88_60 : Ev d 88 60 L [b2, b1, b0] μ Q = Call d 79 [b0, b1, b2] μ (fun v μ1 => Ev d 88 63 L (v.toList ++ []) μ1 Q) := e_callS (a := [b0, b1, b2]) (r := []) (by decide +kernel : decode (bOf 88) 60 = .ok (.invokestatic 85, 3)) (by decide +kernel) (by decide +kernel) (by omega) rfl (by simp)
theorem x_88_63 : Ev d 88 63 L (.int x :: st) μ Q = if x = iI 0 then Ev d 88 181 L st μ Q else Ev d 88 66 L st μ Q := e_if_eq (by decide +kernel : decode (bOf 88) 63 = .ok (.ifCond .eq 118, 3)) (by omega)
theorem x_88_66 : Ev d 88 66 (.ref r :: L) st μ Q = Ev d 88 67 (.ref r :: L) (.ref r :: st) μ Q := e_aload_n (by decide +kernel : decode (bOf 88) 66 = .ok (.aload_n 0, 1)) rfl
theorem x_88_67 : Ev d 88 67 L st μ Q = Ev d 88 68 L (.int (iI 0) :: st) μ Q := e_iconst (by decide +kernel : decode (bOf 88) 67 = .ok (.iconst 0, 1))
theorem x_88_68 (h : kd t r = 5) : Ev d 88 68 L (.int x :: .ref r :: st) (t, V, A, P) Q = Ev d 88 71 L st (t, up1 V r (up1 (V r) 16 (.int x)), A, P) Q := e_putf (by decide +kernel : decode (bOf 88) 68 = .ok (.putfield 101, 3)) (by decide +kernel) (by decide +kernel) rfl h
theorem x_88_71 : Ev d 88 71 (.ref r :: L) st μ Q = Ev d 88 72 (.ref r :: L) (.ref r :: st) μ Q := e_aload_n (by decide +kernel : decode (bOf 88) 71 = .ok (.aload_n 0, 1)) rfl
theorem x_88_72 : Ev d 88 72 (.ref r :: L) st μ Q = Ev d 88 73 (.ref r :: L) (.ref r :: st) μ Q := e_aload_n (by decide +kernel : decode (bOf 88) 72 = .ok (.aload_n 0, 1)) rfl
theorem x_88_73 (h : kd t r = 5) : Ev d 88 73 L (.ref r :: st) (t, V, A, P) Q = Ev d 88 76 L (V r 13 :: st) (t, V, A, P) Q := e_getf (by decide +kernel : decode (bOf 88) 73 = .ok (.getfield 89, 3)) (by decide +kernel) (by decide +kernel) h
theorem x_88_76 (h : kd t r = 5) : Ev d 88 76 L [b0, .ref r] (t, V, A, P) Q = Call d 85 [.ref r, b0] (t, V, A, P) (fun v μ1 => Ev d 88 79 L (v.toList ++ []) μ1 Q) := e_callV (a := [b0]) (r := []) (by decide +kernel : decode (bOf 88) 76 = .ok (.invokevirtual 92, 3)) (by decide +kernel) (by decide +kernel) (by decide +kernel) (by omega) rfl (by simp) (by decide +kernel) h
theorem x_88_79 : Ev d 88 79 L st μ Q = Ev d 88 81 L (.int (iI 48) :: st) μ Q := e_bipush (by decide +kernel : decode (bOf 88) 79 = .ok (.bipush 48, 2)) (by decide +kernel)
theorem x_88_81 : Ev d 88 81 L st μ Q = Ev d 88 83 L (.int (iI 57) :: st) μ Q := e_bipush (by decide +kernel : decode (bOf 88) 81 = .ok (.bipush 57, 2)) (by decide +kernel)
theorem x_88_83 : Ev d 88 83 L [b2, b1, b0] μ Q = Call d 79 [b0, b1, b2] μ (fun v μ1 => Ev d 88 86 L (v.toList ++ []) μ1 Q) := e_callS (a := [b0, b1, b2]) (r := []) (by decide +kernel : decode (bOf 88) 83 = .ok (.invokestatic 85, 3)) (by decide +kernel) (by decide +kernel) (by omega) rfl (by simp)
theorem x_88_86 : Ev d 88 86 L (.int x :: st) μ Q = if x = iI 0 then Ev d 88 141 L st μ Q else Ev d 88 89 L st μ Q := e_if_eq (by decide +kernel : decode (bOf 88) 86 = .ok (.ifCond .eq 55, 3)) (by omega)
theorem x_88_89 : Ev d 88 89 (.ref r :: L) st μ Q = Ev d 88 90 (.ref r :: L) (.ref r :: st) μ Q := e_aload_n (by decide +kernel : decode (bOf 88) 89 = .ok (.aload_n 0, 1)) rfl
theorem x_88_90 : Ev d 88 90 (.ref r :: L) st μ Q = Ev d 88 91 (.ref r :: L) (.ref r :: st) μ Q := e_aload_n (by decide +kernel : decode (bOf 88) 90 = .ok (.aload_n 0, 1)) rfl
theorem x_88_91 (h : kd t r = 5) : Ev d 88 91 L (.ref r :: st) (t, V, A, P) Q = Ev d 88 94 L (V r 16 :: st) (t, V, A, P) Q := e_getf (by decide +kernel : decode (bOf 88) 91 = .ok (.getfield 101, 3)) (by decide +kernel) (by decide +kernel) h
theorem x_88_94 : Ev d 88 94 L st μ Q = Ev d 88 96 L (.int (iI 99) :: st) μ Q := e_bipush (by decide +kernel : decode (bOf 88) 94 = .ok (.bipush 99, 2)) (by decide +kernel)
theorem x_88_96 : Ev d 88 96 L (.int y :: .int x :: st) μ Q = if y < x then Ev d 88 99 L st μ Q else Ev d 88 106 L st μ Q := e_icmp_le (by decide +kernel : decode (bOf 88) 96 = .ok (.if_icmp .le 10, 3)) (by omega)
theorem x_88_99 : Ev d 88 99 (.ref r :: L) st μ Q = Ev d 88 100 (.ref r :: L) (.ref r :: st) μ Q := e_aload_n (by decide +kernel : decode (bOf 88) 99 = .ok (.aload_n 0, 1)) rfl
theorem x_88_100 (h : kd t r = 5) : Ev d 88 100 L (.ref r :: st) (t, V, A, P) Q = Ev d 88 103 L (V r 16 :: st) (t, V, A, P) Q := e_getf (by decide +kernel : decode (bOf 88) 100 = .ok (.getfield 101, 3)) (by decide +kernel) (by decide +kernel) h
theorem x_88_103 : Ev d 88 103 L st μ Q = Ev d 88 125 L st μ Q := e_goto (by decide +kernel : decode (bOf 88) 103 = .ok (.goto 22, 3)) (by omega)
theorem x_88_106 : Ev d 88 106 L st μ Q = Ev d 88 108 L (.int (iI 10) :: st) μ Q := e_bipush (by decide +kernel : decode (bOf 88) 106 = .ok (.bipush 10, 2)) (by decide +kernel)
theorem x_88_108 : Ev d 88 108 (.ref r :: L) st μ Q = Ev d 88 109 (.ref r :: L) (.ref r :: st) μ Q := e_aload_n (by decide +kernel : decode (bOf 88) 108 = .ok (.aload_n 0, 1)) rfl
theorem x_88_109 (h : kd t r = 5) : Ev d 88 109 L (.ref r :: st) (t, V, A, P) Q = Ev d 88 112 L (V r 16 :: st) (t, V, A, P) Q := e_getf (by decide +kernel : decode (bOf 88) 109 = .ok (.getfield 101, 3)) (by decide +kernel) (by decide +kernel) h
theorem x_88_112 : Ev d 88 112 L (.int y :: .int x :: st) μ Q = Ev d 88 113 L (.int (x * y) :: st) μ Q := e_imul (by decide +kernel : decode (bOf 88) 112 = .ok (.imul, 1))
theorem x_88_113 : Ev d 88 113 (.ref r :: L) st μ Q = Ev d 88 114 (.ref r :: L) (.ref r :: st) μ Q := e_aload_n (by decide +kernel : decode (bOf 88) 113 = .ok (.aload_n 0, 1)) rfl
theorem x_88_114 : Ev d 88 114 (.ref r :: L) st μ Q = Ev d 88 115 (.ref r :: L) (.ref r :: st) μ Q := e_aload_n (by decide +kernel : decode (bOf 88) 114 = .ok (.aload_n 0, 1)) rfl
theorem x_88_115 (h : kd t r = 5) : Ev d 88 115 L (.ref r :: st) (t, V, A, P) Q = Ev d 88 118 L (V r 13 :: st) (t, V, A, P) Q := e_getf (by decide +kernel : decode (bOf 88) 115 = .ok (.getfield 89, 3)) (by decide +kernel) (by decide +kernel) h
theorem x_88_118 (h : kd t r = 5) : Ev d 88 118 L [b0, .ref r, s0, s1] (t, V, A, P) Q = Call d 85 [.ref r, b0] (t, V, A, P) (fun v μ1 => Ev d 88 121 L (v.toList ++ [s0, s1]) μ1 Q) := e_callV (a := [b0]) (r := [s0, s1]) (by decide +kernel : decode (bOf 88) 118 = .ok (.invokevirtual 92, 3)) (by decide +kernel) (by decide +kernel) (by decide +kernel) (by omega) rfl (by simp) (by decide +kernel) h
theorem x_88_121 : Ev d 88 121 L (.int y :: .int x :: st) μ Q = Ev d 88 122 L (.int (x + y) :: st) μ Q := e_iadd (by decide +kernel : decode (bOf 88) 121 = .ok (.iadd, 1))
theorem x_88_122 : Ev d 88 122 L st μ Q = Ev d 88 124 L (.int (iI 48) :: st) μ Q := e_bipush (by decide +kernel : decode (bOf 88) 122 = .ok (.bipush 48, 2)) (by decide +kernel)
theorem x_88_124 : Ev d 88 124 L (.int y :: .int x :: st) μ Q = Ev d 88 125 L (.int (x - y) :: st) μ Q := e_isub (by decide +kernel : decode (bOf 88) 124 = .ok (.isub, 1))
theorem x_88_125 (h : kd t r = 5) : Ev d 88 125 L (.int x :: .ref r :: st) (t, V, A, P) Q = Ev d 88 128 L st (t, up1 V r (up1 (V r) 16 (.int x)), A, P) Q := e_putf (by decide +kernel : decode (bOf 88) 125 = .ok (.putfield 101, 3)) (by decide +kernel) (by decide +kernel) rfl h
theorem x_88_128 : Ev d 88 128 (.ref r :: L) st μ Q = Ev d 88 129 (.ref r :: L) (.ref r :: st) μ Q := e_aload_n (by decide +kernel : decode (bOf 88) 128 = .ok (.aload_n 0, 1)) rfl
theorem x_88_129 : Ev d 88 129 L (.ref r :: st) μ Q = Ev d 88 130 L (.ref r :: .ref r :: st) μ Q := e_dup_a (by decide +kernel : decode (bOf 88) 129 = .ok (.dup, 1))
theorem x_88_130 (h : kd t r = 5) : Ev d 88 130 L (.ref r :: st) (t, V, A, P) Q = Ev d 88 133 L (V r 13 :: st) (t, V, A, P) Q := e_getf (by decide +kernel : decode (bOf 88) 130 = .ok (.getfield 89, 3)) (by decide +kernel) (by decide +kernel) h
theorem x_88_133 : Ev d 88 133 L st μ Q = Ev d 88 134 L (.int (iI 1) :: st) μ Q := e_iconst (by decide +kernel : decode (bOf 88) 133 = .ok (.iconst 1, 1))
theorem x_88_134 : Ev d 88 134 L (.int y :: .int x :: st) μ Q = Ev d 88 135 L (.int (x + y) :: st) μ Q := e_iadd (by decide +kernel : decode (bOf 88) 134 = .ok (.iadd, 1))
theorem x_88_135 (h : kd t r = 5) : Ev d 88 135 L (.int x :: .ref r :: st) (t, V, A, P) Q = Ev d 88 138 L st (t, up1 V r (up1 (V r) 13 (.int x)), A, P) Q := e_putf (by decide +kernel : decode (bOf 88) 135 = .ok (.putfield 89, 3)) (by decide +kernel) (by decide +kernel) rfl h
theorem x_88_138 : Ev d 88 138 L st μ Q = Ev d 88 71 L st μ Q := e_goto (by decide +kernel : decode (bOf 88) 138 = .ok (.goto (-67), 3)) (by omega)
theorem x_88_141 : Ev d 88 141 (.ref r :: L) st μ Q = Ev d 88 142 (.ref r :: L) (.ref r :: st) μ Q := e_aload_n (by decide +kernel : decode (bOf 88) 141 = .ok (.aload_n 0, 1)) rfl
theorem x_88_142 : Ev d 88 142 (.ref r :: L) st μ Q = Ev d 88 143 (.ref r :: L) (.ref r :: st) μ Q := e_aload_n (by decide +kernel : decode (bOf 88) 142 = .ok (.aload_n 0, 1)) rfl
theorem x_88_143 (h : kd t r = 5) : Ev d 88 143 L (.ref r :: st) (t, V, A, P) Q = Ev d 88 146 L (V r 16 :: st) (t, V, A, P) Q := e_getf (by decide +kernel : decode (bOf 88) 143 = .ok (.getfield 101, 3)) (by decide +kernel) (by decide +kernel) h
theorem x_88_146 : Ev d 88 146 L st μ Q = Ev d 88 148 L (.int (iI 99) :: st) μ Q := e_bipush (by decide +kernel : decode (bOf 88) 146 = .ok (.bipush 99, 2)) (by decide +kernel)
theorem x_88_148 : Ev d 88 148 L (.int y :: .int x :: st) μ Q = if y < x then Ev d 88 170 L st μ Q else Ev d 88 151 L st μ Q := e_icmp_gt (by decide +kernel : decode (bOf 88) 148 = .ok (.if_icmp .gt 22, 3)) (by omega)
theorem x_88_151 : Ev d 88 151 (a0 :: .int x :: L) st μ Q = Ev d 88 152 (a0 :: .int x :: L) (.int x :: st) μ Q := e_iload_n (by decide +kernel : decode (bOf 88) 151 = .ok (.iload_n 1, 1)) rfl
theorem x_88_152 : Ev d 88 152 L st μ Q = Ev d 88 154 L (.int (iI 48) :: st) μ Q := e_bipush (by decide +kernel : decode (bOf 88) 152 = .ok (.bipush 48, 2)) (by decide +kernel)
theorem x_88_154 : Ev d 88 154 L (.int y :: .int x :: st) μ Q = if x = y then Ev d 88 157 L st μ Q else Ev d 88 174 L st μ Q := e_icmp_ne (by decide +kernel : decode (bOf 88) 154 = .ok (.if_icmp .ne 20, 3)) (by omega)
theorem x_88_157 : Ev d 88 157 (.ref r :: L) st μ Q = Ev d 88 158 (.ref r :: L) (.ref r :: st) μ Q := e_aload_n (by decide +kernel : decode (bOf 88) 157 = .ok (.aload_n 0, 1)) rfl
theorem x_88_158 (h : kd t r = 5) : Ev d 88 158 L (.ref r :: st) (t, V, A, P) Q = Ev d 88 161 L (V r 13 :: st) (t, V, A, P) Q := e_getf (by decide +kernel : decode (bOf 88) 158 = .ok (.getfield 89, 3)) (by decide +kernel) (by decide +kernel) h
theorem x_88_161 : Ev d 88 161 (.ref r :: L) st μ Q = Ev d 88 162 (.ref r :: L) (.ref r :: st) μ Q := e_aload_n (by decide +kernel : decode (bOf 88) 161 = .ok (.aload_n 0, 1)) rfl
theorem x_88_162 (h : kd t r = 5) : Ev d 88 162 L (.ref r :: st) (t, V, A, P) Q = Ev d 88 165 L (V r 14 :: st) (t, V, A, P) Q := e_getf (by decide +kernel : decode (bOf 88) 162 = .ok (.getfield 95, 3)) (by decide +kernel) (by decide +kernel) h
theorem x_88_165 : Ev d 88 165 L (.int y :: .int x :: st) μ Q = Ev d 88 166 L (.int (x - y) :: st) μ Q := e_isub (by decide +kernel : decode (bOf 88) 165 = .ok (.isub, 1))
theorem x_88_166 : Ev d 88 166 L st μ Q = Ev d 88 167 L (.int (iI 1) :: st) μ Q := e_iconst (by decide +kernel : decode (bOf 88) 166 = .ok (.iconst 1, 1))
theorem x_88_167 : Ev d 88 167 L (.int y :: .int x :: st) μ Q = if y < x then Ev d 88 170 L st μ Q else Ev d 88 174 L st μ Q := e_icmp_le (by decide +kernel : decode (bOf 88) 167 = .ok (.if_icmp .le 7, 3)) (by omega)
theorem x_88_170 : Ev d 88 170 L st μ Q = Ev d 88 171 L (.int (iI 4) :: st) μ Q := e_iconst (by decide +kernel : decode (bOf 88) 170 = .ok (.iconst 4, 1))
theorem x_88_171 : Ev d 88 171 L st μ Q = Ev d 88 175 L st μ Q := e_goto (by decide +kernel : decode (bOf 88) 171 = .ok (.goto 4, 3)) (by omega)
theorem x_88_174 : Ev d 88 174 L st μ Q = Ev d 88 175 L (.int (iI 2) :: st) μ Q := e_iconst (by decide +kernel : decode (bOf 88) 174 = .ok (.iconst 2, 1))
theorem x_88_175 (h : kd t r = 5) : Ev d 88 175 L (.int x :: .ref r :: st) (t, V, A, P) Q = Ev d 88 178 L st (t, up1 V r (up1 (V r) 15 (.int x)), A, P) Q := e_putf (by decide +kernel : decode (bOf 88) 175 = .ok (.putfield 98, 3)) (by decide +kernel) (by decide +kernel) rfl h
theorem x_88_178 : Ev d 88 178 L st μ Q = Ev d 88 227 L st μ Q := e_goto (by decide +kernel : decode (bOf 88) 178 = .ok (.goto 49, 3)) (by omega)
theorem x_88_181 : Ev d 88 181 (.ref r :: L) st μ Q = Ev d 88 182 (.ref r :: L) (.ref r :: st) μ Q := e_aload_n (by decide +kernel : decode (bOf 88) 181 = .ok (.aload_n 0, 1)) rfl
theorem x_88_182 : Ev d 88 182 L (.ref r :: st) μ Q = Ev d 88 183 L (.ref r :: .ref r :: st) μ Q := e_dup_a (by decide +kernel : decode (bOf 88) 182 = .ok (.dup, 1))
theorem x_88_183 (h : kd t r = 5) : Ev d 88 183 L (.ref r :: st) (t, V, A, P) Q = Ev d 88 186 L (V r 13 :: st) (t, V, A, P) Q := e_getf (by decide +kernel : decode (bOf 88) 183 = .ok (.getfield 89, 3)) (by decide +kernel) (by decide +kernel) h
theorem x_88_186 : Ev d 88 186 L st μ Q = Ev d 88 187 L (.int (iI 1) :: st) μ Q := e_iconst (by decide +kernel : decode (bOf 88) 186 = .ok (.iconst 1, 1))
theorem x_88_187 : Ev d 88 187 L (.int y :: .int x :: st) μ Q = Ev d 88 188 L (.int (x + y) :: st) μ Q := e_iadd (by decide +kernel : decode (bOf 88) 187 = .ok (.iadd, 1))
theorem x_88_188 (h : kd t r = 5) : Ev d 88 188 L (.int x :: .ref r :: st) (t, V, A, P) Q = Ev d 88 191 L st (t, up1 V r (up1 (V r) 13 (.int x)), A, P) Q := e_putf (by decide +kernel : decode (bOf 88) 188 = .ok (.putfield 89, 3)) (by decide +kernel) (by decide +kernel) rfl h
theorem x_88_191 : Ev d 88 191 (.ref r :: L) st μ Q = Ev d 88 192 (.ref r :: L) (.ref r :: st) μ Q := e_aload_n (by decide +kernel : decode (bOf 88) 191 = .ok (.aload_n 0, 1)) rfl
theorem x_88_192 : Ev d 88 192 (a0 :: .int x :: L) st μ Q = Ev d 88 193 (a0 :: .int x :: L) (.int x :: st) μ Q := e_iload_n (by decide +kernel : decode (bOf 88) 192 = .ok (.iload_n 1, 1)) rfl
theorem x_88_193 (h : kd t r = 5) : Ev d 88 193 L (.int x :: .ref r :: st) (t, V, A, P) Q = Ev d 88 196 L st (t, up1 V r (up1 (V r) 16 (.int x)), A, P) Q := e_putf (by decide +kernel : decode (bOf 88) 193 = .ok (.putfield 101, 3)) (by decide +kernel) (by decide +kernel) rfl h
theorem x_88_196 : Ev d 88 196 (.ref r :: L) st μ Q = Ev d 88 197 (.ref r :: L) (.ref r :: st) μ Q := e_aload_n (by decide +kernel : decode (bOf 88) 196 = .ok (.aload_n 0, 1)) rfl
theorem x_88_197 : Ev d 88 197 (a0 :: .int x :: L) st μ Q = Ev d 88 198 (a0 :: .int x :: L) (.int x :: st) μ Q := e_iload_n (by decide +kernel : decode (bOf 88) 197 = .ok (.iload_n 1, 1)) rfl
theorem x_88_198 : Ev d 88 198 L st μ Q = Ev d 88 200 L (.int (iI 59) :: st) μ Q := e_bipush (by decide +kernel : decode (bOf 88) 198 = .ok (.bipush 59, 2)) (by decide +kernel)
theorem x_88_200 : Ev d 88 200 L (.int y :: .int x :: st) μ Q = if x = y then Ev d 88 203 L st μ Q else Ev d 88 207 L st μ Q := e_icmp_ne (by decide +kernel : decode (bOf 88) 200 = .ok (.if_icmp .ne 7, 3)) (by omega)
theorem x_88_203 : Ev d 88 203 L st μ Q = Ev d 88 204 L (.int (iI 3) :: st) μ Q := e_iconst (by decide +kernel : decode (bOf 88) 203 = .ok (.iconst 3, 1))
theorem x_88_204 : Ev d 88 204 L st μ Q = Ev d 88 224 L st μ Q := e_goto (by decide +kernel : decode (bOf 88) 204 = .ok (.goto 20, 3)) (by omega)
theorem x_88_207 : Ev d 88 207 (a0 :: .int x :: L) st μ Q = Ev d 88 208 (a0 :: .int x :: L) (.int x :: st) μ Q := e_iload_n (by decide +kernel : decode (bOf 88) 207 = .ok (.iload_n 1, 1)) rfl
theorem x_88_208 : Ev d 88 208 L st μ Q = Ev d 88 210 L (.int (iI 100) :: st) μ Q := e_bipush (by decide +kernel : decode (bOf 88) 208 = .ok (.bipush 100, 2)) (by decide +kernel)
theorem x_88_210 : Ev d 88 210 L (.int y :: .int x :: st) μ Q = if x = y then Ev d 88 219 L st μ Q else Ev d 88 213 L st μ Q := e_icmp_eq (by decide +kernel : decode (bOf 88) 210 = .ok (.if_icmp .eq 9, 3)) (by omega)
theorem x_88_213 : Ev d 88 213 (a0 :: .int x :: L) st μ Q = Ev d 88 214 (a0 :: .int x :: L) (.int x :: st) μ Q := e_iload_n (by decide +kernel : decode (bOf 88) 213 = .ok (.iload_n 1, 1)) rfl
theorem x_88_214 : Ev d 88 214 L st μ Q = Ev d 88 216 L (.int (iI 107) :: st) μ Q := e_bipush (by decide +kernel : decode (bOf 88) 214 = .ok (.bipush 107, 2)) (by decide +kernel)
theorem x_88_216 : Ev d 88 216 L (.int y :: .int x :: st) μ Q = if x = y then Ev d 88 219 L st μ Q else Ev d 88 223 L st μ Q := e_icmp_ne (by decide +kernel : decode (bOf 88) 216 = .ok (.if_icmp .ne 7, 3)) (by omega)
theorem x_88_219 : Ev d 88 219 L st μ Q = Ev d 88 220 L (.int (iI 1) :: st) μ Q := e_iconst (by decide +kernel : decode (bOf 88) 219 = .ok (.iconst 1, 1))
theorem x_88_220 : Ev d 88 220 L st μ Q = Ev d 88 224 L st μ Q := e_goto (by decide +kernel : decode (bOf 88) 220 = .ok (.goto 4, 3)) (by omega)
theorem x_88_223 : Ev d 88 223 L st μ Q = Ev d 88 224 L (.int (iI 4) :: st) μ Q := e_iconst (by decide +kernel : decode (bOf 88) 223 = .ok (.iconst 4, 1))
theorem x_88_224 (h : kd t r = 5) : Ev d 88 224 L (.int x :: .ref r :: st) (t, V, A, P) Q = Ev d 88 227 L st (t, up1 V r (up1 (V r) 15 (.int x)), A, P) Q := e_putf (by decide +kernel : decode (bOf 88) 224 = .ok (.putfield 98, 3)) (by decide +kernel) (by decide +kernel) rfl h
theorem x_88_227 : Ev d 88 227 L [] μ Q = Q none μ := e_ret (by decide +kernel : decode (bOf 88) 227 = .ok (.return_, 1)) (by decide +kernel)
theorem c_89 : Call (d + 1) 89 [.ref r0, .int i1] μ Q = Ev d 89 0 [.ref r0, .int i1, .null] [] μ Q := call_ev rfl rfl
theorem x_89_0 : Ev d 89 0 (.ref r :: L) st μ Q = Ev d 89 1 (.ref r :: L) (.ref r :: st) μ Q := e_aload_n (by decide +kernel : decode (bOf 89) 0 = .ok (.aload_n 0, 1)) rfl
theorem x_89_1 (h : kd t r = 5) : Ev d 89 1 L (.ref r :: st) (t, V, A, P) Q = Ev d 89 4 L (V r 16 :: st) (t, V, A, P) Q := e_getf (by decide +kernel : decode (bOf 89) 1 = .ok (.getfield 101, 3)) (by decide +kernel) (by decide +kernel) h
theorem x_89_4 (h : a1.category = 1) : Ev d 89 4 (a0 :: a1 :: a2 :: L) (.int x :: st) μ Q = Ev d 89 5 (a0 :: a1 :: .int x :: L) st μ Q := e_istore_n (by decide +kernel : decode (bOf 89) 4 = .ok (.istore_n 2, 1)) (by show stOK _ 2 = true; simp [stOK, h])
theorem x_89_5 : Ev d 89 5 (.ref r :: L) st μ Q = Ev d 89 6 (.ref r :: L) (.ref r :: st) μ Q := e_aload_n (by decide +kernel : decode (bOf 89) 5 = .ok (.aload_n 0, 1)) rfl
theorem x_89_6 (h : kd t r = 5) : Ev d 89 6 L (.ref r :: st) (t, V, A, P) Q = Ev d 89 9 L (V r 17 :: st) (t, V, A, P) Q := e_getf (by decide +kernel : decode (bOf 89) 6 = .ok (.getfield 104, 3)) (by decide +kernel) (by decide +kernel) h
theorem x_89_9 : Ev d 89 9 L st μ Q = Ev d 89 11 L (.int (iI (-9)) :: st) μ Q := e_bipush (by decide +kernel : decode (bOf 89) 9 = .ok (.bipush (-9), 2)) (by decide +kernel)
theorem x_89_11 : Ev d 89 11 L (.int y :: .int x :: st) μ Q = if x = y then Ev d 89 14 L st μ Q else Ev d 89 33 L st μ Q := e_icmp_ne (by decide +kernel : decode (bOf 89) 11 = .ok (.if_icmp .ne 22, 3)) (by omega)
theorem x_89_14 : Ev d 89 14 (a0 :: .int x :: L) st μ Q = Ev d 89 15 (a0 :: .int x :: L) (.int x :: st) μ Q := e_iload_n (by decide +kernel : decode (bOf 89) 14 = .ok (.iload_n 1, 1)) rfl
theorem x_89_15 : Ev d 89 15 L (.int x :: st) μ Q = if x = iI 0 then Ev d 89 25 L st μ Q else Ev d 89 18 L st μ Q := e_if_eq (by decide +kernel : decode (bOf 89) 15 = .ok (.ifCond .eq 10, 3)) (by omega)
theorem x_89_18 : Ev d 89 18 (.ref r :: L) st μ Q = Ev d 89 19 (.ref r :: L) (.ref r :: st) μ Q := e_aload_n (by decide +kernel : decode (bOf 89) 18 = .ok (.aload_n 0, 1)) rfl
theorem x_89_19 (h : kd t r = 5) : Ev d 89 19 L [.ref r] (t, V, A, P) Q = Call d 88 [.ref r] (t, V, A, P) (fun v μ1 => Ev d 89 22 L (v.toList ++ []) μ1 Q) := e_callV (a := []) (r := []) (by decide +kernel : decode (bOf 89) 19 = .ok (.invokevirtual 107, 3)) (by decide +kernel) (by decide +kernel) (by decide +kernel) (by omega) rfl (by simp) (by decide +kernel) h
theorem x_89_22 : Ev d 89 22 L st μ Q = Ev d 89 33 L st μ Q := e_goto (by decide +kernel : decode (bOf 89) 22 = .ok (.goto 11, 3)) (by omega)
theorem x_89_25 : Ev d 89 25 (.ref r :: L) st μ Q = Ev d 89 26 (.ref r :: L) (.ref r :: st) μ Q := e_aload_n (by decide +kernel : decode (bOf 89) 25 = .ok (.aload_n 0, 1)) rfl
theorem x_89_26 : Ev d 89 26 (.ref r :: L) st μ Q = Ev d 89 27 (.ref r :: L) (.ref r :: st) μ Q := e_aload_n (by decide +kernel : decode (bOf 89) 26 = .ok (.aload_n 0, 1)) rfl
theorem x_89_27 (h : kd t r = 5) : Ev d 89 27 L (.ref r :: st) (t, V, A, P) Q = Ev d 89 30 L (V r 14 :: st) (t, V, A, P) Q := e_getf (by decide +kernel : decode (bOf 89) 27 = .ok (.getfield 95, 3)) (by decide +kernel) (by decide +kernel) h
theorem x_89_30 (h : kd t r = 5) : Ev d 89 30 L (.int x :: .ref r :: st) (t, V, A, P) Q = Ev d 89 33 L st (t, up1 V r (up1 (V r) 17 (.int x)), A, P) Q := e_putf (by decide +kernel : decode (bOf 89) 30 = .ok (.putfield 104, 3)) (by decide +kernel) (by decide +kernel) rfl h
theorem x_89_33 : Ev d 89 33 (a0 :: a1 :: .int x :: L) st μ Q = Ev d 89 34 (a0 :: a1 :: .int x :: L) (.int x :: st) μ Q := e_iload_n (by decide +kernel : decode (bOf 89) 33 = .ok (.iload_n 2, 1)) rfl
theorem x_89_34 : Ev d 89 34 L [.int x] μ Q = Q (some (.int x)) μ := e_iret (by decide +kernel : decode (bOf 89) 34 = .ok (.ireturn, 1)) (by decide +kernel)
theorem c_90 : Call (d + 1) 90 [.ref r0] μ Q = Ev d 90 0 [.ref r0, .null, .null] [] μ Q := call_ev rfl rfl
theorem x_90_0 : Ev d 90 0 (.ref r :: L) st μ Q = Ev d 90 1 (.ref r :: L) (.ref r :: st) μ Q := e_aload_n (by decide +kernel : decode (bOf 90) 0 = .ok (.aload_n 0, 1)) rfl
theorem x_90_1 : Ev d 90 1 L st μ Q = Ev d 90 3 L (.int (iI (-9)) :: st) μ Q := e_bipush (by decide +kernel : decode (bOf 90) 1 = .ok (.bipush (-9), 2)) (by decide +kernel)
theorem x_90_3 (h : kd t r = 5) : Ev d 90 3 L (.int x :: .ref r :: st) (t, V, A, P) Q = Ev d 90 6 L st (t, up1 V r (up1 (V r) 17 (.int x)), A, P) Q := e_putf (by decide +kernel : decode (bOf 90) 3 = .ok (.putfield 104, 3)) (by decide +kernel) (by decide +kernel) rfl h
theorem x_90_6 : Ev d 90 6 (.ref r :: L) st μ Q = Ev d 90 7 (.ref r :: L) (.ref r :: st) μ Q := e_aload_n (by decide +kernel : decode (bOf 90) 6 = .ok (.aload_n 0, 1)) rfl
theorem x_90_7 : Ev d 90 7 L st μ Q = Ev d 90 8 L (.int (iI 0) :: st) μ Q := e_iconst (by decide +kernel : decode (bOf 90) 7 = .ok (.iconst 0, 1))
theorem x_90_8 (h : kd t r = 5) : Ev d 90 8 L (.int x :: .ref r :: st) (t, V, A, P) Q = Ev d 90 11 L st (t, up1 V r (up1 (V r) 13 (.int x)), A, P) Q := e_putf (by decide +kernel : decode (bOf 90) 8 = .ok (.putfield 89, 3)) (by decide +kernel) (by decide +kernel) rfl h
theorem x_90_11 : Ev d 90 11 (.ref r :: L) st μ Q = Ev d 90 12 (.ref r :: L) (.ref r :: st) μ Q := e_aload_n (by decide +kernel : decode (bOf 90) 11 = .ok (.aload_n 0, 1)) rfl
theorem x_90_12 : Ev d 90 12 L st μ Q = Ev d 90 13 L (.int (iI 0) :: st) μ Q := e_iconst (by decide +kernel : decode (bOf 90) 12 = .ok (.iconst 0, 1))
theorem x_90_13 (h : kd t r = 5) : Ev d 90 13 L (.int x :: .ref r :: st) (t, V, A, P) Q = Ev d 90 16 L st (t, up1 V r (up1 (V r) 9 (.int x)), A, P) Q := e_putf (by decide +kernel : decode (bOf 90) 13 = .ok (.putfield 110, 3)) (by decide +kernel) (by decide +kernel) rfl h
theorem x_90_16 : Ev d 90 16 (.ref r :: L) st μ Q = Ev d 90 17 (.ref r :: L) (.ref r :: st) μ Q := e_aload_n (by decide +kernel : decode (bOf 90) 16 = .ok (.aload_n 0, 1)) rfl
theorem x_90_17 (h : kd t r = 5) : Ev d 90 17 L [.ref r] (t, V, A, P) Q = Call d 88 [.ref r] (t, V, A, P) (fun v μ1 => Ev d 90 20 L (v.toList ++ []) μ1 Q) := e_callV (a := []) (r := []) (by decide +kernel : decode (bOf 90) 17 = .ok (.invokevirtual 107, 3)) (by decide +kernel) (by decide +kernel) (by decide +kernel) (by omega) rfl (by simp) (by decide +kernel) h
theorem x_90_20 : Ev d 90 20 (.ref r :: L) st μ Q = Ev d 90 21 (.ref r :: L) (.ref r :: st) μ Q := e_aload_n (by decide +kernel : decode (bOf 90) 20 = .ok (.aload_n 0, 1)) rfl
theorem x_90_21 (h : kd t r = 5) : Ev d 90 21 L (.ref r :: st) (t, V, A, P) Q = Ev d 90 24 L (V r 17 :: st) (t, V, A, P) Q := e_getf (by decide +kernel : decode (bOf 90) 21 = .ok (.getfield 104, 3)) (by decide +kernel) (by decide +kernel) h
theorem x_90_24 : Ev d 90 24 L st μ Q = Ev d 90 26 L (.int (iI (-9)) :: st) μ Q := e_bipush (by decide +kernel : decode (bOf 90) 24 = .ok (.bipush (-9), 2)) (by decide +kernel)
theorem x_90_26 : Ev d 90 26 L (.int y :: .int x :: st) μ Q = if x = y then Ev d 90 29 L st μ Q else Ev d 90 162 L st μ Q := e_icmp_ne (by decide +kernel : decode (bOf 90) 26 = .ok (.if_icmp .ne 136, 3)) (by omega)
theorem x_90_29 : Ev d 90 29 (.ref r :: L) st μ Q = Ev d 90 30 (.ref r :: L) (.ref r :: st) μ Q := e_aload_n (by decide +kernel : decode (bOf 90) 29 = .ok (.aload_n 0, 1)) rfl
theorem x_90_30 (h : kd t r = 5) : Ev d 90 30 L (.ref r :: st) (t, V, A, P) Q = Ev d 90 33 L (V r 15 :: st) (t, V, A, P) Q := e_getf (by decide +kernel : decode (bOf 90) 30 = .ok (.getfield 98, 3)) (by decide +kernel) (by decide +kernel) h
theorem x_90_33 : Ev d 90 33 L (.int x :: st) μ Q = if x = iI 0 then Ev d 90 36 L st μ Q else Ev d 90 43 L st μ Q := e_if_ne (by decide +kernel : decode (bOf 90) 33 = .ok (.ifCond .ne 10, 3)) (by omega)
theorem x_90_36 : Ev d 90 36 (.ref r :: L) st μ Q = Ev d 90 37 (.ref r :: L) (.ref r :: st) μ Q := e_aload_n (by decide +kernel : decode (bOf 90) 36 = .ok (.aload_n 0, 1)) rfl
theorem x_90_37 (h : kd t r = 5) : Ev d 90 37 L (.ref r :: st) (t, V, A, P) Q = Ev d 90 40 L (V r 9 :: st) (t, V, A, P) Q := e_getf (by decide +kernel : decode (bOf 90) 37 = .ok (.getfield 110, 3)) (by decide +kernel) (by decide +kernel) h
theorem x_90_40 : Ev d 90 40 L (.int x :: st) μ Q = if x = iI 0 then Ev d 90 43 L st μ Q else Ev d 90 162 L st μ Q := e_if_ne (by decide +kernel : decode (bOf 90) 40 = .ok (.ifCond .ne 122, 3)) (by omega)
theorem x_90_43 : Ev d 90 43 (.ref r :: L) st μ Q = Ev d 90 44 (.ref r :: L) (.ref r :: st) μ Q := e_aload_n (by decide +kernel : decode (bOf 90) 43 = .ok (.aload_n 0, 1)) rfl
theorem x_90_44 : Ev d 90 44 (.ref r :: L) st μ Q = Ev d 90 45 (.ref r :: L) (.ref r :: st) μ Q := e_aload_n (by decide +kernel : decode (bOf 90) 44 = .ok (.aload_n 0, 1)) rfl
theorem x_90_45 (h : kd t r = 5) : Ev d 90 45 L (.ref r :: st) (t, V, A, P) Q = Ev d 90 48 L (V r 15 :: st) (t, V, A, P) Q := e_getf (by decide +kernel : decode (bOf 90) 45 = .ok (.getfield 98, 3)) (by decide +kernel) (by decide +kernel) h
theorem x_90_48 : Ev d 90 48 L st μ Q = Ev d 90 49 L (.int (iI 1) :: st) μ Q := e_iconst (by decide +kernel : decode (bOf 90) 48 = .ok (.iconst 1, 1))
theorem x_90_49 : Ev d 90 49 L (.int y :: .int x :: st) μ Q = if x = y then Ev d 90 52 L st μ Q else Ev d 90 56 L st μ Q := e_icmp_ne (by decide +kernel : decode (bOf 90) 49 = .ok (.if_icmp .ne 7, 3)) (by omega)
theorem x_90_52 : Ev d 90 52 L st μ Q = Ev d 90 53 L (.int (iI 1) :: st) μ Q := e_iconst (by decide +kernel : decode (bOf 90) 52 = .ok (.iconst 1, 1))
theorem x_90_53 : Ev d 90 53 L st μ Q = Ev d 90 57 L st μ Q := e_goto (by decide +kernel : decode (bOf 90) 53 = .ok (.goto 4, 3)) (by omega)
theorem x_90_56 : Ev d 90 56 L st μ Q = Ev d 90 57 L (.int (iI 0) :: st) μ Q := e_iconst (by decide +kernel : decode (bOf 90) 56 = .ok (.iconst 0, 1))
theorem x_90_57 (h : kd t r = 5) : Ev d 90 57 L [b0, .ref r] (t, V, A, P) Q = Call d 89 [.ref r, b0] (t, V, A, P) (fun v μ1 => Ev d 90 60 L (v.toList ++ []) μ1 Q) := e_callV (a := [b0]) (r := []) (by decide +kernel : decode (bOf 90) 57 = .ok (.invokevirtual 113, 3)) (by decide +kernel) (by decide +kernel) (by decide +kernel) (by omega) rfl (by simp) (by decide +kernel) h
theorem x_90_60 : Ev d 90 60 L st μ Q = Ev d 90 62 L (.int (iI 100) :: st) μ Q := e_bipush (by decide +kernel : decode (bOf 90) 60 = .ok (.bipush 100, 2)) (by decide +kernel)
theorem x_90_62 : Ev d 90 62 L (.int y :: .int x :: st) μ Q = if x = y then Ev d 90 65 L st μ Q else Ev d 90 69 L st μ Q := e_icmp_ne (by decide +kernel : decode (bOf 90) 62 = .ok (.if_icmp .ne 7, 3)) (by omega)
theorem x_90_65 : Ev d 90 65 L st μ Q = Ev d 90 66 L (.int (iI 1) :: st) μ Q := e_iconst (by decide +kernel : decode (bOf 90) 65 = .ok (.iconst 1, 1))
theorem x_90_66 : Ev d 90 66 L st μ Q = Ev d 90 70 L st μ Q := e_goto (by decide +kernel : decode (bOf 90) 66 = .ok (.goto 4, 3)) (by omega)
theorem x_90_69 : Ev d 90 69 L st μ Q = Ev d 90 70 L (.int (iI 0) :: st) μ Q := e_iconst (by decide +kernel : decode (bOf 90) 69 = .ok (.iconst 0, 1))
theorem x_90_70 (h : a0.category = 1) : Ev d 90 70 (a0 :: a1 :: L) (.int x :: st) μ Q = Ev d 90 71 (a0 :: .int x :: L) st μ Q := e_istore_n (by decide +kernel : decode (bOf 90) 70 = .ok (.istore_n 1, 1)) (by show stOK _ 1 = true; simp [stOK, h])
theorem x_90_71 : Ev d 90 71 (.ref r :: L) st μ Q = Ev d 90 72 (.ref r :: L) (.ref r :: st) μ Q := e_aload_n (by decide +kernel : decode (bOf 90) 71 = .ok (.aload_n 0, 1)) rfl
theorem x_90_72 : Ev d 90 72 (.ref r :: L) st μ Q = Ev d 90 73 (.ref r :: L) (.ref r :: st) μ Q := e_aload_n (by decide +kernel : decode (bOf 90) 72 = .ok (.aload_n 0, 1)) rfl
theorem x_90_73 (h : kd t r = 5) : Ev d 90 73 L (.ref r :: st) (t, V, A, P) Q = Ev d 90 76 L (V r 15 :: st) (t, V, A, P) Q := e_getf (by decide +kernel : decode (bOf 90) 73 = .ok (.getfield 98, 3)) (by decide +kernel) (by decide +kernel) h
theorem x_90_76 : Ev d 90 76 L st μ Q = Ev d 90 77 L (.int (iI 2) :: st) μ Q := e_iconst (by decide +kernel : decode (bOf 90) 76 = .ok (.iconst 2, 1))
theorem x_90_77 : Ev d 90 77 L (.int y :: .int x :: st) μ Q = if x = y then Ev d 90 80 L st μ Q else Ev d 90 105 L st μ Q := e_icmp_ne (by decide +kernel : decode (bOf 90) 77 = .ok (.if_icmp .ne 28, 3)) (by omega)
theorem x_90_80 : Ev d 90 80 (.ref r :: L) st μ Q = Ev d 90 81 (.ref r :: L) (.ref r :: st) μ Q := e_aload_n (by decide +kernel : decode (bOf 90) 80 = .ok (.aload_n 0, 1)) rfl
theorem x_90_81 (h : kd t r = 5) : Ev d 90 81 L (.ref r :: st) (t, V, A, P) Q = Ev d 90 84 L (V r 16 :: st) (t, V, A, P) Q := e_getf (by decide +kernel : decode (bOf 90) 81 = .ok (.getfield 101, 3)) (by decide +kernel) (by decide +kernel) h
theorem x_90_84 : Ev d 90 84 L st μ Q = Ev d 90 85 L (.int (iI 0) :: st) μ Q := e_iconst (by decide +kernel : decode (bOf 90) 84 = .ok (.iconst 0, 1))
theorem x_90_85 : Ev d 90 85 (a0 :: .int x :: L) st μ Q = Ev d 90 86 (a0 :: .int x :: L) (.int x :: st) μ Q := e_iload_n (by decide +kernel : decode (bOf 90) 85 = .ok (.iload_n 1, 1)) rfl
theorem x_90_86 : Ev d 90 86 L (.int x :: st) μ Q = if x = iI 0 then Ev d 90 94 L st μ Q else Ev d 90 89 L st μ Q := e_if_eq (by decide +kernel : decode (bOf 90) 86 = .ok (.ifCond .eq 8, 3)) (by omega)
theorem x_90_89 : Ev d 90 89 L st μ Q = Ev d 90 91 L (.int (iI 30) :: st) μ Q := e_bipush (by decide +kernel : decode (bOf 90) 89 = .ok (.bipush 30, 2)) (by decide +kernel)
theorem x_90_91 : Ev d 90 91 L st μ Q = Ev d 90 95 L st μ Q := e_goto (by decide +kernel : decode (bOf 90) 91 = .ok (.goto 4, 3)) (by omega)
theorem x_90_94 : Ev d 90 94 L st μ Q = Ev d 90 95 L (.int (iI 2) :: st) μ Q := e_iconst (by decide +kernel : decode (bOf 90) 94 = .ok (.iconst 2, 1))
theorem x_90_95 : Ev d 90 95 L [b2, b1, b0, s0] μ Q = Call d 79 [b0, b1, b2] μ (fun v μ1 => Ev d 90 98 L (v.toList ++ [s0]) μ1 Q) := e_callS (a := [b0, b1, b2]) (r := [s0]) (by decide +kernel : decode (bOf 90) 95 = .ok (.invokestatic 85, 3)) (by decide +kernel) (by decide +kernel) (by omega) rfl (by simp)
theorem x_90_98 : Ev d 90 98 L (.int x :: st) μ Q = if x = iI 0 then Ev d 90 105 L st μ Q else Ev d 90 101 L st μ Q := e_if_eq (by decide +kernel : decode (bOf 90) 98 = .ok (.ifCond .eq 7, 3)) (by omega)
theorem x_90_101 : Ev d 90 101 L st μ Q = Ev d 90 102 L (.int (iI 1) :: st) μ Q := e_iconst (by decide +kernel : decode (bOf 90) 101 = .ok (.iconst 1, 1))
theorem x_90_102 : Ev d 90 102 L st μ Q = Ev d 90 106 L st μ Q := e_goto (by decide +kernel : decode (bOf 90) 102 = .ok (.goto 4, 3)) (by omega)
theorem x_90_105 : Ev d 90 105 L st μ Q = Ev d 90 106 L (.int (iI 0) :: st) μ Q := e_iconst (by decide +kernel : decode (bOf 90) 105 = .ok (.iconst 0, 1))
theorem x_90_106 (h : kd t r = 5) : Ev d 90 106 L [b0, .ref r] (t, V, A, P) Q = Call d 89 [.ref r, b0] (t, V, A, P) (fun v μ1 => Ev d 90 109 L (v.toList ++ []) μ1 Q) := e_callV (a := [b0]) (r := []) (by decide +kernel : decode (bOf 90) 106 = .ok (.invokevirtual 113, 3)) (by decide +kernel) (by decide +kernel) (by decide +kernel) (by omega) rfl (by simp) (by decide +kernel) h
theorem x_90_109 (h : a1.category = 1) : Ev d 90 109 (a0 :: a1 :: a2 :: L) (.int x :: st) μ Q = Ev d 90 110 (a0 :: a1 :: .int x :: L) st μ Q := e_istore_n (by decide +kernel : decode (bOf 90) 109 = .ok (.istore_n 2, 1)) (by show stOK _ 2 = true; simp [stOK, h])
theorem x_90_110 : Ev d 90 110 (.ref r :: L) st μ Q = Ev d 90 111 (.ref r :: L) (.ref r :: st) μ Q := e_aload_n (by decide +kernel : decode (bOf 90) 110 = .ok (.aload_n 0, 1)) rfl
theorem x_90_111 : Ev d 90 111 (.ref r :: L) st μ Q = Ev d 90 112 (.ref r :: L) (.ref r :: st) μ Q := e_aload_n (by decide +kernel : decode (bOf 90) 111 = .ok (.aload_n 0, 1)) rfl
theorem x_90_112 (h : kd t r = 5) : Ev d 90 112 L (.ref r :: st) (t, V, A, P) Q = Ev d 90 115 L (V r 15 :: st) (t, V, A, P) Q := e_getf (by decide +kernel : decode (bOf 90) 112 = .ok (.getfield 98, 3)) (by decide +kernel) (by decide +kernel) h
theorem x_90_115 : Ev d 90 115 L st μ Q = Ev d 90 116 L (.int (iI 3) :: st) μ Q := e_iconst (by decide +kernel : decode (bOf 90) 115 = .ok (.iconst 3, 1))
theorem x_90_116 : Ev d 90 116 L (.int y :: .int x :: st) μ Q = if x = y then Ev d 90 119 L st μ Q else Ev d 90 123 L st μ Q := e_icmp_ne (by decide +kernel : decode (bOf 90) 116 = .ok (.if_icmp .ne 7, 3)) (by omega)
theorem x_90_119 : Ev d 90 119 L st μ Q = Ev d 90 120 L (.int (iI 1) :: st) μ Q := e_iconst (by decide +kernel : decode (bOf 90) 119 = .ok (.iconst 1, 1))
theorem x_90_120 : Ev d 90 120 L st μ Q = Ev d 90 124 L st μ Q := e_goto (by decide +kernel : decode (bOf 90) 120 = .ok (.goto 4, 3)) (by omega)
theorem x_90_123 : Ev d 90 123 L st μ Q = Ev d 90 124 L (.int (iI 0) :: st) μ Q := e_iconst (by decide +kernel : decode (bOf 90) 123 = .ok (.iconst 0, 1))
theorem x_90_124 (h : kd t r = 5) : Ev d 90 124 L [b0, .ref r] (t, V, A, P) Q = Call d 89 [.ref r, b0] (t, V, A, P) (fun v μ1 => Ev d 90 127 L (v.toList ++ []) μ1 Q) := e_callV (a := [b0]) (r := []) (by decide +kernel : decode (bOf 90) 124 = .ok (.invokevirtual 113, 3)) (by decide +kernel) (by decide +kernel) (by decide +kernel) (by omega) rfl (by simp) (by decide +kernel) h
theorem x_90_127 : Ev d 90 127 L (.int x :: st) μ Q = Ev d 90 128 L st μ Q := e_pop (by decide +kernel : decode (bOf 90) 127 = .ok (.pop, 1))
theorem x_90_128 : Ev d 90 128 (.ref r :: L) st μ Q = Ev d 90 129 (.ref r :: L) (.ref r :: st) μ Q := e_aload_n (by decide +kernel : decode (bOf 90) 128 = .ok (.aload_n 0, 1)) rfl
theorem x_90_129 (h : kd t r = 5) : Ev d 90 129 L (.ref r :: st) (t, V, A, P) Q = Ev d 90 132 L (V r 8 :: st) (t, V, A, P) Q := e_getf (by decide +kernel : decode (bOf 90) 129 = .ok (.getfield 26, 3)) (by decide +kernel) (by decide +kernel) h
theorem x_90_132 : Ev d 90 132 (.ref r :: L) st μ Q = Ev d 90 133 (.ref r :: L) (.ref r :: st) μ Q := e_aload_n (by decide +kernel : decode (bOf 90) 132 = .ok (.aload_n 0, 1)) rfl
theorem x_90_133 (h : kd t r = 5) : Ev d 90 133 L (.ref r :: st) (t, V, A, P) Q = Ev d 90 136 L (V r 9 :: st) (t, V, A, P) Q := e_getf (by decide +kernel : decode (bOf 90) 133 = .ok (.getfield 110, 3)) (by decide +kernel) (by decide +kernel) h
theorem x_90_136 : Ev d 90 136 (a0 :: .int x :: L) st μ Q = Ev d 90 137 (a0 :: .int x :: L) (.int x :: st) μ Q := e_iload_n (by decide +kernel : decode (bOf 90) 136 = .ok (.iload_n 1, 1)) rfl
theorem x_90_137 : Ev d 90 137 L (.int x :: st) μ Q = if x = iI 0 then Ev d 90 144 L st μ Q else Ev d 90 140 L st μ Q := e_if_eq (by decide +kernel : decode (bOf 90) 137 = .ok (.ifCond .eq 7, 3)) (by omega)
theorem x_90_140 : Ev d 90 140 (a0 :: a1 :: .int x :: L) st μ Q = Ev d 90 141 (a0 :: a1 :: .int x :: L) (.int x :: st) μ Q := e_iload_n (by decide +kernel : decode (bOf 90) 140 = .ok (.iload_n 2, 1)) rfl
theorem x_90_141 : Ev d 90 141 L st μ Q = Ev d 90 148 L st μ Q := e_goto (by decide +kernel : decode (bOf 90) 141 = .ok (.goto 7, 3)) (by omega)
theorem x_90_144 : Ev d 90 144 L st μ Q = Ev d 90 146 L (.int (iI 31) :: st) μ Q := e_bipush (by decide +kernel : decode (bOf 90) 144 = .ok (.bipush 31, 2)) (by decide +kernel)
theorem x_90_146 : Ev d 90 146 (a0 :: a1 :: .int x :: L) st μ Q = Ev d 90 147 (a0 :: a1 :: .int x :: L) (.int x :: st) μ Q := e_iload_n (by decide +kernel : decode (bOf 90) 146 = .ok (.iload_n 2, 1)) rfl
theorem x_90_147 : Ev d 90 147 L (.int y :: .int x :: st) μ Q = Ev d 90 148 L (.int (x + y) :: st) μ Q := e_iadd (by decide +kernel : decode (bOf 90) 147 = .ok (.iadd, 1))
theorem x_90_148 (h : kd t r = 6) (hi : inB x (ln t r) = true) : Ev d 90 148 L (.int y :: .int x :: .ref r :: st) (t, V, A, P) Q = Ev d 90 149 L st (t, V, up1 A r (upd (A r) x.toNatClampNeg y), P) Q := e_iast (by decide +kernel : decode (bOf 90) 148 = .ok (.iastore, 1)) h hi
theorem x_90_149 : Ev d 90 149 (.ref r :: L) st μ Q = Ev d 90 150 (.ref r :: L) (.ref r :: st) μ Q := e_aload_n (by decide +kernel : decode (bOf 90) 149 = .ok (.aload_n 0, 1)) rfl
theorem x_90_150 : Ev d 90 150 L (.ref r :: st) μ Q = Ev d 90 151 L (.ref r :: .ref r :: st) μ Q := e_dup_a (by decide +kernel : decode (bOf 90) 150 = .ok (.dup, 1))
theorem x_90_151 (h : kd t r = 5) : Ev d 90 151 L (.ref r :: st) (t, V, A, P) Q = Ev d 90 154 L (V r 9 :: st) (t, V, A, P) Q := e_getf (by decide +kernel : decode (bOf 90) 151 = .ok (.getfield 110, 3)) (by decide +kernel) (by decide +kernel) h
theorem x_90_154 : Ev d 90 154 L st μ Q = Ev d 90 155 L (.int (iI 1) :: st) μ Q := e_iconst (by decide +kernel : decode (bOf 90) 154 = .ok (.iconst 1, 1))
theorem x_90_155 : Ev d 90 155 L (.int y :: .int x :: st) μ Q = Ev d 90 156 L (.int (x + y) :: st) μ Q := e_iadd (by decide +kernel : decode (bOf 90) 155 = .ok (.iadd, 1))
theorem x_90_156 (h : kd t r = 5) : Ev d 90 156 L (.int x :: .ref r :: st) (t, V, A, P) Q = Ev d 90 159 L st (t, up1 V r (up1 (V r) 9 (.int x)), A, P) Q := e_putf (by decide +kernel : decode (bOf 90) 156 = .ok (.putfield 110, 3)) (by decide +kernel) (by decide +kernel) rfl h
theorem x_90_159 : Ev d 90 159 L st μ Q = Ev d 90 20 L st μ Q := e_goto (by decide +kernel : decode (bOf 90) 159 = .ok (.goto (-139), 3)) (by omega)
theorem x_90_162 : Ev d 90 162 L [] μ Q = Q none μ := e_ret (by decide +kernel : decode (bOf 90) 162 = .ok (.return_, 1)) (by decide +kernel)
theorem c_91 : Call (d + 1) 91 [.ref r0] μ Q = Ev d 91 0 [.ref r0, .null] [] μ Q := call_ev rfl rfl
theorem x_91_0 : Ev d 91 0 (.ref r :: L) st μ Q = Ev d 91 1 (.ref r :: L) (.ref r :: st) μ Q := e_aload_n (by decide +kernel : decode (bOf 91) 0 = .ok (.aload_n 0, 1)) rfl
theorem x_91_1 : Ev d 91 1 L st μ Q = Ev d 91 2 L (.int (iI 0) :: st) μ Q := e_iconst (by decide +kernel : decode (bOf 91) 1 = .ok (.iconst 0, 1))
theorem x_91_2 (h : kd t r = 5) : Ev d 91 2 L (.int x :: .ref r :: st) (t, V, A, P) Q = Ev d 91 5 L st (t, up1 V r (up1 (V r) 0 (.int x)), A, P) Q := e_putf (by decide +kernel : decode (bOf 91) 2 = .ok (.putfield 59, 3)) (by decide +kernel) (by decide +kernel) rfl h
theorem x_91_5 : Ev d 91 5 (.ref r :: L) st μ Q = Ev d 91 6 (.ref r :: L) (.ref r :: st) μ Q := e_aload_n (by decide +kernel : decode (bOf 91) 5 = .ok (.aload_n 0, 1)) rfl
theorem x_91_6 (h : kd t r = 5) : Ev d 91 6 L [.ref r] (t, V, A, P) Q = Call d 90 [.ref r] (t, V, A, P) (fun v μ1 => Ev d 91 9 L (v.toList ++ []) μ1 Q) := e_callV (a := []) (r := []) (by decide +kernel : decode (bOf 91) 6 = .ok (.invokevirtual 117, 3)) (by decide +kernel) (by decide +kernel) (by decide +kernel) (by omega) rfl (by simp) (by decide +kernel) h
theorem x_91_9 : Ev d 91 9 (.ref r :: L) st μ Q = Ev d 91 10 (.ref r :: L) (.ref r :: st) μ Q := e_aload_n (by decide +kernel : decode (bOf 91) 9 = .ok (.aload_n 0, 1)) rfl
theorem x_91_10 (h : kd t r = 5) : Ev d 91 10 L (.ref r :: st) (t, V, A, P) Q = Ev d 91 13 L (V r 17 :: st) (t, V, A, P) Q := e_getf (by decide +kernel : decode (bOf 91) 10 = .ok (.getfield 104, 3)) (by decide +kernel) (by decide +kernel) h
theorem x_91_13 : Ev d 91 13 L st μ Q = Ev d 91 15 L (.int (iI (-9)) :: st) μ Q := e_bipush (by decide +kernel : decode (bOf 91) 13 = .ok (.bipush (-9), 2)) (by decide +kernel)
theorem x_91_15 : Ev d 91 15 L (.int y :: .int x :: st) μ Q = if x = y then Ev d 91 26 L st μ Q else Ev d 91 18 L st μ Q := e_icmp_eq (by decide +kernel : decode (bOf 91) 15 = .ok (.if_icmp .eq 11, 3)) (by omega)
theorem x_91_18 : Ev d 91 18 L st μ Q = Ev d 91 20 L (.int (iI (-10)) :: st) μ Q := e_bipush (by decide +kernel : decode (bOf 91) 18 = .ok (.bipush (-10), 2)) (by decide +kernel)
theorem x_91_20 : Ev d 91 20 (.ref r :: L) st μ Q = Ev d 91 21 (.ref r :: L) (.ref r :: st) μ Q := e_aload_n (by decide +kernel : decode (bOf 91) 20 = .ok (.aload_n 0, 1)) rfl
theorem x_91_21 (h : kd t r = 5) : Ev d 91 21 L (.ref r :: st) (t, V, A, P) Q = Ev d 91 24 L (V r 17 :: st) (t, V, A, P) Q := e_getf (by decide +kernel : decode (bOf 91) 21 = .ok (.getfield 104, 3)) (by decide +kernel) (by decide +kernel) h
theorem x_91_24 : Ev d 91 24 L (.int y :: .int x :: st) μ Q = Ev d 91 25 L (.int (x - y) :: st) μ Q := e_isub (by decide +kernel : decode (bOf 91) 24 = .ok (.isub, 1))
theorem x_91_25 : Ev d 91 25 L [.int x] μ Q = Q (some (.int x)) μ := e_iret (by decide +kernel : decode (bOf 91) 25 = .ok (.ireturn, 1)) (by decide +kernel)
theorem x_91_26 : Ev d 91 26 (.ref r :: L) st μ Q = Ev d 91 27 (.ref r :: L) (.ref r :: st) μ Q := e_aload_n (by decide +kernel : decode (bOf 91) 26 = .ok (.aload_n 0, 1)) rfl
theorem x_91_27 (h : kd t r = 5) : Ev d 91 27 L (.ref r :: st) (t, V, A, P) Q = Ev d 91 30 L (V r 1 :: st) (t, V, A, P) Q := e_getf (by decide +kernel : decode (bOf 91) 27 = .ok (.getfield 7, 3)) (by decide +kernel) (by decide +kernel) h
theorem x_91_30 : Ev d 91 30 L st μ Q = Ev d 91 31 L (.int (iI 0) :: st) μ Q := e_iconst (by decide +kernel : decode (bOf 91) 30 = .ok (.iconst 0, 1))
theorem x_91_31 (h : kd t r = 6) (hi : inB x (ln t r) = true) : Ev d 91 31 L (.int x :: .ref r :: st) (t, V, A, P) Q = Ev d 91 32 L (.int (A r x.toNatClampNeg) :: st) (t, V, A, P) Q := e_iald (by decide +kernel : decode (bOf 91) 31 = .ok (.iaload, 1)) h hi
theorem x_91_32 : Ev d 91 32 (.ref r :: L) st μ Q = Ev d 91 33 (.ref r :: L) (.ref r :: st) μ Q := e_aload_n (by decide +kernel : decode (bOf 91) 32 = .ok (.aload_n 0, 1)) rfl
theorem x_91_33 (h : kd t r = 5) : Ev d 91 33 L (.ref r :: st) (t, V, A, P) Q = Ev d 91 36 L (V r 9 :: st) (t, V, A, P) Q := e_getf (by decide +kernel : decode (bOf 91) 33 = .ok (.getfield 110, 3)) (by decide +kernel) (by decide +kernel) h
theorem x_91_36 : Ev d 91 36 L (.int y :: .int x :: st) μ Q = Ev d 91 37 L (.int (x + y) :: st) μ Q := e_iadd (by decide +kernel : decode (bOf 91) 36 = .ok (.iadd, 1))
theorem x_91_37 : Ev d 91 37 L st μ Q = Ev d 91 39 L (.int (iI 32) :: st) μ Q := e_bipush (by decide +kernel : decode (bOf 91) 37 = .ok (.bipush 32, 2)) (by decide +kernel)
theorem x_91_39 : Ev d 91 39 L (.int y :: .int x :: st) μ Q = if y < x then Ev d 91 42 L st μ Q else Ev d 91 45 L st μ Q := e_icmp_le (by decide +kernel : decode (bOf 91) 39 = .ok (.if_icmp .le 6, 3)) (by omega)
theorem x_91_42 : Ev d 91 42 L st μ Q = Ev d 91 44 L (.int (iI (-3)) :: st) μ Q := e_bipush (by decide +kernel : decode (bOf 91) 42 = .ok (.bipush (-3), 2)) (by decide +kernel)
theorem x_91_44 : Ev d 91 44 L [.int x] μ Q = Q (some (.int x)) μ := e_iret (by decide +kernel : decode (bOf 91) 44 = .ok (.ireturn, 1)) (by decide +kernel)
theorem x_91_45 : Ev d 91 45 (.ref r :: L) st μ Q = Ev d 91 46 (.ref r :: L) (.ref r :: st) μ Q := e_aload_n (by decide +kernel : decode (bOf 91) 45 = .ok (.aload_n 0, 1)) rfl
theorem x_91_46 (h : kd t r = 5) : Ev d 91 46 L [.ref r] (t, V, A, P) Q = Call d 92 [.ref r] (t, V, A, P) (fun v μ1 => Ev d 91 49 L (v.toList ++ []) μ1 Q) := e_callV (a := []) (r := []) (by decide +kernel : decode (bOf 91) 46 = .ok (.invokevirtual 120, 3)) (by decide +kernel) (by decide +kernel) (by decide +kernel) (by omega) rfl (by simp) (by decide +kernel) h
theorem x_91_49 : Ev d 91 49 L st μ Q = Ev d 91 50 L (.int (iI 0) :: st) μ Q := e_iconst (by decide +kernel : decode (bOf 91) 49 = .ok (.iconst 0, 1))
theorem x_91_50 (h : a0.category = 1) : Ev d 91 50 (a0 :: a1 :: L) (.int x :: st) μ Q = Ev d 91 51 (a0 :: .int x :: L) st μ Q := e_istore_n (by decide +kernel : decode (bOf 91) 50 = .ok (.istore_n 1, 1)) (by show stOK _ 1 = true; simp [stOK, h])
theorem x_91_51 : Ev d 91 51 (a0 :: .int x :: L) st μ Q = Ev d 91 52 (a0 :: .int x :: L) (.int x :: st) μ Q := e_iload_n (by decide +kernel : decode (bOf 91) 51 = .ok (.iload_n 1, 1)) rfl
theorem x_91_52 : Ev d 91 52 (.ref r :: L) st μ Q = Ev d 91 53 (.ref r :: L) (.ref r :: st) μ Q := e_aload_n (by decide +kernel : decode (bOf 91) 52 = .ok (.aload_n 0, 1)) rfl
theorem x_91_53 (h : kd t r = 5) : Ev d 91 53 L (.ref r :: st) (t, V, A, P) Q = Ev d 91 56 L (V r 9 :: st) (t, V, A, P) Q := e_getf (by decide +kernel : decode (bOf 91) 53 = .ok (.getfield 110, 3)) (by decide +kernel) (by decide +kernel) h
theorem x_91_56 : Ev d 91 56 L (.int y :: .int x :: st) μ Q = if x < y then Ev d 91 59 L st μ Q else Ev d 91 76 L st μ Q := e_icmp_ge (by decide +kernel : decode (bOf 91) 56 = .ok (.if_icmp .ge 20, 3)) (by omega)
theorem x_91_59 : Ev d 91 59 (.ref r :: L) st μ Q = Ev d 91 60 (.ref r :: L) (.ref r :: st) μ Q := e_aload_n (by decide +kernel : decode (bOf 91) 59 = .ok (.aload_n 0, 1)) rfl
theorem x_91_60 : Ev d 91 60 (.ref r :: L) st μ Q = Ev d 91 61 (.ref r :: L) (.ref r :: st) μ Q := e_aload_n (by decide +kernel : decode (bOf 91) 60 = .ok (.aload_n 0, 1)) rfl
theorem x_91_61 (h : kd t r = 5) : Ev d 91 61 L (.ref r :: st) (t, V, A, P) Q = Ev d 91 64 L (V r 8 :: st) (t, V, A, P) Q := e_getf (by decide +kernel : decode (bOf 91) 61 = .ok (.getfield 26, 3)) (by decide +kernel) (by decide +kernel) h
theorem x_91_64 : Ev d 91 64 (a0 :: .int x :: L) st μ Q = Ev d 91 65 (a0 :: .int x :: L) (.int x :: st) μ Q := e_iload_n (by decide +kernel : decode (bOf 91) 64 = .ok (.iload_n 1, 1)) rfl
theorem x_91_65 (h : kd t r = 6) (hi : inB x (ln t r) = true) : Ev d 91 65 L (.int x :: .ref r :: st) (t, V, A, P) Q = Ev d 91 66 L (.int (A r x.toNatClampNeg) :: st) (t, V, A, P) Q := e_iald (by decide +kernel : decode (bOf 91) 65 = .ok (.iaload, 1)) h hi
theorem x_91_66 (h : kd t r = 5) : Ev d 91 66 L [b0, .ref r] (t, V, A, P) Q = Call d 94 [.ref r, b0] (t, V, A, P) (fun v μ1 => Ev d 91 69 L (v.toList ++ []) μ1 Q) := e_callV (a := [b0]) (r := []) (by decide +kernel : decode (bOf 91) 66 = .ok (.invokevirtual 123, 3)) (by decide +kernel) (by decide +kernel) (by decide +kernel) (by omega) rfl (by simp) (by decide +kernel) h
theorem x_91_69 : Ev d 91 69 L (.int x :: st) μ Q = Ev d 91 70 L st μ Q := e_pop (by decide +kernel : decode (bOf 91) 69 = .ok (.pop, 1))
theorem x_91_70 (h : a0.category = 1) : Ev d 91 70 (a0 :: .int x :: L) st μ Q = Ev d 91 73 (a0 :: .int (x + (iI 1)) :: L) st μ Q := e_iinc (by decide +kernel : decode (bOf 91) 70 = .ok (.iinc 1 1, 3)) rfl (by simp [stOK, h])
theorem x_91_73 : Ev d 91 73 L st μ Q = Ev d 91 51 L st μ Q := e_goto (by decide +kernel : decode (bOf 91) 73 = .ok (.goto (-22), 3)) (by omega)
theorem x_91_76 : Ev d 91 76 (.ref r :: L) st μ Q = Ev d 91 77 (.ref r :: L) (.ref r :: st) μ Q := e_aload_n (by decide +kernel : decode (bOf 91) 76 = .ok (.aload_n 0, 1)) rfl
theorem x_91_77 : Ev d 91 77 L st μ Q = Ev d 91 78 L (.int (iI 0) :: st) μ Q := e_iconst (by decide +kernel : decode (bOf 91) 77 = .ok (.iconst 0, 1))
theorem x_91_78 (h : kd t r = 5) : Ev d 91 78 L (.int x :: .ref r :: st) (t, V, A, P) Q = Ev d 91 81 L st (t, up1 V r (up1 (V r) 7 (.int x)), A, P) Q := e_putf (by decide +kernel : decode (bOf 91) 78 = .ok (.putfield 82, 3)) (by decide +kernel) (by decide +kernel) rfl h
theorem x_91_81 : Ev d 91 81 (.ref r :: L) st μ Q = Ev d 91 82 (.ref r :: L) (.ref r :: st) μ Q := e_aload_n (by decide +kernel : decode (bOf 91) 81 = .ok (.aload_n 0, 1)) rfl
theorem x_91_82 (h : kd t r = 5) : Ev d 91 82 L (.ref r :: st) (t, V, A, P) Q = Ev d 91 85 L (V r 9 :: st) (t, V, A, P) Q := e_getf (by decide +kernel : decode (bOf 91) 82 = .ok (.getfield 110, 3)) (by decide +kernel) (by decide +kernel) h
theorem x_91_85 : Ev d 91 85 L [.int x] μ Q = Q (some (.int x)) μ := e_iret (by decide +kernel : decode (bOf 91) 85 = .ok (.ireturn, 1)) (by decide +kernel)
theorem c_92 : Call (d + 1) 92 [.ref r0] μ Q = Ev d 92 0 [.ref r0, .null] [] μ Q := call_ev rfl rfl
theorem x_92_0 : Ev d 92 0 (.ref r :: L) st μ Q = Ev d 92 1 (.ref r :: L) (.ref r :: st) μ Q := e_aload_n (by decide +kernel : decode (bOf 92) 0 = .ok (.aload_n 0, 1)) rfl
theorem x_92_1 (h : kd t r = 5) : Ev d 92 1 L (.ref r :: st) (t, V, A, P) Q = Ev d 92 4 L (V r 3 :: st) (t, V, A, P) Q := e_getf (by decide +kernel : decode (bOf 92) 1 = .ok (.getfield 126, 3)) (by decide +kernel) (by decide +kernel) h
theorem x_92_4 : Ev d 92 4 L st μ Q = Ev d 92 6 L (.int (iI 6) :: st) μ Q := e_bipush (by decide +kernel : decode (bOf 92) 4 = .ok (.bipush 6, 2)) (by decide +kernel)
theorem x_92_6 : Ev d 92 6 L (.int y :: .int x :: st) μ Q = if x = y then Ev d 92 9 L st μ Q else Ev d 92 50 L st μ Q := e_icmp_ne (by decide +kernel : decode (bOf 92) 6 = .ok (.if_icmp .ne 44, 3)) (by omega)
theorem x_92_9 : Ev d 92 9 L st μ Q = Ev d 92 10 L (.int (iI 0) :: st) μ Q := e_iconst (by decide +kernel : decode (bOf 92) 9 = .ok (.iconst 0, 1))
theorem x_92_10 (h : a0.category = 1) : Ev d 92 10 (a0 :: a1 :: L) (.int x :: st) μ Q = Ev d 92 11 (a0 :: .int x :: L) st μ Q := e_istore_n (by decide +kernel : decode (bOf 92) 10 = .ok (.istore_n 1, 1)) (by show stOK _ 1 = true; simp [stOK, h])
theorem x_92_11 : Ev d 92 11 (a0 :: .int x :: L) st μ Q = Ev d 92 12 (a0 :: .int x :: L) (.int x :: st) μ Q := e_iload_n (by decide +kernel : decode (bOf 92) 11 = .ok (.iload_n 1, 1)) rfl
theorem x_92_12 : Ev d 92 12 L st μ Q = Ev d 92 15 L (.int (iI 1140) :: st) μ Q := e_sipush (by decide +kernel : decode (bOf 92) 12 = .ok (.sipush 1140, 3)) (by decide +kernel)
theorem x_92_15 : Ev d 92 15 L (.int y :: .int x :: st) μ Q = if x < y then Ev d 92 18 L st μ Q else Ev d 92 40 L st μ Q := e_icmp_ge (by decide +kernel : decode (bOf 92) 15 = .ok (.if_icmp .ge 25, 3)) (by omega)
theorem x_92_18 : Ev d 92 18 (.ref r :: L) st μ Q = Ev d 92 19 (.ref r :: L) (.ref r :: st) μ Q := e_aload_n (by decide +kernel : decode (bOf 92) 18 = .ok (.aload_n 0, 1)) rfl
theorem x_92_19 (h : kd t r = 5) : Ev d 92 19 L (.ref r :: st) (t, V, A, P) Q = Ev d 92 22 L (V r 2 :: st) (t, V, A, P) Q := e_getf (by decide +kernel : decode (bOf 92) 19 = .ok (.getfield 13, 3)) (by decide +kernel) (by decide +kernel) h
theorem x_92_22 : Ev d 92 22 (a0 :: .int x :: L) st μ Q = Ev d 92 23 (a0 :: .int x :: L) (.int x :: st) μ Q := e_iload_n (by decide +kernel : decode (bOf 92) 22 = .ok (.iload_n 1, 1)) rfl
theorem x_92_23 : Ev d 92 23 (.ref r :: L) st μ Q = Ev d 92 24 (.ref r :: L) (.ref r :: st) μ Q := e_aload_n (by decide +kernel : decode (bOf 92) 23 = .ok (.aload_n 0, 1)) rfl
theorem x_92_24 (h : kd t r = 5) : Ev d 92 24 L (.ref r :: st) (t, V, A, P) Q = Ev d 92 27 L (V r 2 :: st) (t, V, A, P) Q := e_getf (by decide +kernel : decode (bOf 92) 24 = .ok (.getfield 13, 3)) (by decide +kernel) (by decide +kernel) h
theorem x_92_27 : Ev d 92 27 L st μ Q = Ev d 92 30 L (.int (iI 228) :: st) μ Q := e_sipush (by decide +kernel : decode (bOf 92) 27 = .ok (.sipush 228, 3)) (by decide +kernel)
theorem x_92_30 : Ev d 92 30 (a0 :: .int x :: L) st μ Q = Ev d 92 31 (a0 :: .int x :: L) (.int x :: st) μ Q := e_iload_n (by decide +kernel : decode (bOf 92) 30 = .ok (.iload_n 1, 1)) rfl
theorem x_92_31 : Ev d 92 31 L (.int y :: .int x :: st) μ Q = Ev d 92 32 L (.int (x + y) :: st) μ Q := e_iadd (by decide +kernel : decode (bOf 92) 31 = .ok (.iadd, 1))
theorem x_92_32 (h : kd t r = 6) (hi : inB x (ln t r) = true) : Ev d 92 32 L (.int x :: .ref r :: st) (t, V, A, P) Q = Ev d 92 33 L (.int (A r x.toNatClampNeg) :: st) (t, V, A, P) Q := e_iald (by decide +kernel : decode (bOf 92) 32 = .ok (.iaload, 1)) h hi
theorem x_92_33 (h : kd t r = 6) (hi : inB x (ln t r) = true) : Ev d 92 33 L (.int y :: .int x :: .ref r :: st) (t, V, A, P) Q = Ev d 92 34 L st (t, V, up1 A r (upd (A r) x.toNatClampNeg y), P) Q := e_iast (by decide +kernel : decode (bOf 92) 33 = .ok (.iastore, 1)) h hi
theorem x_92_34 (h : a0.category = 1) : Ev d 92 34 (a0 :: .int x :: L) st μ Q = Ev d 92 37 (a0 :: .int (x + (iI 1)) :: L) st μ Q := e_iinc (by decide +kernel : decode (bOf 92) 34 = .ok (.iinc 1 1, 3)) rfl (by simp [stOK, h])
theorem x_92_37 : Ev d 92 37 L st μ Q = Ev d 92 11 L st μ Q := e_goto (by decide +kernel : decode (bOf 92) 37 = .ok (.goto (-26), 3)) (by omega)
theorem x_92_40 : Ev d 92 40 (.ref r :: L) st μ Q = Ev d 92 41 (.ref r :: L) (.ref r :: st) μ Q := e_aload_n (by decide +kernel : decode (bOf 92) 40 = .ok (.aload_n 0, 1)) rfl
theorem x_92_41 : Ev d 92 41 L (.ref r :: st) μ Q = Ev d 92 42 L (.ref r :: .ref r :: st) μ Q := e_dup_a (by decide +kernel : decode (bOf 92) 41 = .ok (.dup, 1))
theorem x_92_42 (h : kd t r = 5) : Ev d 92 42 L (.ref r :: st) (t, V, A, P) Q = Ev d 92 45 L (V r 3 :: st) (t, V, A, P) Q := e_getf (by decide +kernel : decode (bOf 92) 42 = .ok (.getfield 126, 3)) (by decide +kernel) (by decide +kernel) h
theorem x_92_45 : Ev d 92 45 L st μ Q = Ev d 92 46 L (.int (iI 1) :: st) μ Q := e_iconst (by decide +kernel : decode (bOf 92) 45 = .ok (.iconst 1, 1))
theorem x_92_46 : Ev d 92 46 L (.int y :: .int x :: st) μ Q = Ev d 92 47 L (.int (x - y) :: st) μ Q := e_isub (by decide +kernel : decode (bOf 92) 46 = .ok (.isub, 1))
theorem x_92_47 (h : kd t r = 5) : Ev d 92 47 L (.int x :: .ref r :: st) (t, V, A, P) Q = Ev d 92 50 L st (t, up1 V r (up1 (V r) 3 (.int x)), A, P) Q := e_putf (by decide +kernel : decode (bOf 92) 47 = .ok (.putfield 126, 3)) (by decide +kernel) (by decide +kernel) rfl h
theorem x_92_50 : Ev d 92 50 L st μ Q = Ev d 92 51 L (.int (iI 0) :: st) μ Q := e_iconst (by decide +kernel : decode (bOf 92) 50 = .ok (.iconst 0, 1))
theorem x_92_51 (h : a0.category = 1) : Ev d 92 51 (a0 :: a1 :: L) (.int x :: st) μ Q = Ev d 92 52 (a0 :: .int x :: L) st μ Q := e_istore_n (by decide +kernel : decode (bOf 92) 51 = .ok (.istore_n 1, 1)) (by show stOK _ 1 = true; simp [stOK, h])
theorem x_92_52 : Ev d 92 52 (a0 :: .int x :: L) st μ Q = Ev d 92 53 (a0 :: .int x :: L) (.int x :: st) μ Q := e_iload_n (by decide +kernel : decode (bOf 92) 52 = .ok (.iload_n 1, 1)) rfl
theorem x_92_53 : Ev d 92 53 L st μ Q = Ev d 92 56 L (.int (iI 228) :: st) μ Q := e_sipush (by decide +kernel : decode (bOf 92) 53 = .ok (.sipush 228, 3)) (by decide +kernel)
theorem x_92_56 : Ev d 92 56 L (.int y :: .int x :: st) μ Q = if x < y then Ev d 92 59 L st μ Q else Ev d 92 86 L st μ Q := e_icmp_ge (by decide +kernel : decode (bOf 92) 56 = .ok (.if_icmp .ge 30, 3)) (by omega)
theorem x_92_59 : Ev d 92 59 (.ref r :: L) st μ Q = Ev d 92 60 (.ref r :: L) (.ref r :: st) μ Q := e_aload_n (by decide +kernel : decode (bOf 92) 59 = .ok (.aload_n 0, 1)) rfl
theorem x_92_60 (h : kd t r = 5) : Ev d 92 60 L (.ref r :: st) (t, V, A, P) Q = Ev d 92 63 L (V r 2 :: st) (t, V, A, P) Q := e_getf (by decide +kernel : decode (bOf 92) 60 = .ok (.getfield 13, 3)) (by decide +kernel) (by decide +kernel) h
theorem x_92_63 : Ev d 92 63 L st μ Q = Ev d 92 66 L (.int (iI 228) :: st) μ Q := e_sipush (by decide +kernel : decode (bOf 92) 63 = .ok (.sipush 228, 3)) (by decide +kernel)
theorem x_92_66 : Ev d 92 66 (.ref r :: L) st μ Q = Ev d 92 67 (.ref r :: L) (.ref r :: st) μ Q := e_aload_n (by decide +kernel : decode (bOf 92) 66 = .ok (.aload_n 0, 1)) rfl
theorem x_92_67 (h : kd t r = 5) : Ev d 92 67 L (.ref r :: st) (t, V, A, P) Q = Ev d 92 70 L (V r 3 :: st) (t, V, A, P) Q := e_getf (by decide +kernel : decode (bOf 92) 67 = .ok (.getfield 126, 3)) (by decide +kernel) (by decide +kernel) h
theorem x_92_70 : Ev d 92 70 L (.int y :: .int x :: st) μ Q = Ev d 92 71 L (.int (x * y) :: st) μ Q := e_imul (by decide +kernel : decode (bOf 92) 70 = .ok (.imul, 1))
theorem x_92_71 : Ev d 92 71 (a0 :: .int x :: L) st μ Q = Ev d 92 72 (a0 :: .int x :: L) (.int x :: st) μ Q := e_iload_n (by decide +kernel : decode (bOf 92) 71 = .ok (.iload_n 1, 1)) rfl
theorem x_92_72 : Ev d 92 72 L (.int y :: .int x :: st) μ Q = Ev d 92 73 L (.int (x + y) :: st) μ Q := e_iadd (by decide +kernel : decode (bOf 92) 72 = .ok (.iadd, 1))
theorem x_92_73 : Ev d 92 73 (.ref r :: L) st μ Q = Ev d 92 74 (.ref r :: L) (.ref r :: st) μ Q := e_aload_n (by decide +kernel : decode (bOf 92) 73 = .ok (.aload_n 0, 1)) rfl
theorem x_92_74 (h : kd t r = 5) : Ev d 92 74 L (.ref r :: st) (t, V, A, P) Q = Ev d 92 77 L (V r 1 :: st) (t, V, A, P) Q := e_getf (by decide +kernel : decode (bOf 92) 74 = .ok (.getfield 7, 3)) (by decide +kernel) (by decide +kernel) h
theorem x_92_77 : Ev d 92 77 (a0 :: .int x :: L) st μ Q = Ev d 92 78 (a0 :: .int x :: L) (.int x :: st) μ Q := e_iload_n (by decide +kernel : decode (bOf 92) 77 = .ok (.iload_n 1, 1)) rfl
theorem x_92_78 (h : kd t r = 6) (hi : inB x (ln t r) = true) : Ev d 92 78 L (.int x :: .ref r :: st) (t, V, A, P) Q = Ev d 92 79 L (.int (A r x.toNatClampNeg) :: st) (t, V, A, P) Q := e_iald (by decide +kernel : decode (bOf 92) 78 = .ok (.iaload, 1)) h hi
theorem x_92_79 (h : kd t r = 6) (hi : inB x (ln t r) = true) : Ev d 92 79 L (.int y :: .int x :: .ref r :: st) (t, V, A, P) Q = Ev d 92 80 L st (t, V, up1 A r (upd (A r) x.toNatClampNeg y), P) Q := e_iast (by decide +kernel : decode (bOf 92) 79 = .ok (.iastore, 1)) h hi
theorem x_92_80 (h : a0.category = 1) : Ev d 92 80 (a0 :: .int x :: L) st μ Q = Ev d 92 83 (a0 :: .int (x + (iI 1)) :: L) st μ Q := e_iinc (by decide +kernel : decode (bOf 92) 80 = .ok (.iinc 1 1, 3)) rfl (by simp [stOK, h])
theorem x_92_83 : Ev d 92 83 L st μ Q = Ev d 92 52 L st μ Q := e_goto (by decide +kernel : decode (bOf 92) 83 = .ok (.goto (-31), 3)) (by omega)
theorem x_92_86 : Ev d 92 86 (.ref r :: L) st μ Q = Ev d 92 87 (.ref r :: L) (.ref r :: st) μ Q := e_aload_n (by decide +kernel : decode (bOf 92) 86 = .ok (.aload_n 0, 1)) rfl
theorem x_92_87 : Ev d 92 87 L (.ref r :: st) μ Q = Ev d 92 88 L (.ref r :: .ref r :: st) μ Q := e_dup_a (by decide +kernel : decode (bOf 92) 87 = .ok (.dup, 1))
theorem x_92_88 (h : kd t r = 5) : Ev d 92 88 L (.ref r :: st) (t, V, A, P) Q = Ev d 92 91 L (V r 3 :: st) (t, V, A, P) Q := e_getf (by decide +kernel : decode (bOf 92) 88 = .ok (.getfield 126, 3)) (by decide +kernel) (by decide +kernel) h
theorem x_92_91 : Ev d 92 91 L st μ Q = Ev d 92 92 L (.int (iI 1) :: st) μ Q := e_iconst (by decide +kernel : decode (bOf 92) 91 = .ok (.iconst 1, 1))
theorem x_92_92 : Ev d 92 92 L (.int y :: .int x :: st) μ Q = Ev d 92 93 L (.int (x + y) :: st) μ Q := e_iadd (by decide +kernel : decode (bOf 92) 92 = .ok (.iadd, 1))
theorem x_92_93 (h : kd t r = 5) : Ev d 92 93 L (.int x :: .ref r :: st) (t, V, A, P) Q = Ev d 92 96 L st (t, up1 V r (up1 (V r) 3 (.int x)), A, P) Q := e_putf (by decide +kernel : decode (bOf 92) 93 = .ok (.putfield 126, 3)) (by decide +kernel) (by decide +kernel) rfl h
theorem x_92_96 : Ev d 92 96 L [] μ Q = Q none μ := e_ret (by decide +kernel : decode (bOf 92) 96 = .ok (.return_, 1)) (by decide +kernel)
theorem c_93 : Call (d + 1) 93 [.ref r0, .int i1] μ Q = Ev d 93 0 [.ref r0, .int i1] [] μ Q := call_ev rfl rfl
theorem x_93_0 : Ev d 93 0 (.ref r :: L) st μ Q = Ev d 93 1 (.ref r :: L) (.ref r :: st) μ Q := e_aload_n (by decide +kernel : decode (bOf 93) 0 = .ok (.aload_n 0, 1)) rfl
theorem x_93_1 (h : kd t r = 5) : Ev d 93 1 L (.ref r :: st) (t, V, A, P) Q = Ev d 93 4 L (V r 1 :: st) (t, V, A, P) Q := e_getf (by decide +kernel : decode (bOf 93) 1 = .ok (.getfield 7, 3)) (by decide +kernel) (by decide +kernel) h
theorem x_93_4 : Ev d 93 4 L st μ Q = Ev d 93 5 L (.int (iI 3) :: st) μ Q := e_iconst (by decide +kernel : decode (bOf 93) 4 = .ok (.iconst 3, 1))
theorem x_93_5 (h : kd t r = 6) (hi : inB x (ln t r) = true) : Ev d 93 5 L (.int x :: .ref r :: st) (t, V, A, P) Q = Ev d 93 6 L (.int (A r x.toNatClampNeg) :: st) (t, V, A, P) Q := e_iald (by decide +kernel : decode (bOf 93) 5 = .ok (.iaload, 1)) h hi
theorem x_93_6 : Ev d 93 6 (a0 :: .int x :: L) st μ Q = Ev d 93 7 (a0 :: .int x :: L) (.int x :: st) μ Q := e_iload_n (by decide +kernel : decode (bOf 93) 6 = .ok (.iload_n 1, 1)) rfl
theorem x_93_7 : Ev d 93 7 L (.int y :: .int x :: st) μ Q = if x = y then Ev d 93 10 L st μ Q else Ev d 93 11 L st μ Q := e_icmp_ne (by decide +kernel : decode (bOf 93) 7 = .ok (.if_icmp .ne 4, 3)) (by omega)
theorem x_93_10 : Ev d 93 10 L [] μ Q = Q none μ := e_ret (by decide +kernel : decode (bOf 93) 10 = .ok (.return_, 1)) (by decide +kernel)
theorem x_93_11 : Ev d 93 11 (.ref r :: L) st μ Q = Ev d 93 12 (.ref r :: L) (.ref r :: st) μ Q := e_aload_n (by decide +kernel : decode (bOf 93) 11 = .ok (.aload_n 0, 1)) rfl
theorem x_93_12 (h : kd t r = 5) : Ev d 93 12 L (.ref r :: st) (t, V, A, P) Q = Ev d 93 15 L (V r 1 :: st) (t, V, A, P) Q := e_getf (by decide +kernel : decode (bOf 93) 12 = .ok (.getfield 7, 3)) (by decide +kernel) (by decide +kernel) h
theorem x_93_15 : Ev d 93 15 L st μ Q = Ev d 93 16 L (.int (iI 2) :: st) μ Q := e_iconst (by decide +kernel : decode (bOf 93) 15 = .ok (.iconst 2, 1))
theorem x_93_16 : Ev d 93 16 (.ref r :: L) st μ Q = Ev d 93 17 (.ref r :: L) (.ref r :: st) μ Q := e_aload_n (by decide +kernel : decode (bOf 93) 16 = .ok (.aload_n 0, 1)) rfl
theorem x_93_17 (h : kd t r = 5) : Ev d 93 17 L (.ref r :: st) (t, V, A, P) Q = Ev d 93 20 L (V r 1 :: st) (t, V, A, P) Q := e_getf (by decide +kernel : decode (bOf 93) 17 = .ok (.getfield 7, 3)) (by decide +kernel) (by decide +kernel) h
theorem x_93_20 : Ev d 93 20 L st μ Q = Ev d 93 21 L (.int (iI 3) :: st) μ Q := e_iconst (by decide +kernel : decode (bOf 93) 20 = .ok (.iconst 3, 1))
theorem x_93_21 (h : kd t r = 6) (hi : inB x (ln t r) = true) : Ev d 93 21 L (.int x :: .ref r :: st) (t, V, A, P) Q = Ev d 93 22 L (.int (A r x.toNatClampNeg) :: st) (t, V, A, P) Q := e_iald (by decide +kernel : decode (bOf 93) 21 = .ok (.iaload, 1)) h hi
theorem x_93_22 (h : kd t r = 6) (hi : inB x (ln t r) = true) : Ev d 93 22 L (.int y :: .int x :: .ref r :: st) (t, V, A, P) Q = Ev d 93 23 L st (t, V, up1 A r (upd (A r) x.toNatClampNeg y), P) Q := e_iast (by decide +kernel : decode (bOf 93) 22 = .ok (.iastore, 1)) h hi
theorem x_93_23 : Ev d 93 23 (.ref r :: L) st μ Q = Ev d 93 24 (.ref r :: L) (.ref r :: st) μ Q := e_aload_n (by decide +kernel : decode (bOf 93) 23 = .ok (.aload_n 0, 1)) rfl
theorem x_93_24 (h : kd t r = 5) : Ev d 93 24 L (.ref r :: st) (t, V, A, P) Q = Ev d 93 27 L (V r 1 :: st) (t, V, A, P) Q := e_getf (by decide +kernel : decode (bOf 93) 24 = .ok (.getfield 7, 3)) (by decide +kernel) (by decide +kernel) h
theorem x_93_27 : Ev d 93 27 L st μ Q = Ev d 93 28 L (.int (iI 3) :: st) μ Q := e_iconst (by decide +kernel : decode (bOf 93) 27 = .ok (.iconst 3, 1))
theorem x_93_28 : Ev d 93 28 (a0 :: .int x :: L) st μ Q = Ev d 93 29 (a0 :: .int x :: L) (.int x :: st) μ Q := e_iload_n (by decide +kernel : decode (bOf 93) 28 = .ok (.iload_n 1, 1)) rfl
theorem x_93_29 (h : kd t r = 6) (hi : inB x (ln t r) = true) : Ev d 93 29 L (.int y :: .int x :: .ref r :: st) (t, V, A, P) Q = Ev d 93 30 L st (t, V, up1 A r (upd (A r) x.toNatClampNeg y), P) Q := e_iast (by decide +kernel : decode (bOf 93) 29 = .ok (.iastore, 1)) h hi
theorem x_93_30 : Ev d 93 30 L [] μ Q = Q none μ := e_ret (by decide +kernel : decode (bOf 93) 30 = .ok (.return_, 1)) (by decide +kernel)
theorem c_94 : Call (d + 1) 94 [.ref r0, .int i1] μ Q = Ev d 94 0 [.ref r0, .int i1, .null, .null] [] μ Q := call_ev rfl rfl
theorem x_94_0 : Ev d 94 0 (a0 :: .int x :: L) st μ Q = Ev d 94 1 (a0 :: .int x :: L) (.int x :: st) μ Q := e_iload_n (by decide +kernel : decode (bOf 94) 0 = .ok (.iload_n 1, 1)) rfl
theorem x_94_1 : Ev d 94 1 (.ref r :: L) st μ Q = Ev d 94 2 (.ref r :: L) (.ref r :: st) μ Q := e_aload_n (by decide +kernel : decode (bOf 94) 1 = .ok (.aload_n 0, 1)) rfl
theorem x_94_2 (h : kd t r = 5) : Ev d 94 2 L (.ref r :: st) (t, V, A, P) Q = Ev d 94 5 L (V r 1 :: st) (t, V, A, P) Q := e_getf (by decide +kernel : decode (bOf 94) 2 = .ok (.getfield 7, 3)) (by decide +kernel) (by decide +kernel) h
theorem x_94_5 : Ev d 94 5 L st μ Q = Ev d 94 6 L (.int (iI 1) :: st) μ Q := e_iconst (by decide +kernel : decode (bOf 94) 5 = .ok (.iconst 1, 1))
theorem x_94_6 (h : kd t r = 6) (hi : inB x (ln t r) = true) : Ev d 94 6 L (.int x :: .ref r :: st) (t, V, A, P) Q = Ev d 94 7 L (.int (A r x.toNatClampNeg) :: st) (t, V, A, P) Q := e_iald (by decide +kernel : decode (bOf 94) 6 = .ok (.iaload, 1)) h hi
theorem x_94_7 : Ev d 94 7 L (.int x :: st) μ Q = if x < iI 0 then Ev d 94 10 L st μ Q else Ev d 94 14 L st μ Q := e_if_ge (by decide +kernel : decode (bOf 94) 7 = .ok (.ifCond .ge 7, 3)) (by omega)
theorem x_94_10 : Ev d 94 10 L st μ Q = Ev d 94 11 L (.int (iI 0) :: st) μ Q := e_iconst (by decide +kernel : decode (bOf 94) 10 = .ok (.iconst 0, 1))
theorem x_94_11 : Ev d 94 11 L st μ Q = Ev d 94 15 L st μ Q := e_goto (by decide +kernel : decode (bOf 94) 11 = .ok (.goto 4, 3)) (by omega)
theorem x_94_14 : Ev d 94 14 L st μ Q = Ev d 94 15 L (.int (iI 1) :: st) μ Q := e_iconst (by decide +kernel : decode (bOf 94) 14 = .ok (.iconst 1, 1))
theorem x_94_15 : Ev d 94 15 L [b1, b0] μ Q = Call d 83 [b0, b1] μ (fun v μ1 => Ev d 94 18 L (v.toList ++ []) μ1 Q) := e_callS (a := [b0, b1]) (r := []) (by decide +kernel : decode (bOf 94) 15 = .ok (.invokestatic 79, 3)) (by decide +kernel) (by decide +kernel) (by omega) rfl (by simp)
theorem x_94_18 (h : a1.category = 1) : Ev d 94 18 (a0 :: a1 :: a2 :: L) (.int x :: st) μ Q = Ev d 94 19 (a0 :: a1 :: .int x :: L) st μ Q := e_istore_n (by decide +kernel : decode (bOf 94) 18 = .ok (.istore_n 2, 1)) (by show stOK _ 2 = true; simp [stOK, h])
theorem x_94_19 : Ev d 94 19 L st μ Q = Ev d 94 20 L (.int (iI 0) :: st) μ Q := e_iconst (by decide +kernel : decode (bOf 94) 19 = .ok (.iconst 0, 1))
theorem x_94_20 (h : a2.category = 1) : Ev d 94 20 (a0 :: a1 :: a2 :: a3 :: L) (.int x :: st) μ Q = Ev d 94 21 (a0 :: a1 :: a2 :: .int x :: L) st μ Q := e_istore_n (by decide +kernel : decode (bOf 94) 20 = .ok (.istore_n 3, 1)) (by show stOK _ 3 = true; simp [stOK, h])
theorem x_94_21 : Ev d 94 21 (a0 :: a1 :: a2 :: .int x :: L) st μ Q = Ev d 94 22 (a0 :: a1 :: a2 :: .int x :: L) (.int x :: st) μ Q := e_iload_n (by decide +kernel : decode (bOf 94) 21 = .ok (.iload_n 3, 1)) rfl
theorem x_94_22 : Ev d 94 22 L st μ Q = Ev d 94 24 L (.int (iI 6) :: st) μ Q := e_bipush (by decide +kernel : decode (bOf 94) 22 = .ok (.bipush 6, 2)) (by decide +kernel)
theorem x_94_24 : Ev d 94 24 L (.int y :: .int x :: st) μ Q = if x < y then Ev d 94 27 L st μ Q else Ev d 94 59 L st μ Q := e_icmp_ge (by decide +kernel : decode (bOf 94) 24 = .ok (.if_icmp .ge 35, 3)) (by omega)
theorem x_94_27 : Ev d 94 27 (.ref r :: L) st μ Q = Ev d 94 28 (.ref r :: L) (.ref r :: st) μ Q := e_aload_n (by decide +kernel : decode (bOf 94) 27 = .ok (.aload_n 0, 1)) rfl
theorem x_94_28 (h : kd t r = 5) : Ev d 94 28 L (.ref r :: st) (t, V, A, P) Q = Ev d 94 31 L (V r 1 :: st) (t, V, A, P) Q := e_getf (by decide +kernel : decode (bOf 94) 28 = .ok (.getfield 7, 3)) (by decide +kernel) (by decide +kernel) h
theorem x_94_31 : Ev d 94 31 L st μ Q = Ev d 94 33 L (.int (iI 36) :: st) μ Q := e_bipush (by decide +kernel : decode (bOf 94) 31 = .ok (.bipush 36, 2)) (by decide +kernel)
theorem x_94_33 : Ev d 94 33 L st μ Q = Ev d 94 35 L (.int (iI 6) :: st) μ Q := e_bipush (by decide +kernel : decode (bOf 94) 33 = .ok (.bipush 6, 2)) (by decide +kernel)
theorem x_94_35 : Ev d 94 35 (.ref r :: L) st μ Q = Ev d 94 36 (.ref r :: L) (.ref r :: st) μ Q := e_aload_n (by decide +kernel : decode (bOf 94) 35 = .ok (.aload_n 0, 1)) rfl
theorem x_94_36 (h : kd t r = 5) : Ev d 94 36 L (.ref r :: st) (t, V, A, P) Q = Ev d 94 39 L (V r 1 :: st) (t, V, A, P) Q := e_getf (by decide +kernel : decode (bOf 94) 36 = .ok (.getfield 7, 3)) (by decide +kernel) (by decide +kernel) h
theorem x_94_39 : Ev d 94 39 L st μ Q = Ev d 94 40 L (.int (iI 0) :: st) μ Q := e_iconst (by decide +kernel : decode (bOf 94) 39 = .ok (.iconst 0, 1))
theorem x_94_40 (h : kd t r = 6) (hi : inB x (ln t r) = true) : Ev d 94 40 L (.int x :: .ref r :: st) (t, V, A, P) Q = Ev d 94 41 L (.int (A r x.toNatClampNeg) :: st) (t, V, A, P) Q := e_iald (by decide +kernel : decode (bOf 94) 40 = .ok (.iaload, 1)) h hi
theorem x_94_41 : Ev d 94 41 L (.int y :: .int x :: st) μ Q = Ev d 94 42 L (.int (x * y) :: st) μ Q := e_imul (by decide +kernel : decode (bOf 94) 41 = .ok (.imul, 1))
theorem x_94_42 : Ev d 94 42 L (.int y :: .int x :: st) μ Q = Ev d 94 43 L (.int (x + y) :: st) μ Q := e_iadd (by decide +kernel : decode (bOf 94) 42 = .ok (.iadd, 1))
theorem x_94_43 : Ev d 94 43 (a0 :: a1 :: a2 :: .int x :: L) st μ Q = Ev d 94 44 (a0 :: a1 :: a2 :: .int x :: L) (.int x :: st) μ Q := e_iload_n (by decide +kernel : decode (bOf 94) 43 = .ok (.iload_n 3, 1)) rfl
theorem x_94_44 : Ev d 94 44 L (.int y :: .int x :: st) μ Q = Ev d 94 45 L (.int (x + y) :: st) μ Q := e_iadd (by decide +kernel : decode (bOf 94) 44 = .ok (.iadd, 1))
theorem x_94_45 : Ev d 94 45 (a0 :: a1 :: .int x :: L) st μ Q = Ev d 94 46 (a0 :: a1 :: .int x :: L) (.int x :: st) μ Q := e_iload_n (by decide +kernel : decode (bOf 94) 45 = .ok (.iload_n 2, 1)) rfl
theorem x_94_46 : Ev d 94 46 L st μ Q = Ev d 94 47 L (.int (iI 5) :: st) μ Q := e_iconst (by decide +kernel : decode (bOf 94) 46 = .ok (.iconst 5, 1))
theorem x_94_47 : Ev d 94 47 (a0 :: a1 :: a2 :: .int x :: L) st μ Q = Ev d 94 48 (a0 :: a1 :: a2 :: .int x :: L) (.int x :: st) μ Q := e_iload_n (by decide +kernel : decode (bOf 94) 47 = .ok (.iload_n 3, 1)) rfl
theorem x_94_48 : Ev d 94 48 L (.int y :: .int x :: st) μ Q = Ev d 94 49 L (.int (x - y) :: st) μ Q := e_isub (by decide +kernel : decode (bOf 94) 48 = .ok (.isub, 1))
theorem x_94_49 : Ev d 94 49 L (.int y :: .int x :: st) μ Q = Ev d 94 50 L (.int (x >>> (y &&& 31)) :: st) μ Q := e_ishr (by decide +kernel : decode (bOf 94) 49 = .ok (.ishr, 1))
theorem x_94_50 : Ev d 94 50 L st μ Q = Ev d 94 51 L (.int (iI 1) :: st) μ Q := e_iconst (by decide +kernel : decode (bOf 94) 50 = .ok (.iconst 1, 1))
theorem x_94_51 : Ev d 94 51 L (.int y :: .int x :: st) μ Q = Ev d 94 52 L (.int (x &&& y) :: st) μ Q := e_iand (by decide +kernel : decode (bOf 94) 51 = .ok (.iand, 1))
theorem x_94_52 (h : kd t r = 6) (hi : inB x (ln t r) = true) : Ev d 94 52 L (.int y :: .int x :: .ref r :: st) (t, V, A, P) Q = Ev d 94 53 L st (t, V, up1 A r (upd (A r) x.toNatClampNeg y), P) Q := e_iast (by decide +kernel : decode (bOf 94) 52 = .ok (.iastore, 1)) h hi
theorem x_94_53 (h : a2.category = 1) : Ev d 94 53 (a0 :: a1 :: a2 :: .int x :: L) st μ Q = Ev d 94 56 (a0 :: a1 :: a2 :: .int (x + (iI 1)) :: L) st μ Q := e_iinc (by decide +kernel : decode (bOf 94) 53 = .ok (.iinc 3 1, 3)) rfl (by simp [stOK, h])
theorem x_94_56 : Ev d 94 56 L st μ Q = Ev d 94 21 L st μ Q := e_goto (by decide +kernel : decode (bOf 94) 56 = .ok (.goto (-35), 3)) (by omega)
theorem x_94_59 : Ev d 94 59 (.ref r :: L) st μ Q = Ev d 94 60 (.ref r :: L) (.ref r :: st) μ Q := e_aload_n (by decide +kernel : decode (bOf 94) 59 = .ok (.aload_n 0, 1)) rfl
theorem x_94_60 (h : kd t r = 5) : Ev d 94 60 L (.ref r :: st) (t, V, A, P) Q = Ev d 94 63 L (V r 1 :: st) (t, V, A, P) Q := e_getf (by decide +kernel : decode (bOf 94) 60 = .ok (.getfield 7, 3)) (by decide +kernel) (by decide +kernel) h
theorem x_94_63 : Ev d 94 63 L st μ Q = Ev d 94 64 L (.int (iI 4) :: st) μ Q := e_iconst (by decide +kernel : decode (bOf 94) 63 = .ok (.iconst 4, 1))
theorem x_94_64 : Ev d 94 64 (.ref r :: L) st μ Q = Ev d 94 65 (.ref r :: L) (.ref r :: st) μ Q := e_aload_n (by decide +kernel : decode (bOf 94) 64 = .ok (.aload_n 0, 1)) rfl
theorem x_94_65 (h : kd t r = 5) : Ev d 94 65 L (.ref r :: st) (t, V, A, P) Q = Ev d 94 68 L (V r 1 :: st) (t, V, A, P) Q := e_getf (by decide +kernel : decode (bOf 94) 65 = .ok (.getfield 7, 3)) (by decide +kernel) (by decide +kernel) h
theorem x_94_68 : Ev d 94 68 L st μ Q = Ev d 94 69 L (.int (iI 0) :: st) μ Q := e_iconst (by decide +kernel : decode (bOf 94) 68 = .ok (.iconst 0, 1))
theorem x_94_69 (h : kd t r = 6) (hi : inB x (ln t r) = true) : Ev d 94 69 L (.int x :: .ref r :: st) (t, V, A, P) Q = Ev d 94 70 L (.int (A r x.toNatClampNeg) :: st) (t, V, A, P) Q := e_iald (by decide +kernel : decode (bOf 94) 69 = .ok (.iaload, 1)) h hi
theorem x_94_70 : Ev d 94 70 L (.int y :: .int x :: st) μ Q = Ev d 94 71 L (.int (x + y) :: st) μ Q := e_iadd (by decide +kernel : decode (bOf 94) 70 = .ok (.iadd, 1))
theorem x_94_71 : Ev d 94 71 (a0 :: .int x :: L) st μ Q = Ev d 94 72 (a0 :: .int x :: L) (.int x :: st) μ Q := e_iload_n (by decide +kernel : decode (bOf 94) 71 = .ok (.iload_n 1, 1)) rfl
theorem x_94_72 (h : kd t r = 6) (hi : inB x (ln t r) = true) : Ev d 94 72 L (.int y :: .int x :: .ref r :: st) (t, V, A, P) Q = Ev d 94 73 L st (t, V, up1 A r (upd (A r) x.toNatClampNeg y), P) Q := e_iast (by decide +kernel : decode (bOf 94) 72 = .ok (.iastore, 1)) h hi
theorem x_94_73 : Ev d 94 73 (.ref r :: L) st μ Q = Ev d 94 74 (.ref r :: L) (.ref r :: st) μ Q := e_aload_n (by decide +kernel : decode (bOf 94) 73 = .ok (.aload_n 0, 1)) rfl
theorem x_94_74 (h : kd t r = 5) : Ev d 94 74 L (.ref r :: st) (t, V, A, P) Q = Ev d 94 77 L (V r 1 :: st) (t, V, A, P) Q := e_getf (by decide +kernel : decode (bOf 94) 74 = .ok (.getfield 7, 3)) (by decide +kernel) (by decide +kernel) h
theorem x_94_77 : Ev d 94 77 L st μ Q = Ev d 94 78 L (.int (iI 0) :: st) μ Q := e_iconst (by decide +kernel : decode (bOf 94) 77 = .ok (.iconst 0, 1))
theorem x_94_78 : Ev d 94 78 L (.int x :: .ref r :: st) μ Q = Ev d 94 79 L (.int x :: .ref r :: .int x :: .ref r :: st) μ Q := e_dup2 (by decide +kernel : decode (bOf 94) 78 = .ok (.dup2, 1))
theorem x_94_79 (h : kd t r = 6) (hi : inB x (ln t r) = true) : Ev d 94 79 L (.int x :: .ref r :: st) (t, V, A, P) Q = Ev d 94 80 L (.int (A r x.toNatClampNeg) :: st) (t, V, A, P) Q := e_iald (by decide +kernel : decode (bOf 94) 79 = .ok (.iaload, 1)) h hi
theorem x_94_80 : Ev d 94 80 L st μ Q = Ev d 94 81 L (.int (iI 1) :: st) μ Q := e_iconst (by decide +kernel : decode (bOf 94) 80 = .ok (.iconst 1, 1))
theorem x_94_81 : Ev d 94 81 L (.int y :: .int x :: st) μ Q = Ev d 94 82 L (.int (x + y) :: st) μ Q := e_iadd (by decide +kernel : decode (bOf 94) 81 = .ok (.iadd, 1))
theorem x_94_82 (h : kd t r = 6) (hi : inB x (ln t r) = true) : Ev d 94 82 L (.int y :: .int x :: .ref r :: st) (t, V, A, P) Q = Ev d 94 83 L st (t, V, up1 A r (upd (A r) x.toNatClampNeg y), P) Q := e_iast (by decide +kernel : decode (bOf 94) 82 = .ok (.iastore, 1)) h hi
theorem x_94_83 : Ev d 94 83 (.ref r :: L) st μ Q = Ev d 94 84 (.ref r :: L) (.ref r :: st) μ Q := e_aload_n (by decide +kernel : decode (bOf 94) 83 = .ok (.aload_n 0, 1)) rfl
theorem x_94_84 (h : kd t r = 5) : Ev d 94 84 L (.ref r :: st) (t, V, A, P) Q = Ev d 94 87 L (V r 1 :: st) (t, V, A, P) Q := e_getf (by decide +kernel : decode (bOf 94) 84 = .ok (.getfield 7, 3)) (by decide +kernel) (by decide +kernel) h
theorem x_94_87 : Ev d 94 87 L st μ Q = Ev d 94 88 L (.int (iI 1) :: st) μ Q := e_iconst (by decide +kernel : decode (bOf 94) 87 = .ok (.iconst 1, 1))
theorem x_94_88 : Ev d 94 88 (a0 :: a1 :: .int x :: L) st μ Q = Ev d 94 89 (a0 :: a1 :: .int x :: L) (.int x :: st) μ Q := e_iload_n (by decide +kernel : decode (bOf 94) 88 = .ok (.iload_n 2, 1)) rfl
theorem x_94_89 : Ev d 94 89 L [b0, s0, s1] μ Q = Call d 80 [b0] μ (fun v μ1 => Ev d 94 92 L (v.toList ++ [s0, s1]) μ1 Q) := e_callS (a := [b0]) (r := [s0, s1]) (by decide +kernel : decode (bOf 94) 89 = .ok (.invokestatic 63, 3)) (by decide +kernel) (by decide +kernel) (by omega) rfl (by simp)
theorem x_94_92 : Ev d 94 92 L st μ Q = Ev d 94 93 L (.int (iI 3) :: st) μ Q := e_iconst (by decide +kernel : decode (bOf 94) 92 = .ok (.iconst 3, 1))
theorem x_94_93 : Ev d 94 93 L (.int y :: .int x :: st) μ Q = if x = y then Ev d 94 96 L st μ Q else Ev d 94 105 L st μ Q := e_icmp_ne (by decide +kernel : decode (bOf 94) 93 = .ok (.if_icmp .ne 12, 3)) (by omega)
theorem x_94_96 : Ev d 94 96 (.ref r :: L) st μ Q = Ev d 94 97 (.ref r :: L) (.ref r :: st) μ Q := e_aload_n (by decide +kernel : decode (bOf 94) 96 = .ok (.aload_n 0, 1)) rfl
theorem x_94_97 (h : kd t r = 5) : Ev d 94 97 L (.ref r :: st) (t, V, A, P) Q = Ev d 94 100 L (V r 1 :: st) (t, V, A, P) Q := e_getf (by decide +kernel : decode (bOf 94) 97 = .ok (.getfield 7, 3)) (by decide +kernel) (by decide +kernel) h
theorem x_94_100 : Ev d 94 100 L st μ Q = Ev d 94 101 L (.int (iI 1) :: st) μ Q := e_iconst (by decide +kernel : decode (bOf 94) 100 = .ok (.iconst 1, 1))
theorem x_94_101 (h : kd t r = 6) (hi : inB x (ln t r) = true) : Ev d 94 101 L (.int x :: .ref r :: st) (t, V, A, P) Q = Ev d 94 102 L (.int (A r x.toNatClampNeg) :: st) (t, V, A, P) Q := e_iald (by decide +kernel : decode (bOf 94) 101 = .ok (.iaload, 1)) h hi
theorem x_94_102 : Ev d 94 102 L st μ Q = Ev d 94 112 L st μ Q := e_goto (by decide +kernel : decode (bOf 94) 102 = .ok (.goto 10, 3)) (by omega)
theorem x_94_105 : Ev d 94 105 (.ref r :: L) st μ Q = Ev d 94 106 (.ref r :: L) (.ref r :: st) μ Q := e_aload_n (by decide +kernel : decode (bOf 94) 105 = .ok (.aload_n 0, 1)) rfl
theorem x_94_106 (h : kd t r = 5) : Ev d 94 106 L (.ref r :: st) (t, V, A, P) Q = Ev d 94 109 L (V r 1 :: st) (t, V, A, P) Q := e_getf (by decide +kernel : decode (bOf 94) 106 = .ok (.getfield 7, 3)) (by decide +kernel) (by decide +kernel) h
theorem x_94_109 : Ev d 94 109 L st μ Q = Ev d 94 110 L (.int (iI 1) :: st) μ Q := e_iconst (by decide +kernel : decode (bOf 94) 109 = .ok (.iconst 1, 1))
theorem x_94_110 (h : kd t r = 6) (hi : inB x (ln t r) = true) : Ev d 94 110 L (.int x :: .ref r :: st) (t, V, A, P) Q = Ev d 94 111 L (.int (A r x.toNatClampNeg) :: st) (t, V, A, P) Q := e_iald (by decide +kernel : decode (bOf 94) 110 = .ok (.iaload, 1)) h hi
theorem x_94_111 : Ev d 94 111 L (.int x :: st) μ Q = Ev d 94 112 L (.int (-x) :: st) μ Q := e_ineg (by decide +kernel : decode (bOf 94) 111 = .ok (.ineg, 1))
theorem x_94_112 (h : kd t r = 6) (hi : inB x (ln t r) = true) : Ev d 94 112 L (.int y :: .int x :: .ref r :: st) (t, V, A, P) Q = Ev d 94 113 L st (t, V, up1 A r (upd (A r) x.toNatClampNeg y), P) Q := e_iast (by decide +kernel : decode (bOf 94) 112 = .ok (.iastore, 1)) h hi
theorem x_94_113 : Ev d 94 113 (a0 :: .int x :: L) st μ Q = Ev d 94 114 (a0 :: .int x :: L) (.int x :: st) μ Q := e_iload_n (by decide +kernel : decode (bOf 94) 113 = .ok (.iload_n 1, 1)) rfl
theorem x_94_114 : Ev d 94 114 L st μ Q = Ev d 94 116 L (.int (iI 30) :: st) μ Q := e_bipush (by decide +kernel : decode (bOf 94) 114 = .ok (.bipush 30, 2)) (by decide +kernel)
theorem x_94_116 : Ev d 94 116 L (.int y :: .int x :: st) μ Q = if y < x then Ev d 94 119 L st μ Q else Ev d 94 127 L st μ Q := e_icmp_le (by decide +kernel : decode (bOf 94) 116 = .ok (.if_icmp .le 11, 3)) (by omega)
theorem x_94_119 : Ev d 94 119 (.ref r :: L) st μ Q = Ev d 94 120 (.ref r :: L) (.ref r :: st) μ Q := e_aload_n (by decide +kernel : decode (bOf 94) 119 = .ok (.aload_n 0, 1)) rfl
theorem x_94_120 : Ev d 94 120 (a0 :: .int x :: L) st μ Q = Ev d 94 121 (a0 :: .int x :: L) (.int x :: st) μ Q := e_iload_n (by decide +kernel : decode (bOf 94) 120 = .ok (.iload_n 1, 1)) rfl
theorem x_94_121 : Ev d 94 121 L st μ Q = Ev d 94 123 L (.int (iI 31) :: st) μ Q := e_bipush (by decide +kernel : decode (bOf 94) 121 = .ok (.bipush 31, 2)) (by decide +kernel)
theorem x_94_123 : Ev d 94 123 L (.int y :: .int x :: st) μ Q = Ev d 94 124 L (.int (x - y) :: st) μ Q := e_isub (by decide +kernel : decode (bOf 94) 123 = .ok (.isub, 1))
theorem x_94_124 (h : kd t r = 5) : Ev d 94 124 L [b0, .ref r] (t, V, A, P) Q = Call d 93 [.ref r, b0] (t, V, A, P) (fun v μ1 => Ev d 94 127 L (v.toList ++ []) μ1 Q) := e_callV (a := [b0]) (r := []) (by decide +kernel : decode (bOf 94) 124 = .ok (.invokevirtual 129, 3)) (by decide +kernel) (by decide +kernel) (by decide +kernel) (by omega) rfl (by simp) (by decide +kernel) h
theorem x_94_127 : Ev d 94 127 (a0 :: a1 :: .int x :: L) st μ Q = Ev d 94 128 (a0 :: a1 :: .int x :: L) (.int x :: st) μ Q := e_iload_n (by decide +kernel : decode (bOf 94) 127 = .ok (.iload_n 2, 1)) rfl
theorem x_94_128 : Ev d 94 128 L [.int x] μ Q = Q (some (.int x)) μ := e_iret (by decide +kernel : decode (bOf 94) 128 = .ok (.ireturn, 1)) (by decide +kernel)
theorem c_95 : Call (d + 1) 95 [.ref r0, .int i1] μ Q = Ev d 95 0 [.ref r0, .int i1] [] μ Q := call_ev rfl rfl
theorem x_95_0 : Ev d 95 0 (.ref r :: L) st μ Q = Ev d 95 1 (.ref r :: L) (.ref r :: st) μ Q := e_aload_n (by decide +kernel : decode (bOf 95) 0 = .ok (.aload_n 0, 1)) rfl
theorem x_95_1 : Ev d 95 1 L st μ Q = Ev d 95 2 L (.int (iI 0) :: st) μ Q := e_iconst (by decide +kernel : decode (bOf 95) 1 = .ok (.iconst 0, 1))
theorem x_95_2 (h : kd t r = 5) : Ev d 95 2 L (.int x :: .ref r :: st) (t, V, A, P) Q = Ev d 95 5 L st (t, up1 V r (up1 (V r) 0 (.int x)), A, P) Q := e_putf (by decide +kernel : decode (bOf 95) 2 = .ok (.putfield 59, 3)) (by decide +kernel) (by decide +kernel) rfl h
theorem x_95_5 : Ev d 95 5 (a0 :: .int x :: L) st μ Q = Ev d 95 6 (a0 :: .int x :: L) (.int x :: st) μ Q := e_iload_n (by decide +kernel : decode (bOf 95) 5 = .ok (.iload_n 1, 1)) rfl
theorem x_95_6 : Ev d 95 6 L st μ Q = Ev d 95 7 L (.int (iI 0) :: st) μ Q := e_iconst (by decide +kernel : decode (bOf 95) 6 = .ok (.iconst 0, 1))
theorem x_95_7 : Ev d 95 7 L st μ Q = Ev d 95 9 L (.int (iI 30) :: st) μ Q := e_bipush (by decide +kernel : decode (bOf 95) 7 = .ok (.bipush 30, 2)) (by decide +kernel)
theorem x_95_9 : Ev d 95 9 L [b2, b1, b0] μ Q = Call d 79 [b0, b1, b2] μ (fun v μ1 => Ev d 95 12 L (v.toList ++ []) μ1 Q) := e_callS (a := [b0, b1, b2]) (r := []) (by decide +kernel : decode (bOf 95) 9 = .ok (.invokestatic 85, 3)) (by decide +kernel) (by decide +kernel) (by omega) rfl (by simp)
theorem x_95_12 : Ev d 95 12 L (.int x :: st) μ Q = if x = iI 0 then Ev d 95 15 L st μ Q else Ev d 95 17 L st μ Q := e_if_ne (by decide +kernel : decode (bOf 95) 12 = .ok (.ifCond .ne 5, 3)) (by omega)
theorem x_95_15 : Ev d 95 15 L st μ Q = Ev d 95 16 L (.int (iI (-1)) :: st) μ Q := e_iconst (by decide +kernel : decode (bOf 95) 15 = .ok (.iconst (-1), 1))
theorem x_95_16 : Ev d 95 16 L [.int x] μ Q = Q (some (.int x)) μ := e_iret (by decide +kernel : decode (bOf 95) 16 = .ok (.ireturn, 1)) (by decide +kernel)
theorem x_95_17 : Ev d 95 17 (.ref r :: L) st μ Q = Ev d 95 18 (.ref r :: L) (.ref r :: st) μ Q := e_aload_n (by decide +kernel : decode (bOf 95) 17 = .ok (.aload_n 0, 1)) rfl
theorem x_95_18 (h : kd t r = 5) : Ev d 95 18 L (.ref r :: st) (t, V, A, P) Q = Ev d 95 21 L (V r 1 :: st) (t, V, A, P) Q := e_getf (by decide +kernel : decode (bOf 95) 18 = .ok (.getfield 7, 3)) (by decide +kernel) (by decide +kernel) h
theorem x_95_21 : Ev d 95 21 L st μ Q = Ev d 95 22 L (.int (iI 0) :: st) μ Q := e_iconst (by decide +kernel : decode (bOf 95) 21 = .ok (.iconst 0, 1))
theorem x_95_22 (h : kd t r = 6) (hi : inB x (ln t r) = true) : Ev d 95 22 L (.int x :: .ref r :: st) (t, V, A, P) Q = Ev d 95 23 L (.int (A r x.toNatClampNeg) :: st) (t, V, A, P) Q := e_iald (by decide +kernel : decode (bOf 95) 22 = .ok (.iaload, 1)) h hi
theorem x_95_23 : Ev d 95 23 L st μ Q = Ev d 95 25 L (.int (iI 32) :: st) μ Q := e_bipush (by decide +kernel : decode (bOf 95) 23 = .ok (.bipush 32, 2)) (by decide +kernel)
theorem x_95_25 : Ev d 95 25 L (.int y :: .int x :: st) μ Q = if x = y then Ev d 95 28 L st μ Q else Ev d 95 31 L st μ Q := e_icmp_ne (by decide +kernel : decode (bOf 95) 25 = .ok (.if_icmp .ne 6, 3)) (by omega)
theorem x_95_28 : Ev d 95 28 L st μ Q = Ev d 95 30 L (.int (iI (-3)) :: st) μ Q := e_bipush (by decide +kernel : decode (bOf 95) 28 = .ok (.bipush (-3), 2)) (by decide +kernel)
theorem x_95_30 : Ev d 95 30 L [.int x] μ Q = Q (some (.int x)) μ := e_iret (by decide +kernel : decode (bOf 95) 30 = .ok (.ireturn, 1)) (by decide +kernel)
theorem x_95_31 : Ev d 95 31 (.ref r :: L) st μ Q = Ev d 95 32 (.ref r :: L) (.ref r :: st) μ Q := e_aload_n (by decide +kernel : decode (bOf 95) 31 = .ok (.aload_n 0, 1)) rfl
theorem x_95_32 (h : kd t r = 5) : Ev d 95 32 L [.ref r] (t, V, A, P) Q = Call d 92 [.ref r] (t, V, A, P) (fun v μ1 => Ev d 95 35 L (v.toList ++ []) μ1 Q) := e_callV (a := []) (r := []) (by decide +kernel : decode (bOf 95) 32 = .ok (.invokevirtual 120, 3)) (by decide +kernel) (by decide +kernel) (by decide +kernel) (by omega) rfl (by simp) (by decide +kernel) h
theorem x_95_35 : Ev d 95 35 (.ref r :: L) st μ Q = Ev d 95 36 (.ref r :: L) (.ref r :: st) μ Q := e_aload_n (by decide +kernel : decode (bOf 95) 35 = .ok (.aload_n 0, 1)) rfl
theorem x_95_36 : Ev d 95 36 (a0 :: .int x :: L) st μ Q = Ev d 95 37 (a0 :: .int x :: L) (.int x :: st) μ Q := e_iload_n (by decide +kernel : decode (bOf 95) 36 = .ok (.iload_n 1, 1)) rfl
theorem x_95_37 (h : kd t r = 5) : Ev d 95 37 L [b0, .ref r] (t, V, A, P) Q = Call d 94 [.ref r, b0] (t, V, A, P) (fun v μ1 => Ev d 95 40 L (v.toList ++ []) μ1 Q) := e_callV (a := [b0]) (r := []) (by decide +kernel : decode (bOf 95) 37 = .ok (.invokevirtual 123, 3)) (by decide +kernel) (by decide +kernel) (by decide +kernel) (by omega) rfl (by simp) (by decide +kernel) h
theorem x_95_40 : Ev d 95 40 L [.int x] μ Q = Q (some (.int x)) μ := e_iret (by decide +kernel : decode (bOf 95) 40 = .ok (.ireturn, 1)) (by decide +kernel)
theorem c_96 : Call (d + 1) 96 [.ref r0, .int i1] μ Q = Ev d 96 0 [.ref r0, .int i1] [] μ Q := call_ev rfl rfl
theorem x_96_0 : Ev d 96 0 (.ref r :: L) st μ Q = Ev d 96 1 (.ref r :: L) (.ref r :: st) μ Q := e_aload_n (by decide +kernel : decode (bOf 96) 0 = .ok (.aload_n 0, 1)) rfl
theorem x_96_1 : Ev d 96 1 L st μ Q = Ev d 96 2 L (.int (iI 0) :: st) μ Q := e_iconst (by decide +kernel : decode (bOf 96) 1 = .ok (.iconst 0, 1))
theorem x_96_2 (h : kd t r = 5) : Ev d 96 2 L (.int x :: .ref r :: st) (t, V, A, P) Q = Ev d 96 5 L st (t, up1 V r (up1 (V r) 0 (.int x)), A, P) Q := e_putf (by decide +kernel : decode (bOf 96) 2 = .ok (.putfield 59, 3)) (by decide +kernel) (by decide +kernel) rfl h
theorem x_96_5 : Ev d 96 5 (a0 :: .int x :: L) st μ Q = Ev d 96 6 (a0 :: .int x :: L) (.int x :: st) μ Q := e_iload_n (by decide +kernel : decode (bOf 96) 5 = .ok (.iload_n 1, 1)) rfl
theorem x_96_6 : Ev d 96 6 L st μ Q = Ev d 96 7 L (.int (iI 0) :: st) μ Q := e_iconst (by decide +kernel : decode (bOf 96) 6 = .ok (.iconst 0, 1))
theorem x_96_7 : Ev d 96 7 L st μ Q = Ev d 96 8 L (.int (iI 2) :: st) μ Q := e_iconst (by decide +kernel : decode (bOf 96) 7 = .ok (.iconst 2, 1))
theorem x_96_8 : Ev d 96 8 L [b2, b1, b0] μ Q = Call d 79 [b0, b1, b2] μ (fun v μ1 => Ev d 96 11 L (v.toList ++ []) μ1 Q) := e_callS (a := [b0, b1, b2]) (r := []) (by decide +kernel : decode (bOf 96) 8 = .ok (.invokestatic 85, 3)) (by decide +kernel) (by decide +kernel) (by omega) rfl (by simp)
theorem x_96_11 : Ev d 96 11 L (.int x :: st) μ Q = if x = iI 0 then Ev d 96 14 L st μ Q else Ev d 96 16 L st μ Q := e_if_ne (by decide +kernel : decode (bOf 96) 11 = .ok (.ifCond .ne 5, 3)) (by omega)
theorem x_96_14 : Ev d 96 14 L st μ Q = Ev d 96 15 L (.int (iI (-1)) :: st) μ Q := e_iconst (by decide +kernel : decode (bOf 96) 14 = .ok (.iconst (-1), 1))
theorem x_96_15 : Ev d 96 15 L [.int x] μ Q = Q (some (.int x)) μ := e_iret (by decide +kernel : decode (bOf 96) 15 = .ok (.ireturn, 1)) (by decide +kernel)
theorem x_96_16 : Ev d 96 16 (.ref r :: L) st μ Q = Ev d 96 17 (.ref r :: L) (.ref r :: st) μ Q := e_aload_n (by decide +kernel : decode (bOf 96) 16 = .ok (.aload_n 0, 1)) rfl
theorem x_96_17 (h : kd t r = 5) : Ev d 96 17 L (.ref r :: st) (t, V, A, P) Q = Ev d 96 20 L (V r 1 :: st) (t, V, A, P) Q := e_getf (by decide +kernel : decode (bOf 96) 17 = .ok (.getfield 7, 3)) (by decide +kernel) (by decide +kernel) h
theorem x_96_20 : Ev d 96 20 L st μ Q = Ev d 96 21 L (.int (iI 0) :: st) μ Q := e_iconst (by decide +kernel : decode (bOf 96) 20 = .ok (.iconst 0, 1))
theorem x_96_21 (h : kd t r = 6) (hi : inB x (ln t r) = true) : Ev d 96 21 L (.int x :: .ref r :: st) (t, V, A, P) Q = Ev d 96 22 L (.int (A r x.toNatClampNeg) :: st) (t, V, A, P) Q := e_iald (by decide +kernel : decode (bOf 96) 21 = .ok (.iaload, 1)) h hi
theorem x_96_22 : Ev d 96 22 L st μ Q = Ev d 96 24 L (.int (iI 32) :: st) μ Q := e_bipush (by decide +kernel : decode (bOf 96) 22 = .ok (.bipush 32, 2)) (by decide +kernel)
theorem x_96_24 : Ev d 96 24 L (.int y :: .int x :: st) μ Q = if x = y then Ev d 96 27 L st μ Q else Ev d 96 30 L st μ Q := e_icmp_ne (by decide +kernel : decode (bOf 96) 24 = .ok (.if_icmp .ne 6, 3)) (by omega)
theorem x_96_27 : Ev d 96 27 L st μ Q = Ev d 96 29 L (.int (iI (-3)) :: st) μ Q := e_bipush (by decide +kernel : decode (bOf 96) 27 = .ok (.bipush (-3), 2)) (by decide +kernel)
theorem x_96_29 : Ev d 96 29 L [.int x] μ Q = Q (some (.int x)) μ := e_iret (by decide +kernel : decode (bOf 96) 29 = .ok (.ireturn, 1)) (by decide +kernel)
theorem x_96_30 : Ev d 96 30 (.ref r :: L) st μ Q = Ev d 96 31 (.ref r :: L) (.ref r :: st) μ Q := e_aload_n (by decide +kernel : decode (bOf 96) 30 = .ok (.aload_n 0, 1)) rfl
theorem x_96_31 (h : kd t r = 5) : Ev d 96 31 L [.ref r] (t, V, A, P) Q = Call d 92 [.ref r] (t, V, A, P) (fun v μ1 => Ev d 96 34 L (v.toList ++ []) μ1 Q) := e_callV (a := []) (r := []) (by decide +kernel : decode (bOf 96) 31 = .ok (.invokevirtual 120, 3)) (by decide +kernel) (by decide +kernel) (by decide +kernel) (by omega) rfl (by simp) (by decide +kernel) h
theorem x_96_34 : Ev d 96 34 (.ref r :: L) st μ Q = Ev d 96 35 (.ref r :: L) (.ref r :: st) μ Q := e_aload_n (by decide +kernel : decode (bOf 96) 34 = .ok (.aload_n 0, 1)) rfl
theorem x_96_35 : Ev d 96 35 L st μ Q = Ev d 96 37 L (.int (iI 31) :: st) μ Q := e_bipush (by decide +kernel : decode (bOf 96) 35 = .ok (.bipush 31, 2)) (by decide +kernel)
theorem x_96_37 : Ev d 96 37 (a0 :: .int x :: L) st μ Q = Ev d 96 38 (a0 :: .int x :: L) (.int x :: st) μ Q := e_iload_n (by decide +kernel : decode (bOf 96) 37 = .ok (.iload_n 1, 1)) rfl
theorem x_96_38 : Ev d 96 38 L (.int y :: .int x :: st) μ Q = Ev d 96 39 L (.int (x + y) :: st) μ Q := e_iadd (by decide +kernel : decode (bOf 96) 38 = .ok (.iadd, 1))
theorem x_96_39 (h : kd t r = 5) : Ev d 96 39 L [b0, .ref r] (t, V, A, P) Q = Call d 94 [.ref r, b0] (t, V, A, P) (fun v μ1 => Ev d 96 42 L (v.toList ++ []) μ1 Q) := e_callV (a := [b0]) (r := []) (by decide +kernel : decode (bOf 96) 39 = .ok (.invokevirtual 123, 3)) (by decide +kernel) (by decide +kernel) (by decide +kernel) (by omega) rfl (by simp) (by decide +kernel) h
theorem x_96_42 : Ev d 96 42 L [.int x] μ Q = Q (some (.int x)) μ := e_iret (by decide +kernel : decode (bOf 96) 42 = .ok (.ireturn, 1)) (by decide +kernel)
theorem c_97 : Call (d + 1) 97 [.ref r0, .int i1] μ Q = Ev d 97 0 [.ref r0, .int i1] [] μ Q := call_ev rfl rfl
theorem x_97_0 : Ev d 97 0 (a0 :: .int x :: L) st μ Q = Ev d 97 1 (a0 :: .int x :: L) (.int x :: st) μ Q := e_iload_n (by decide +kernel : decode (bOf 97) 0 = .ok (.iload_n 1, 1)) rfl
theorem x_97_1 : Ev d 97 1 L st μ Q = Ev d 97 2 L (.int (iI 0) :: st) μ Q := e_iconst (by decide +kernel : decode (bOf 97) 1 = .ok (.iconst 0, 1))
theorem x_97_2 : Ev d 97 2 L st μ Q = Ev d 97 4 L (.int (iI 6) :: st) μ Q := e_bipush (by decide +kernel : decode (bOf 97) 2 = .ok (.bipush 6, 2)) (by decide +kernel)
theorem x_97_4 : Ev d 97 4 (.ref r :: L) st μ Q = Ev d 97 5 (.ref r :: L) (.ref r :: st) μ Q := e_aload_n (by decide +kernel : decode (bOf 97) 4 = .ok (.aload_n 0, 1)) rfl
theorem x_97_5 (h : kd t r = 5) : Ev d 97 5 L (.ref r :: st) (t, V, A, P) Q = Ev d 97 8 L (V r 1 :: st) (t, V, A, P) Q := e_getf (by decide +kernel : decode (bOf 97) 5 = .ok (.getfield 7, 3)) (by decide +kernel) (by decide +kernel) h
theorem x_97_8 : Ev d 97 8 L st μ Q = Ev d 97 9 L (.int (iI 0) :: st) μ Q := e_iconst (by decide +kernel : decode (bOf 97) 8 = .ok (.iconst 0, 1))
theorem x_97_9 (h : kd t r = 6) (hi : inB x (ln t r) = true) : Ev d 97 9 L (.int x :: .ref r :: st) (t, V, A, P) Q = Ev d 97 10 L (.int (A r x.toNatClampNeg) :: st) (t, V, A, P) Q := e_iald (by decide +kernel : decode (bOf 97) 9 = .ok (.iaload, 1)) h hi
theorem x_97_10 : Ev d 97 10 L (.int y :: .int x :: st) μ Q = Ev d 97 11 L (.int (x * y) :: st) μ Q := e_imul (by decide +kernel : decode (bOf 97) 10 = .ok (.imul, 1))
theorem x_97_11 : Ev d 97 11 L st μ Q = Ev d 97 12 L (.int (iI 1) :: st) μ Q := e_iconst (by decide +kernel : decode (bOf 97) 11 = .ok (.iconst 1, 1))
theorem x_97_12 : Ev d 97 12 L (.int y :: .int x :: st) μ Q = Ev d 97 13 L (.int (x - y) :: st) μ Q := e_isub (by decide +kernel : decode (bOf 97) 12 = .ok (.isub, 1))
theorem x_97_13 : Ev d 97 13 L [b2, b1, b0] μ Q = Call d 79 [b0, b1, b2] μ (fun v μ1 => Ev d 97 16 L (v.toList ++ []) μ1 Q) := e_callS (a := [b0, b1, b2]) (r := []) (by decide +kernel : decode (bOf 97) 13 = .ok (.invokestatic 85, 3)) (by decide +kernel) (by decide +kernel) (by omega) rfl (by simp)
theorem x_97_16 (hx : isB x) : Ev d 97 16 L [.int x] μ Q = Q (some (.int x)) μ := e_zret (by decide +kernel : decode (bOf 97) 16 = .ok (.ireturn, 1)) (by decide +kernel) hx
theorem c_98 : Call (d + 1) 98 [.ref r0, .int i1] μ Q = Ev d 98 0 [.ref r0, .int i1] [] μ Q := call_ev rfl rfl
theorem x_98_0 : Ev d 98 0 (.ref r :: L) st μ Q = Ev d 98 1 (.ref r :: L) (.ref r :: st) μ Q := e_aload_n (by decide +kernel : decode (bOf 98) 0 = .ok (.aload_n 0, 1)) rfl
theorem x_98_1 : Ev d 98 1 L st μ Q = Ev d 98 2 L (.int (iI 0) :: st) μ Q := e_iconst (by decide +kernel : decode (bOf 98) 1 = .ok (.iconst 0, 1))
theorem x_98_2 (h : kd t r = 5) : Ev d 98 2 L (.int x :: .ref r :: st) (t, V, A, P) Q = Ev d 98 5 L st (t, up1 V r (up1 (V r) 0 (.int x)), A, P) Q := e_putf (by decide +kernel : decode (bOf 98) 2 = .ok (.putfield 59, 3)) (by decide +kernel) (by decide +kernel) rfl h
theorem x_98_5 : Ev d 98 5 (.ref r :: L) st μ Q = Ev d 98 6 (.ref r :: L) (.ref r :: st) μ Q := e_aload_n (by decide +kernel : decode (bOf 98) 5 = .ok (.aload_n 0, 1)) rfl
theorem x_98_6 : Ev d 98 6 (a0 :: .int x :: L) st μ Q = Ev d 98 7 (a0 :: .int x :: L) (.int x :: st) μ Q := e_iload_n (by decide +kernel : decode (bOf 98) 6 = .ok (.iload_n 1, 1)) rfl
theorem x_98_7 (h : kd t r = 5) : Ev d 98 7 L [b0, .ref r] (t, V, A, P) Q = Call d 97 [.ref r, b0] (t, V, A, P) (fun v μ1 => Ev d 98 10 L (v.toList ++ []) μ1 Q) := e_callV (a := [b0]) (r := []) (by decide +kernel : decode (bOf 98) 7 = .ok (.invokevirtual 133, 3)) (by decide +kernel) (by decide +kernel) (by decide +kernel) (by omega) rfl (by simp) (by decide +kernel) h
theorem x_98_10 : Ev d 98 10 L (.int x :: st) μ Q = if x = iI 0 then Ev d 98 13 L st μ Q else Ev d 98 15 L st μ Q := e_if_ne (by decide +kernel : decode (bOf 98) 10 = .ok (.ifCond .ne 5, 3)) (by omega)
theorem x_98_13 : Ev d 98 13 L st μ Q = Ev d 98 14 L (.int (iI (-1)) :: st) μ Q := e_iconst (by decide +kernel : decode (bOf 98) 13 = .ok (.iconst (-1), 1))
theorem x_98_14 : Ev d 98 14 L [.int x] μ Q = Q (some (.int x)) μ := e_iret (by decide +kernel : decode (bOf 98) 14 = .ok (.ireturn, 1)) (by decide +kernel)
theorem x_98_15 : Ev d 98 15 (.ref r :: L) st μ Q = Ev d 98 16 (.ref r :: L) (.ref r :: st) μ Q := e_aload_n (by decide +kernel : decode (bOf 98) 15 = .ok (.aload_n 0, 1)) rfl
theorem x_98_16 (h : kd t r = 5) : Ev d 98 16 L [.ref r] (t, V, A, P) Q = Call d 92 [.ref r] (t, V, A, P) (fun v μ1 => Ev d 98 19 L (v.toList ++ []) μ1 Q) := e_callV (a := []) (r := []) (by decide +kernel : decode (bOf 98) 16 = .ok (.invokevirtual 120, 3)) (by decide +kernel) (by decide +kernel) (by decide +kernel) (by omega) rfl (by simp) (by decide +kernel) h
theorem x_98_19 : Ev d 98 19 (.ref r :: L) st μ Q = Ev d 98 20 (.ref r :: L) (.ref r :: st) μ Q := e_aload_n (by decide +kernel : decode (bOf 98) 19 = .ok (.aload_n 0, 1)) rfl
theorem x_98_20 (h : kd t r = 5) : Ev d 98 20 L (.ref r :: st) (t, V, A, P) Q = Ev d 98 23 L (V r 1 :: st) (t, V, A, P) Q := e_getf (by decide +kernel : decode (bOf 98) 20 = .ok (.getfield 7, 3)) (by decide +kernel) (by decide +kernel) h
theorem x_98_23 : Ev d 98 23 L st μ Q = Ev d 98 25 L (.int (iI 36) :: st) μ Q := e_bipush (by decide +kernel : decode (bOf 98) 23 = .ok (.bipush 36, 2)) (by decide +kernel)
theorem x_98_25 : Ev d 98 25 (a0 :: .int x :: L) st μ Q = Ev d 98 26 (a0 :: .int x :: L) (.int x :: st) μ Q := e_iload_n (by decide +kernel : decode (bOf 98) 25 = .ok (.iload_n 1, 1)) rfl
theorem x_98_26 : Ev d 98 26 L (.int y :: .int x :: st) μ Q = Ev d 98 27 L (.int (x + y) :: st) μ Q := e_iadd (by decide +kernel : decode (bOf 98) 26 = .ok (.iadd, 1))
theorem x_98_27 : Ev d 98 27 L st μ Q = Ev d 98 28 L (.int (iI 1) :: st) μ Q := e_iconst (by decide +kernel : decode (bOf 98) 27 = .ok (.iconst 1, 1))
theorem x_98_28 : Ev d 98 28 (.ref r :: L) st μ Q = Ev d 98 29 (.ref r :: L) (.ref r :: st) μ Q := e_aload_n (by decide +kernel : decode (bOf 98) 28 = .ok (.aload_n 0, 1)) rfl
theorem x_98_29 (h : kd t r = 5) : Ev d 98 29 L (.ref r :: st) (t, V, A, P) Q = Ev d 98 32 L (V r 1 :: st) (t, V, A, P) Q := e_getf (by decide +kernel : decode (bOf 98) 29 = .ok (.getfield 7, 3)) (by decide +kernel) (by decide +kernel) h
theorem x_98_32 : Ev d 98 32 L st μ Q = Ev d 98 34 L (.int (iI 36) :: st) μ Q := e_bipush (by decide +kernel : decode (bOf 98) 32 = .ok (.bipush 36, 2)) (by decide +kernel)
theorem x_98_34 : Ev d 98 34 (a0 :: .int x :: L) st μ Q = Ev d 98 35 (a0 :: .int x :: L) (.int x :: st) μ Q := e_iload_n (by decide +kernel : decode (bOf 98) 34 = .ok (.iload_n 1, 1)) rfl
theorem x_98_35 : Ev d 98 35 L (.int y :: .int x :: st) μ Q = Ev d 98 36 L (.int (x + y) :: st) μ Q := e_iadd (by decide +kernel : decode (bOf 98) 35 = .ok (.iadd, 1))
theorem x_98_36 (h : kd t r = 6) (hi : inB x (ln t r) = true) : Ev d 98 36 L (.int x :: .ref r :: st) (t, V, A, P) Q = Ev d 98 37 L (.int (A r x.toNatClampNeg) :: st) (t, V, A, P) Q := e_iald (by decide +kernel : decode (bOf 98) 36 = .ok (.iaload, 1)) h hi
theorem x_98_37 : Ev d 98 37 L (.int y :: .int x :: st) μ Q = Ev d 98 38 L (.int (x - y) :: st) μ Q := e_isub (by decide +kernel : decode (bOf 98) 37 = .ok (.isub, 1))
theorem x_98_38 (h : kd t r = 6) (hi : inB x (ln t r) = true) : Ev d 98 38 L (.int y :: .int x :: .ref r :: st) (t, V, A, P) Q = Ev d 98 39 L st (t, V, up1 A r (upd (A r) x.toNatClampNeg y), P) Q := e_iast (by decide +kernel : decode (bOf 98) 38 = .ok (.iastore, 1)) h hi
theorem x_98_39 : Ev d 98 39 (.ref r :: L) st μ Q = Ev d 98 40 (.ref r :: L) (.ref r :: st) μ Q := e_aload_n (by decide +kernel : decode (bOf 98) 39 = .ok (.aload_n 0, 1)) rfl
theorem x_98_40 (h : kd t r = 5) : Ev d 98 40 L (.ref r :: st) (t, V, A, P) Q = Ev d 98 43 L (V r 1 :: st) (t, V, A, P) Q := e_getf (by decide +kernel : decode (bOf 98) 40 = .ok (.getfield 7, 3)) (by decide +kernel) (by decide +kernel) h
theorem x_98_43 : Ev d 98 43 L st μ Q = Ev d 98 45 L (.int (iI 36) :: st) μ Q := e_bipush (by decide +kernel : decode (bOf 98) 43 = .ok (.bipush 36, 2)) (by decide +kernel)
theorem x_98_45 : Ev d 98 45 (a0 :: .int x :: L) st μ Q = Ev d 98 46 (a0 :: .int x :: L) (.int x :: st) μ Q := e_iload_n (by decide +kernel : decode (bOf 98) 45 = .ok (.iload_n 1, 1)) rfl
theorem x_98_46 : Ev d 98 46 L (.int y :: .int x :: st) μ Q = Ev d 98 47 L (.int (x + y) :: st) μ Q := e_iadd (by decide +kernel : decode (bOf 98) 46 = .ok (.iadd, 1))
theorem x_98_47 (h : kd t r = 6) (hi : inB x (ln t r) = true) : Ev d 98 47 L (.int x :: .ref r :: st) (t, V, A, P) Q = Ev d 98 48 L (.int (A r x.toNatClampNeg) :: st) (t, V, A, P) Q := e_iald (by decide +kernel : decode (bOf 98) 47 = .ok (.iaload, 1)) h hi
theorem x_98_48 : Ev d 98 48 L [.int x] μ Q = Q (some (.int x)) μ := e_iret (by decide +kernel : decode (bOf 98) 48 = .ok (.ireturn, 1)) (by decide +kernel)
theorem c_99 : Call (d + 1) 99 [.ref r0] μ Q = Ev d 99 0 [.ref r0, .null] [] μ Q := call_ev rfl rfl
theorem x_99_0 : Ev d 99 0 (.ref r :: L) st μ Q = Ev d 99 1 (.ref r :: L) (.ref r :: st) μ Q := e_aload_n (by decide +kernel : decode (bOf 99) 0 = .ok (.aload_n 0, 1)) rfl
theorem x_99_1 : Ev d 99 1 L st μ Q = Ev d 99 2 L (.int (iI 0) :: st) μ Q := e_iconst (by decide +kernel : decode (bOf 99) 1 = .ok (.iconst 0, 1))
theorem x_99_2 (h : kd t r = 5) : Ev d 99 2 L (.int x :: .ref r :: st) (t, V, A, P) Q = Ev d 99 5 L st (t, up1 V r (up1 (V r) 0 (.int x)), A, P) Q := e_putf (by decide +kernel : decode (bOf 99) 2 = .ok (.putfield 59, 3)) (by decide +kernel) (by decide +kernel) rfl h
theorem x_99_5 : Ev d 99 5 (.ref r :: L) st μ Q = Ev d 99 6 (.ref r :: L) (.ref r :: st) μ Q := e_aload_n (by decide +kernel : decode (bOf 99) 5 = .ok (.aload_n 0, 1)) rfl
theorem x_99_6 (h : kd t r = 5) : Ev d 99 6 L (.ref r :: st) (t, V, A, P) Q = Ev d 99 9 L (V r 1 :: st) (t, V, A, P) Q := e_getf (by decide +kernel : decode (bOf 99) 6 = .ok (.getfield 7, 3)) (by decide +kernel) (by decide +kernel) h
theorem x_99_9 : Ev d 99 9 L st μ Q = Ev d 99 10 L (.int (iI 0) :: st) μ Q := e_iconst (by decide +kernel : decode (bOf 99) 9 = .ok (.iconst 0, 1))
theorem x_99_10 (h : kd t r = 6) (hi : inB x (ln t r) = true) : Ev d 99 10 L (.int x :: .ref r :: st) (t, V, A, P) Q = Ev d 99 11 L (.int (A r x.toNatClampNeg) :: st) (t, V, A, P) Q := e_iald (by decide +kernel : decode (bOf 99) 10 = .ok (.iaload, 1)) h hi
theorem x_99_11 (h : a0.category = 1) : Ev d 99 11 (a0 :: a1 :: L) (.int x :: st) μ Q = Ev d 99 12 (a0 :: .int x :: L) st μ Q := e_istore_n (by decide +kernel : decode (bOf 99) 11 = .ok (.istore_n 1, 1)) (by show stOK _ 1 = true; simp [stOK, h])
theorem x_99_12 : Ev d 99 12 (a0 :: .int x :: L) st μ Q = Ev d 99 13 (a0 :: .int x :: L) (.int x :: st) μ Q := e_iload_n (by decide +kernel : decode (bOf 99) 12 = .ok (.iload_n 1, 1)) rfl
theorem x_99_13 : Ev d 99 13 L (.int x :: st) μ Q = if x = iI 0 then Ev d 99 16 L st μ Q else Ev d 99 19 L st μ Q := e_if_ne (by decide +kernel : decode (bOf 99) 13 = .ok (.ifCond .ne 6, 3)) (by omega)
theorem x_99_16 : Ev d 99 16 L st μ Q = Ev d 99 18 L (.int (iI (-2)) :: st) μ Q := e_bipush (by decide +kernel : decode (bOf 99) 16 = .ok (.bipush (-2), 2)) (by decide +kernel)
theorem x_99_18 : Ev d 99 18 L [.int x] μ Q = Q (some (.int x)) μ := e_iret (by decide +kernel : decode (bOf 99) 18 = .ok (.ireturn, 1)) (by decide +kernel)
theorem x_99_19 : Ev d 99 19 (.ref r :: L) st μ Q = Ev d 99 20 (.ref r :: L) (.ref r :: st) μ Q := e_aload_n (by decide +kernel : decode (bOf 99) 19 = .ok (.aload_n 0, 1)) rfl
theorem x_99_20 (h : kd t r = 5) : Ev d 99 20 L [.ref r] (t, V, A, P) Q = Call d 92 [.ref r] (t, V, A, P) (fun v μ1 => Ev d 99 23 L (v.toList ++ []) μ1 Q) := e_callV (a := []) (r := []) (by decide +kernel : decode (bOf 99) 20 = .ok (.invokevirtual 120, 3)) (by decide +kernel) (by decide +kernel) (by decide +kernel) (by omega) rfl (by simp) (by decide +kernel) h
theorem x_99_23 : Ev d 99 23 (.ref r :: L) st μ Q = Ev d 99 24 (.ref r :: L) (.ref r :: st) μ Q := e_aload_n (by decide +kernel : decode (bOf 99) 23 = .ok (.aload_n 0, 1)) rfl
theorem x_99_24 (h : kd t r = 5) : Ev d 99 24 L [.ref r] (t, V, A, P) Q = Call d 78 [.ref r] (t, V, A, P) (fun v μ1 => Ev d 99 27 L (v.toList ++ []) μ1 Q) := e_callV (a := []) (r := []) (by decide +kernel : decode (bOf 99) 24 = .ok (.invokevirtual 56, 3)) (by decide +kernel) (by decide +kernel) (by decide +kernel) (by omega) rfl (by simp) (by decide +kernel) h
theorem x_99_27 : Ev d 99 27 (a0 :: .int x :: L) st μ Q = Ev d 99 28 (a0 :: .int x :: L) (.int x :: st) μ Q := e_iload_n (by decide +kernel : decode (bOf 99) 27 = .ok (.iload_n 1, 1)) rfl
theorem x_99_28 : Ev d 99 28 L [.int x] μ Q = Q (some (.int x)) μ := e_iret (by decide +kernel : decode (bOf 99) 28 = .ok (.ireturn, 1)) (by decide +kernel)
theorem c_100 : Call (d + 1) 100 [.ref r0] μ Q = Ev d 100 0 [.ref r0, .null] [] μ Q := call_ev rfl rfl
theorem x_100_0 : Ev d 100 0 (.ref r :: L) st μ Q = Ev d 100 1 (.ref r :: L) (.ref r :: st) μ Q := e_aload_n (by decide +kernel : decode (bOf 100) 0 = .ok (.aload_n 0, 1)) rfl
theorem x_100_1 : Ev d 100 1 L st μ Q = Ev d 100 2 L (.int (iI 0) :: st) μ Q := e_iconst (by decide +kernel : decode (bOf 100) 1 = .ok (.iconst 0, 1))
theorem x_100_2 (h : kd t r = 5) : Ev d 100 2 L (.int x :: .ref r :: st) (t, V, A, P) Q = Ev d 100 5 L st (t, up1 V r (up1 (V r) 0 (.int x)), A, P) Q := e_putf (by decide +kernel : decode (bOf 100) 2 = .ok (.putfield 59, 3)) (by decide +kernel) (by decide +kernel) rfl h
theorem x_100_5 : Ev d 100 5 (.ref r :: L) st μ Q = Ev d 100 6 (.ref r :: L) (.ref r :: st) μ Q := e_aload_n (by decide +kernel : decode (bOf 100) 5 = .ok (.aload_n 0, 1)) rfl
theorem x_100_6 (h : kd t r = 5) : Ev d 100 6 L (.ref r :: st) (t, V, A, P) Q = Ev d 100 9 L (V r 3 :: st) (t, V, A, P) Q := e_getf (by decide +kernel : decode (bOf 100) 6 = .ok (.getfield 126, 3)) (by decide +kernel) (by decide +kernel) h
theorem x_100_9 : Ev d 100 9 L (.int x :: st) μ Q = if x = iI 0 then Ev d 100 12 L st μ Q else Ev d 100 15 L st μ Q := e_if_ne (by decide +kernel : decode (bOf 100) 9 = .ok (.ifCond .ne 6, 3)) (by omega)
theorem x_100_12 : Ev d 100 12 L st μ Q = Ev d 100 14 L (.int (iI (-2)) :: st) μ Q := e_bipush (by decide +kernel : decode (bOf 100) 12 = .ok (.bipush (-2), 2)) (by decide +kernel)
theorem x_100_14 : Ev d 100 14 L [.int x] μ Q = Q (some (.int x)) μ := e_iret (by decide +kernel : decode (bOf 100) 14 = .ok (.ireturn, 1)) (by decide +kernel)
theorem x_100_15 : Ev d 100 15 (.ref r :: L) st μ Q = Ev d 100 16 (.ref r :: L) (.ref r :: st) μ Q := e_aload_n (by decide +kernel : decode (bOf 100) 15 = .ok (.aload_n 0, 1)) rfl
theorem x_100_16 : Ev d 100 16 L (.ref r :: st) μ Q = Ev d 100 17 L (.ref r :: .ref r :: st) μ Q := e_dup_a (by decide +kernel : decode (bOf 100) 16 = .ok (.dup, 1))
theorem x_100_17 (h : kd t r = 5) : Ev d 100 17 L (.ref r :: st) (t, V, A, P) Q = Ev d 100 20 L (V r 3 :: st) (t, V, A, P) Q := e_getf (by decide +kernel : decode (bOf 100) 17 = .ok (.getfield 126, 3)) (by decide +kernel) (by decide +kernel) h
theorem x_100_20 : Ev d 100 20 L st μ Q = Ev d 100 21 L (.int (iI 1) :: st) μ Q := e_iconst (by decide +kernel : decode (bOf 100) 20 = .ok (.iconst 1, 1))
theorem x_100_21 : Ev d 100 21 L (.int y :: .int x :: st) μ Q = Ev d 100 22 L (.int (x - y) :: st) μ Q := e_isub (by decide +kernel : decode (bOf 100) 21 = .ok (.isub, 1))
theorem x_100_22 (h : kd t r = 5) : Ev d 100 22 L (.int x :: .ref r :: st) (t, V, A, P) Q = Ev d 100 25 L st (t, up1 V r (up1 (V r) 3 (.int x)), A, P) Q := e_putf (by decide +kernel : decode (bOf 100) 22 = .ok (.putfield 126, 3)) (by decide +kernel) (by decide +kernel) rfl h
theorem x_100_25 : Ev d 100 25 L st μ Q = Ev d 100 26 L (.int (iI 0) :: st) μ Q := e_iconst (by decide +kernel : decode (bOf 100) 25 = .ok (.iconst 0, 1))
theorem x_100_26 (h : a0.category = 1) : Ev d 100 26 (a0 :: a1 :: L) (.int x :: st) μ Q = Ev d 100 27 (a0 :: .int x :: L) st μ Q := e_istore_n (by decide +kernel : decode (bOf 100) 26 = .ok (.istore_n 1, 1)) (by show stOK _ 1 = true; simp [stOK, h])
theorem x_100_27 : Ev d 100 27 (a0 :: .int x :: L) st μ Q = Ev d 100 28 (a0 :: .int x :: L) (.int x :: st) μ Q := e_iload_n (by decide +kernel : decode (bOf 100) 27 = .ok (.iload_n 1, 1)) rfl
theorem x_100_28 : Ev d 100 28 L st μ Q = Ev d 100 31 L (.int (iI 228) :: st) μ Q := e_sipush (by decide +kernel : decode (bOf 100) 28 = .ok (.sipush 228, 3)) (by decide +kernel)
theorem x_100_31 : Ev d 100 31 L (.int y :: .int x :: st) μ Q = if x < y then Ev d 100 34 L st μ Q else Ev d 100 61 L st μ Q := e_icmp_ge (by decide +kernel : decode (bOf 100) 31 = .ok (.if_icmp .ge 30, 3)) (by omega)
theorem x_100_34 : Ev d 100 34 (.ref r :: L) st μ Q = Ev d 100 35 (.ref r :: L) (.ref r :: st) μ Q := e_aload_n (by decide +kernel : decode (bOf 100) 34 = .ok (.aload_n 0, 1)) rfl
theorem x_100_35 (h : kd t r = 5) : Ev d 100 35 L (.ref r :: st) (t, V, A, P) Q = Ev d 100 38 L (V r 1 :: st) (t, V, A, P) Q := e_getf (by decide +kernel : decode (bOf 100) 35 = .ok (.getfield 7, 3)) (by decide +kernel) (by decide +kernel) h
theorem x_100_38 : Ev d 100 38 (a0 :: .int x :: L) st μ Q = Ev d 100 39 (a0 :: .int x :: L) (.int x :: st) μ Q := e_iload_n (by decide +kernel : decode (bOf 100) 38 = .ok (.iload_n 1, 1)) rfl
theorem x_100_39 : Ev d 100 39 (.ref r :: L) st μ Q = Ev d 100 40 (.ref r :: L) (.ref r :: st) μ Q := e_aload_n (by decide +kernel : decode (bOf 100) 39 = .ok (.aload_n 0, 1)) rfl
theorem x_100_40 (h : kd t r = 5) : Ev d 100 40 L (.ref r :: st) (t, V, A, P) Q = Ev d 100 43 L (V r 2 :: st) (t, V, A, P) Q := e_getf (by decide +kernel : decode (bOf 100) 40 = .ok (.getfield 13, 3)) (by decide +kernel) (by decide +kernel) h
theorem x_100_43 : Ev d 100 43 L st μ Q = Ev d 100 46 L (.int (iI 228) :: st) μ Q := e_sipush (by decide +kernel : decode (bOf 100) 43 = .ok (.sipush 228, 3)) (by decide +kernel)
theorem x_100_46 : Ev d 100 46 (.ref r :: L) st μ Q = Ev d 100 47 (.ref r :: L) (.ref r :: st) μ Q := e_aload_n (by decide +kernel : decode (bOf 100) 46 = .ok (.aload_n 0, 1)) rfl
theorem x_100_47 (h : kd t r = 5) : Ev d 100 47 L (.ref r :: st) (t, V, A, P) Q = Ev d 100 50 L (V r 3 :: st) (t, V, A, P) Q := e_getf (by decide +kernel : decode (bOf 100) 47 = .ok (.getfield 126, 3)) (by decide +kernel) (by decide +kernel) h
theorem x_100_50 : Ev d 100 50 L (.int y :: .int x :: st) μ Q = Ev d 100 51 L (.int (x * y) :: st) μ Q := e_imul (by decide +kernel : decode (bOf 100) 50 = .ok (.imul, 1))
theorem x_100_51 : Ev d 100 51 (a0 :: .int x :: L) st μ Q = Ev d 100 52 (a0 :: .int x :: L) (.int x :: st) μ Q := e_iload_n (by decide +kernel : decode (bOf 100) 51 = .ok (.iload_n 1, 1)) rfl
theorem x_100_52 : Ev d 100 52 L (.int y :: .int x :: st) μ Q = Ev d 100 53 L (.int (x + y) :: st) μ Q := e_iadd (by decide +kernel : decode (bOf 100) 52 = .ok (.iadd, 1))
theorem x_100_53 (h : kd t r = 6) (hi : inB x (ln t r) = true) : Ev d 100 53 L (.int x :: .ref r :: st) (t, V, A, P) Q = Ev d 100 54 L (.int (A r x.toNatClampNeg) :: st) (t, V, A, P) Q := e_iald (by decide +kernel : decode (bOf 100) 53 = .ok (.iaload, 1)) h hi
theorem x_100_54 (h : kd t r = 6) (hi : inB x (ln t r) = true) : Ev d 100 54 L (.int y :: .int x :: .ref r :: st) (t, V, A, P) Q = Ev d 100 55 L st (t, V, up1 A r (upd (A r) x.toNatClampNeg y), P) Q := e_iast (by decide +kernel : decode (bOf 100) 54 = .ok (.iastore, 1)) h hi
theorem x_100_55 (h : a0.category = 1) : Ev d 100 55 (a0 :: .int x :: L) st μ Q = Ev d 100 58 (a0 :: .int (x + (iI 1)) :: L) st μ Q := e_iinc (by decide +kernel : decode (bOf 100) 55 = .ok (.iinc 1 1, 3)) rfl (by simp [stOK, h])
theorem x_100_58 : Ev d 100 58 L st μ Q = Ev d 100 27 L st μ Q := e_goto (by decide +kernel : decode (bOf 100) 58 = .ok (.goto (-31), 3)) (by omega)
theorem x_100_61 : Ev d 100 61 (.ref r :: L) st μ Q = Ev d 100 62 (.ref r :: L) (.ref r :: st) μ Q := e_aload_n (by decide +kernel : decode (bOf 100) 61 = .ok (.aload_n 0, 1)) rfl
theorem x_100_62 (h : kd t r = 5) : Ev d 100 62 L (.ref r :: st) (t, V, A, P) Q = Ev d 100 65 L (V r 3 :: st) (t, V, A, P) Q := e_getf (by decide +kernel : decode (bOf 100) 62 = .ok (.getfield 126, 3)) (by decide +kernel) (by decide +kernel) h
theorem x_100_65 : Ev d 100 65 L [.int x] μ Q = Q (some (.int x)) μ := e_iret (by decide +kernel : decode (bOf 100) 65 = .ok (.ireturn, 1)) (by decide +kernel)
theorem c_101 : Call (d + 1) 101 [.ref r0, .int i1, .int i2] μ Q = Ev d 101 0 [.ref r0, .int i1, .int i2] [] μ Q := call_ev rfl rfl
theorem x_101_0 : Ev d 101 0 (.ref r :: L) st μ Q = Ev d 101 1 (.ref r :: L) (.ref r :: st) μ Q := e_aload_n (by decide +kernel : decode (bOf 101) 0 = .ok (.aload_n 0, 1)) rfl
theorem x_101_1 : Ev d 101 1 L st μ Q = Ev d 101 2 L (.int (iI 0) :: st) μ Q := e_iconst (by decide +kernel : decode (bOf 101) 1 = .ok (.iconst 0, 1))
theorem x_101_2 (h : kd t r = 5) : Ev d 101 2 L (.int x :: .ref r :: st) (t, V, A, P) Q = Ev d 101 5 L st (t, up1 V r (up1 (V r) 0 (.int x)), A, P) Q := e_putf (by decide +kernel : decode (bOf 101) 2 = .ok (.putfield 59, 3)) (by decide +kernel) (by decide +kernel) rfl h
theorem x_101_5 : Ev d 101 5 (a0 :: .int x :: L) st μ Q = Ev d 101 6 (a0 :: .int x :: L) (.int x :: st) μ Q := e_iload_n (by decide +kernel : decode (bOf 101) 5 = .ok (.iload_n 1, 1)) rfl
theorem x_101_6 : Ev d 101 6 L st μ Q = Ev d 101 7 L (.int (iI 0) :: st) μ Q := e_iconst (by decide +kernel : decode (bOf 101) 6 = .ok (.iconst 0, 1))
theorem x_101_7 : Ev d 101 7 L st μ Q = Ev d 101 9 L (.int (iI 33) :: st) μ Q := e_bipush (by decide +kernel : decode (bOf 101) 7 = .ok (.bipush 33, 2)) (by decide +kernel)
theorem x_101_9 : Ev d 101 9 L [b2, b1, b0] μ Q = Call d 79 [b0, b1, b2] μ (fun v μ1 => Ev d 101 12 L (v.toList ++ []) μ1 Q) := e_callS (a := [b0, b1, b2]) (r := []) (by decide +kernel : decode (bOf 101) 9 = .ok (.invokestatic 85, 3)) (by decide +kernel) (by decide +kernel) (by omega) rfl (by simp)
theorem x_101_12 : Ev d 101 12 L (.int x :: st) μ Q = if x = iI 0 then Ev d 101 32 L st μ Q else Ev d 101 15 L st μ Q := e_if_eq (by decide +kernel : decode (bOf 101) 12 = .ok (.ifCond .eq 20, 3)) (by omega)
theorem x_101_15 : Ev d 101 15 (a0 :: a1 :: .int x :: L) st μ Q = Ev d 101 16 (a0 :: a1 :: .int x :: L) (.int x :: st) μ Q := e_iload_n (by decide +kernel : decode (bOf 101) 15 = .ok (.iload_n 2, 1)) rfl
theorem x_101_16 : Ev d 101 16 L st μ Q = Ev d 101 17 L (.int (iI 0) :: st) μ Q := e_iconst (by decide +kernel : decode (bOf 101) 16 = .ok (.iconst 0, 1))
theorem x_101_17 : Ev d 101 17 L st μ Q = Ev d 101 18 L (.int (iI 1) :: st) μ Q := e_iconst (by decide +kernel : decode (bOf 101) 17 = .ok (.iconst 1, 1))
theorem x_101_18 : Ev d 101 18 L [b2, b1, b0] μ Q = Call d 79 [b0, b1, b2] μ (fun v μ1 => Ev d 101 21 L (v.toList ++ []) μ1 Q) := e_callS (a := [b0, b1, b2]) (r := []) (by decide +kernel : decode (bOf 101) 18 = .ok (.invokestatic 85, 3)) (by decide +kernel) (by decide +kernel) (by omega) rfl (by simp)
theorem x_101_21 : Ev d 101 21 L (.int x :: st) μ Q = if x = iI 0 then Ev d 101 32 L st μ Q else Ev d 101 24 L st μ Q := e_if_eq (by decide +kernel : decode (bOf 101) 21 = .ok (.ifCond .eq 11, 3)) (by omega)
theorem x_101_24 : Ev d 101 24 (a0 :: .int x :: L) st μ Q = Ev d 101 25 (a0 :: .int x :: L) (.int x :: st) μ Q := e_iload_n (by decide +kernel : decode (bOf 101) 24 = .ok (.iload_n 1, 1)) rfl
theorem x_101_25 : Ev d 101 25 (a0 :: a1 :: .int x :: L) st μ Q = Ev d 101 26 (a0 :: a1 :: .int x :: L) (.int x :: st) μ Q := e_iload_n (by decide +kernel : decode (bOf 101) 25 = .ok (.iload_n 2, 1)) rfl
theorem x_101_26 : Ev d 101 26 L [b1, b0] μ Q = Call d 83 [b0, b1] μ (fun v μ1 => Ev d 101 29 L (v.toList ++ []) μ1 Q) := e_callS (a := [b0, b1]) (r := []) (by decide +kernel : decode (bOf 101) 26 = .ok (.invokestatic 79, 3)) (by decide +kernel) (by decide +kernel) (by omega) rfl (by simp)
theorem x_101_29 : Ev d 101 29 L st μ Q = Ev d 101 33 L st μ Q := e_goto (by decide +kernel : decode (bOf 101) 29 = .ok (.goto 4, 3)) (by omega)
theorem x_101_32 : Ev d 101 32 L st μ Q = Ev d 101 33 L (.int (iI (-1)) :: st) μ Q := e_iconst (by decide +kernel : decode (bOf 101) 32 = .ok (.iconst (-1), 1))
theorem x_101_33 : Ev d 101 33 L [.int x] μ Q = Q (some (.int x)) μ := e_iret (by decide +kernel : decode (bOf 101) 33 = .ok (.ireturn, 1)) (by decide +kernel)
theorem c_102 : Call (d + 1) 102 [.ref r0, .int i1] μ Q = Ev d 102 0 [.ref r0, .int i1] [] μ Q := call_ev rfl rfl
theorem x_102_0 : Ev d 102 0 (.ref r :: L) st μ Q = Ev d 102 1 (.ref r :: L) (.ref r :: st) μ Q := e_aload_n (by decide +kernel : decode (bOf 102) 0 = .ok (.aload_n 0, 1)) rfl
theorem x_102_1 : Ev d 102 1 L st μ Q = Ev d 102 2 L (.int (iI 0) :: st) μ Q := e_iconst (by decide +kernel : decode (bOf 102) 1 = .ok (.iconst 0, 1))
theorem x_102_2 (h : kd t r = 5) : Ev d 102 2 L (.int x :: .ref r :: st) (t, V, A, P) Q = Ev d 102 5 L st (t, up1 V r (up1 (V r) 0 (.int x)), A, P) Q := e_putf (by decide +kernel : decode (bOf 102) 2 = .ok (.putfield 59, 3)) (by decide +kernel) (by decide +kernel) rfl h
theorem x_102_5 : Ev d 102 5 (.ref r :: L) st μ Q = Ev d 102 6 (.ref r :: L) (.ref r :: st) μ Q := e_aload_n (by decide +kernel : decode (bOf 102) 5 = .ok (.aload_n 0, 1)) rfl
theorem x_102_6 : Ev d 102 6 (a0 :: .int x :: L) st μ Q = Ev d 102 7 (a0 :: .int x :: L) (.int x :: st) μ Q := e_iload_n (by decide +kernel : decode (bOf 102) 6 = .ok (.iload_n 1, 1)) rfl
theorem x_102_7 (h : kd t r = 5) : Ev d 102 7 L [b0, .ref r] (t, V, A, P) Q = Call d 97 [.ref r, b0] (t, V, A, P) (fun v μ1 => Ev d 102 10 L (v.toList ++ []) μ1 Q) := e_callV (a := [b0]) (r := []) (by decide +kernel : decode (bOf 102) 7 = .ok (.invokevirtual 133, 3)) (by decide +kernel) (by decide +kernel) (by decide +kernel) (by omega) rfl (by simp) (by decide +kernel) h
theorem x_102_10 : Ev d 102 10 L (.int x :: st) μ Q = if x = iI 0 then Ev d 102 25 L st μ Q else Ev d 102 13 L st μ Q := e_if_eq (by decide +kernel : decode (bOf 102) 10 = .ok (.ifCond .eq 15, 3)) (by omega)
theorem x_102_13 : Ev d 102 13 (.ref r :: L) st μ Q = Ev d 102 14 (.ref r :: L) (.ref r :: st) μ Q := e_aload_n (by decide +kernel : decode (bOf 102) 13 = .ok (.aload_n 0, 1)) rfl
theorem x_102_14 (h : kd t r = 5) : Ev d 102 14 L (.ref r :: st) (t, V, A, P) Q = Ev d 102 17 L (V r 1 :: st) (t, V, A, P) Q := e_getf (by decide +kernel : decode (bOf 102) 14 = .ok (.getfield 7, 3)) (by decide +kernel) (by decide +kernel) h
theorem x_102_17 : Ev d 102 17 L st μ Q = Ev d 102 19 L (.int (iI 36) :: st) μ Q := e_bipush (by decide +kernel : decode (bOf 102) 17 = .ok (.bipush 36, 2)) (by decide +kernel)
theorem x_102_19 : Ev d 102 19 (a0 :: .int x :: L) st μ Q = Ev d 102 20 (a0 :: .int x :: L) (.int x :: st) μ Q := e_iload_n (by decide +kernel : decode (bOf 102) 19 = .ok (.iload_n 1, 1)) rfl
theorem x_102_20 : Ev d 102 20 L (.int y :: .int x :: st) μ Q = Ev d 102 21 L (.int (x + y) :: st) μ Q := e_iadd (by decide +kernel : decode (bOf 102) 20 = .ok (.iadd, 1))
theorem x_102_21 (h : kd t r = 6) (hi : inB x (ln t r) = true) : Ev d 102 21 L (.int x :: .ref r :: st) (t, V, A, P) Q = Ev d 102 22 L (.int (A r x.toNatClampNeg) :: st) (t, V, A, P) Q := e_iald (by decide +kernel : decode (bOf 102) 21 = .ok (.iaload, 1)) h hi
theorem x_102_22 : Ev d 102 22 L st μ Q = Ev d 102 26 L st μ Q := e_goto (by decide +kernel : decode (bOf 102) 22 = .ok (.goto 4, 3)) (by omega)
theorem x_102_25 : Ev d 102 25 L st μ Q = Ev d 102 26 L (.int (iI (-1)) :: st) μ Q := e_iconst (by decide +kernel : decode (bOf 102) 25 = .ok (.iconst (-1), 1))
theorem x_102_26 : Ev d 102 26 L [.int x] μ Q = Q (some (.int x)) μ := e_iret (by decide +kernel : decode (bOf 102) 26 = .ok (.ireturn, 1)) (by decide +kernel)
end Xd
