section Xc
variable {d : Nat} {L st : List Value} {μ : mM} {Q : Option Value → mM → Prop} {t : mL} {V : Nat → Nat → Value} {A : Nat → Nat → Int32} {P : Nat → Nat → Option Nat} {N S : Nat} {K : Nat → Nat × Nat}
variable {a0 a1 a2 a3 a4 a5 a6 a7 a8 a9 a10 a11 a12 b0 b1 b2 b3 s0 s1 s2 s3 : Value} {x y i0 i1 i2 i3 i4 : Int32} {w z : Int64} {r q r0 r1 r2 : Nat}
theorem c_41 : Call (d + 1) 41 [.ref r0] μ Q = Ev d 41 0 [.ref r0, .null] [] μ Q := call_ev rfl rfl
theorem x_41_0 : Ev d 41 0 (.ref r :: L) st μ Q = Ev d 41 1 (.ref r :: L) (.ref r :: st) μ Q := e_aload_n (by decide +kernel : decode (bOf 41) 0 = .ok (.aload_n 0, 1)) rfl
theorem x_41_1 : Ev d 41 1 L [.ref r] μ Q = Ev d 41 4 L [] μ Q := e_obj (by decide +kernel : decode (bOf 41) 1 = .ok (.invokespecial 3, 3)) (by decide +kernel) (by decide +kernel) (by simp)
theorem x_41_4 : Ev d 41 4 (.ref r :: L) st μ Q = Ev d 41 5 (.ref r :: L) (.ref r :: st) μ Q := e_aload_n (by decide +kernel : decode (bOf 41) 4 = .ok (.aload_n 0, 1)) rfl
theorem x_41_5 : Ev d 41 5 L st ((N, S, K), V, A, P) Q = Ev d 41 8 L (.ref N :: st) ((N + 1, S + 7, up1 K N (3, 7)), up1 V N (rw' [.null, .null, .null, .int 0, .int 0, .int 0, .int 0]), A, P) Q := e_new 7 [.null, .null, .null, .int 0, .int 0, .int 0, .int 0] (by decide +kernel : decode (bOf 41) 5 = .ok (.new 9, 3)) (by decide +kernel) (by decide +kernel) (by decide +kernel) (by decide +kernel)
theorem x_41_8 : Ev d 41 8 L (.ref r :: st) μ Q = Ev d 41 9 L (.ref r :: .ref r :: st) μ Q := e_dup_a (by decide +kernel : decode (bOf 41) 8 = .ok (.dup, 1))
theorem x_41_9 : Ev d 41 9 L [.ref r, s0, s1] μ Q = Call d 27 [.ref r] μ (fun v μ1 => Ev d 41 12 L (v.toList ++ [s0, s1]) μ1 Q) := e_callI (a := []) (r := [s0, s1]) (by decide +kernel : decode (bOf 41) 9 = .ok (.invokespecial 11, 3)) (by decide +kernel) (by decide +kernel) (by decide +kernel) (by decide +kernel) (by omega) rfl (by simp)
theorem x_41_12 (h : kd t r = 4) : Ev d 41 12 L (.ref q :: .ref r :: st) (t, V, A, P) Q = Ev d 41 15 L st (t, up1 V r (up1 (V r) 0 (.ref q)), A, P) Q := e_putf (by decide +kernel : decode (bOf 41) 12 = .ok (.putfield 12, 3)) (by decide +kernel) (by decide +kernel) rfl h
theorem x_41_15 : Ev d 41 15 (.ref r :: L) st μ Q = Ev d 41 16 (.ref r :: L) (.ref r :: st) μ Q := e_aload_n (by decide +kernel : decode (bOf 41) 15 = .ok (.aload_n 0, 1)) rfl
theorem x_41_16 : Ev d 41 16 L st μ Q = Ev d 41 18 L (.int (iI 6) :: st) μ Q := e_bipush (by decide +kernel : decode (bOf 41) 16 = .ok (.bipush 6, 2)) (by decide +kernel)
theorem x_41_18 : Ev d 41 18 L (.int (iI 6) :: st) ((N, S, K), V, A, P) Q = Ev d 41 21 L (.ref N :: st) ((N + 1, S + 6, up1 K N (9, 6)), V, A, up1 P N (fun _ => none)) Q := e_newq 6 (by decide +kernel : decode (bOf 41) 18 = .ok (.anewarray 9, 3)) (by decide +kernel) (by decide +kernel) (by decide +kernel)
theorem x_41_21 (h : kd t r = 4) : Ev d 41 21 L (.ref q :: .ref r :: st) (t, V, A, P) Q = Ev d 41 24 L st (t, up1 V r (up1 (V r) 1 (.ref q)), A, P) Q := e_putf (by decide +kernel : decode (bOf 41) 21 = .ok (.putfield 16, 3)) (by decide +kernel) (by decide +kernel) rfl h
theorem x_41_24 : Ev d 41 24 (.ref r :: L) st μ Q = Ev d 41 25 (.ref r :: L) (.ref r :: st) μ Q := e_aload_n (by decide +kernel : decode (bOf 41) 24 = .ok (.aload_n 0, 1)) rfl
theorem x_41_25 : Ev d 41 25 L st μ Q = Ev d 41 26 L (.int (iI 2) :: st) μ Q := e_iconst (by decide +kernel : decode (bOf 41) 25 = .ok (.iconst 2, 1))
theorem x_41_26 : Ev d 41 26 L (.int (iI 2) :: st) ((N, S, K), V, A, P) Q = Ev d 41 29 L (.ref N :: st) ((N + 1, S + 2, up1 K N (9, 2)), V, A, up1 P N (fun _ => none)) Q := e_newq 2 (by decide +kernel : decode (bOf 41) 26 = .ok (.anewarray 9, 3)) (by decide +kernel) (by decide +kernel) (by decide +kernel)
theorem x_41_29 (h : kd t r = 4) : Ev d 41 29 L (.ref q :: .ref r :: st) (t, V, A, P) Q = Ev d 41 32 L st (t, up1 V r (up1 (V r) 2 (.ref q)), A, P) Q := e_putf (by decide +kernel : decode (bOf 41) 29 = .ok (.putfield 20, 3)) (by decide +kernel) (by decide +kernel) rfl h
theorem x_41_32 : Ev d 41 32 (.ref r :: L) st μ Q = Ev d 41 33 (.ref r :: L) (.ref r :: st) μ Q := e_aload_n (by decide +kernel : decode (bOf 41) 32 = .ok (.aload_n 0, 1)) rfl
theorem x_41_33 : Ev d 41 33 L st μ Q = Ev d 41 34 L (.int (iI 2) :: st) μ Q := e_iconst (by decide +kernel : decode (bOf 41) 33 = .ok (.iconst 2, 1))
theorem x_41_34 : Ev d 41 34 L (.int (iI 2) :: st) ((N, S, K), V, A, P) Q = Ev d 41 36 L (.ref N :: st) ((N + 1, S + 2, up1 K N (7, 2)), V, up1 A N (fun _ => 0), P) Q := e_newz 2 (by decide +kernel : decode (bOf 41) 34 = .ok (.newarray .boolean, 2)) (by decide +kernel) (by decide +kernel)
theorem x_41_36 (h : kd t r = 4) : Ev d 41 36 L (.ref q :: .ref r :: st) (t, V, A, P) Q = Ev d 41 39 L st (t, up1 V r (up1 (V r) 3 (.ref q)), A, P) Q := e_putf (by decide +kernel : decode (bOf 41) 36 = .ok (.putfield 23, 3)) (by decide +kernel) (by decide +kernel) rfl h
theorem x_41_39 : Ev d 41 39 (.ref r :: L) st μ Q = Ev d 41 40 (.ref r :: L) (.ref r :: st) μ Q := e_aload_n (by decide +kernel : decode (bOf 41) 39 = .ok (.aload_n 0, 1)) rfl
theorem x_41_40 : Ev d 41 40 L st μ Q = Ev d 41 42 L (.int (iI 120) :: st) μ Q := e_bipush (by decide +kernel : decode (bOf 41) 40 = .ok (.bipush 120, 2)) (by decide +kernel)
theorem x_41_42 : Ev d 41 42 L (.int (iI 120) :: st) ((N, S, K), V, A, P) Q = Ev d 41 44 L (.ref N :: st) ((N + 1, S + 120, up1 K N (6, 120)), V, up1 A N (fun _ => 0), P) Q := e_newi 120 (by decide +kernel : decode (bOf 41) 42 = .ok (.newarray .int, 2)) (by decide +kernel) (by decide +kernel)
theorem x_41_44 (h : kd t r = 4) : Ev d 41 44 L (.ref q :: .ref r :: st) (t, V, A, P) Q = Ev d 41 47 L st (t, up1 V r (up1 (V r) 4 (.ref q)), A, P) Q := e_putf (by decide +kernel : decode (bOf 41) 44 = .ok (.putfield 27, 3)) (by decide +kernel) (by decide +kernel) rfl h
theorem x_41_47 : Ev d 41 47 (.ref r :: L) st μ Q = Ev d 41 48 (.ref r :: L) (.ref r :: st) μ Q := e_aload_n (by decide +kernel : decode (bOf 41) 47 = .ok (.aload_n 0, 1)) rfl
theorem x_41_48 : Ev d 41 48 L st μ Q = Ev d 41 50 L (.int (iI 40) :: st) μ Q := e_bipush (by decide +kernel : decode (bOf 41) 48 = .ok (.bipush 40, 2)) (by decide +kernel)
theorem x_41_50 : Ev d 41 50 L (.int (iI 40) :: st) ((N, S, K), V, A, P) Q = Ev d 41 52 L (.ref N :: st) ((N + 1, S + 40, up1 K N (6, 40)), V, up1 A N (fun _ => 0), P) Q := e_newi 40 (by decide +kernel : decode (bOf 41) 50 = .ok (.newarray .int, 2)) (by decide +kernel) (by decide +kernel)
theorem x_41_52 (h : kd t r = 4) : Ev d 41 52 L (.ref q :: .ref r :: st) (t, V, A, P) Q = Ev d 41 55 L st (t, up1 V r (up1 (V r) 5 (.ref q)), A, P) Q := e_putf (by decide +kernel : decode (bOf 41) 52 = .ok (.putfield 31, 3)) (by decide +kernel) (by decide +kernel) rfl h
theorem x_41_55 : Ev d 41 55 (.ref r :: L) st μ Q = Ev d 41 56 (.ref r :: L) (.ref r :: st) μ Q := e_aload_n (by decide +kernel : decode (bOf 41) 55 = .ok (.aload_n 0, 1)) rfl
theorem x_41_56 : Ev d 41 56 L st ((N, S, K), V, A, P) Q = Ev d 41 59 L (.ref N :: st) ((N + 1, S + 10, up1 K N (1, 10)), up1 V N (rw' [.null, .null, .null, .int 0, .int 0, .int 0, .int 0, .int 0, .int 0, .int 0]), A, P) Q := e_new 10 [.null, .null, .null, .int 0, .int 0, .int 0, .int 0, .int 0, .int 0, .int 0] (by decide +kernel : decode (bOf 41) 56 = .ok (.new 34, 3)) (by decide +kernel) (by decide +kernel) (by decide +kernel) (by decide +kernel)
theorem x_41_59 : Ev d 41 59 L (.ref r :: st) μ Q = Ev d 41 60 L (.ref r :: .ref r :: st) μ Q := e_dup_a (by decide +kernel : decode (bOf 41) 59 = .ok (.dup, 1))
theorem x_41_60 : Ev d 41 60 L [.ref r, s0, s1] μ Q = Call d 11 [.ref r] μ (fun v μ1 => Ev d 41 63 L (v.toList ++ [s0, s1]) μ1 Q) := e_callI (a := []) (r := [s0, s1]) (by decide +kernel : decode (bOf 41) 60 = .ok (.invokespecial 36, 3)) (by decide +kernel) (by decide +kernel) (by decide +kernel) (by decide +kernel) (by omega) rfl (by simp)
theorem x_41_63 (h : kd t r = 4) : Ev d 41 63 L (.ref q :: .ref r :: st) (t, V, A, P) Q = Ev d 41 66 L st (t, up1 V r (up1 (V r) 6 (.ref q)), A, P) Q := e_putf (by decide +kernel : decode (bOf 41) 63 = .ok (.putfield 37, 3)) (by decide +kernel) (by decide +kernel) rfl h
theorem x_41_66 : Ev d 41 66 (.ref r :: L) st μ Q = Ev d 41 67 (.ref r :: L) (.ref r :: st) μ Q := e_aload_n (by decide +kernel : decode (bOf 41) 66 = .ok (.aload_n 0, 1)) rfl
theorem x_41_67 : Ev d 41 67 L st ((N, S, K), V, A, P) Q = Ev d 41 70 L (.ref N :: st) ((N + 1, S + 6, up1 K N (0, 6)), up1 V N (rw' [.null, .null, .null, .null, .int 0, .int 0]), A, P) Q := e_new 6 [.null, .null, .null, .null, .int 0, .int 0] (by decide +kernel : decode (bOf 41) 67 = .ok (.new 41, 3)) (by decide +kernel) (by decide +kernel) (by decide +kernel) (by decide +kernel)
theorem x_41_70 : Ev d 41 70 L (.ref r :: st) μ Q = Ev d 41 71 L (.ref r :: .ref r :: st) μ Q := e_dup_a (by decide +kernel : decode (bOf 41) 70 = .ok (.dup, 1))
theorem x_41_71 : Ev d 41 71 L [.ref r, s0, s1] μ Q = Call d 5 [.ref r] μ (fun v μ1 => Ev d 41 74 L (v.toList ++ [s0, s1]) μ1 Q) := e_callI (a := []) (r := [s0, s1]) (by decide +kernel : decode (bOf 41) 71 = .ok (.invokespecial 43, 3)) (by decide +kernel) (by decide +kernel) (by decide +kernel) (by decide +kernel) (by omega) rfl (by simp)
theorem x_41_74 (h : kd t r = 4) : Ev d 41 74 L (.ref q :: .ref r :: st) (t, V, A, P) Q = Ev d 41 77 L st (t, up1 V r (up1 (V r) 7 (.ref q)), A, P) Q := e_putf (by decide +kernel : decode (bOf 41) 74 = .ok (.putfield 44, 3)) (by decide +kernel) (by decide +kernel) rfl h
theorem x_41_77 : Ev d 41 77 (.ref r :: L) st μ Q = Ev d 41 78 (.ref r :: L) (.ref r :: st) μ Q := e_aload_n (by decide +kernel : decode (bOf 41) 77 = .ok (.aload_n 0, 1)) rfl
theorem x_41_78 : Ev d 41 78 L st ((N, S, K), V, A, P) Q = Ev d 41 81 L (.ref N :: st) ((N + 1, S + 5, up1 K N (2, 5)), up1 V N (rw' [.int 0, .int 0, .int 0, .int 0, .int 0]), A, P) Q := e_new 5 [.int 0, .int 0, .int 0, .int 0, .int 0] (by decide +kernel : decode (bOf 41) 78 = .ok (.new 48, 3)) (by decide +kernel) (by decide +kernel) (by decide +kernel) (by decide +kernel)
theorem x_41_81 : Ev d 41 81 L (.ref r :: st) μ Q = Ev d 41 82 L (.ref r :: .ref r :: st) μ Q := e_dup_a (by decide +kernel : decode (bOf 41) 81 = .ok (.dup, 1))
theorem x_41_82 : Ev d 41 82 L [.ref r, s0, s1] μ Q = Call d 21 [.ref r] μ (fun v μ1 => Ev d 41 85 L (v.toList ++ [s0, s1]) μ1 Q) := e_callI (a := []) (r := [s0, s1]) (by decide +kernel : decode (bOf 41) 82 = .ok (.invokespecial 50, 3)) (by decide +kernel) (by decide +kernel) (by decide +kernel) (by decide +kernel) (by omega) rfl (by simp)
theorem x_41_85 (h : kd t r = 4) : Ev d 41 85 L (.ref q :: .ref r :: st) (t, V, A, P) Q = Ev d 41 88 L st (t, up1 V r (up1 (V r) 8 (.ref q)), A, P) Q := e_putf (by decide +kernel : decode (bOf 41) 85 = .ok (.putfield 51, 3)) (by decide +kernel) (by decide +kernel) rfl h
theorem x_41_88 : Ev d 41 88 L st μ Q = Ev d 41 89 L (.int (iI 0) :: st) μ Q := e_iconst (by decide +kernel : decode (bOf 41) 88 = .ok (.iconst 0, 1))
theorem x_41_89 (h : a0.category = 1) : Ev d 41 89 (a0 :: a1 :: L) (.int x :: st) μ Q = Ev d 41 90 (a0 :: .int x :: L) st μ Q := e_istore_n (by decide +kernel : decode (bOf 41) 89 = .ok (.istore_n 1, 1)) (by show stOK _ 1 = true; simp [stOK, h])
theorem x_41_90 : Ev d 41 90 (a0 :: .int x :: L) st μ Q = Ev d 41 91 (a0 :: .int x :: L) (.int x :: st) μ Q := e_iload_n (by decide +kernel : decode (bOf 41) 90 = .ok (.iload_n 1, 1)) rfl
theorem x_41_91 : Ev d 41 91 L st μ Q = Ev d 41 93 L (.int (iI 6) :: st) μ Q := e_bipush (by decide +kernel : decode (bOf 41) 91 = .ok (.bipush 6, 2)) (by decide +kernel)
theorem x_41_93 : Ev d 41 93 L (.int y :: .int x :: st) μ Q = if x < y then Ev d 41 96 L st μ Q else Ev d 41 115 L st μ Q := e_icmp_ge (by decide +kernel : decode (bOf 41) 93 = .ok (.if_icmp .ge 22, 3)) (by omega)
theorem x_41_96 : Ev d 41 96 (.ref r :: L) st μ Q = Ev d 41 97 (.ref r :: L) (.ref r :: st) μ Q := e_aload_n (by decide +kernel : decode (bOf 41) 96 = .ok (.aload_n 0, 1)) rfl
theorem x_41_97 (h : kd t r = 4) : Ev d 41 97 L (.ref r :: st) (t, V, A, P) Q = Ev d 41 100 L (V r 1 :: st) (t, V, A, P) Q := e_getf (by decide +kernel : decode (bOf 41) 97 = .ok (.getfield 16, 3)) (by decide +kernel) (by decide +kernel) h
theorem x_41_100 : Ev d 41 100 (a0 :: .int x :: L) st μ Q = Ev d 41 101 (a0 :: .int x :: L) (.int x :: st) μ Q := e_iload_n (by decide +kernel : decode (bOf 41) 100 = .ok (.iload_n 1, 1)) rfl
theorem x_41_101 : Ev d 41 101 L st ((N, S, K), V, A, P) Q = Ev d 41 104 L (.ref N :: st) ((N + 1, S + 7, up1 K N (3, 7)), up1 V N (rw' [.null, .null, .null, .int 0, .int 0, .int 0, .int 0]), A, P) Q := e_new 7 [.null, .null, .null, .int 0, .int 0, .int 0, .int 0] (by decide +kernel : decode (bOf 41) 101 = .ok (.new 9, 3)) (by decide +kernel) (by decide +kernel) (by decide +kernel) (by decide +kernel)
theorem x_41_104 : Ev d 41 104 L (.ref r :: st) μ Q = Ev d 41 105 L (.ref r :: .ref r :: st) μ Q := e_dup_a (by decide +kernel : decode (bOf 41) 104 = .ok (.dup, 1))
theorem x_41_105 : Ev d 41 105 L [.ref r, s0, s1, s2] μ Q = Call d 27 [.ref r] μ (fun v μ1 => Ev d 41 108 L (v.toList ++ [s0, s1, s2]) μ1 Q) := e_callI (a := []) (r := [s0, s1, s2]) (by decide +kernel : decode (bOf 41) 105 = .ok (.invokespecial 11, 3)) (by decide +kernel) (by decide +kernel) (by decide +kernel) (by decide +kernel) (by omega) rfl (by simp)
theorem x_41_108 (h : kd t r = 9) (hv : kd t q = 3) (hi : inB x (ln t r) = true) : Ev d 41 108 L (.ref q :: .int x :: .ref r :: st) (t, V, A, P) Q = Ev d 41 109 L st (t, V, A, up1 P r (up1 (P r) x.toNatClampNeg (some q))) Q := e_aast9 (by decide +kernel : decode (bOf 41) 108 = .ok (.aastore, 1)) h hv hi
theorem x_41_109 (h : a0.category = 1) : Ev d 41 109 (a0 :: .int x :: L) st μ Q = Ev d 41 112 (a0 :: .int (x + (iI 1)) :: L) st μ Q := e_iinc (by decide +kernel : decode (bOf 41) 109 = .ok (.iinc 1 1, 3)) rfl (by simp [stOK, h])
theorem x_41_112 : Ev d 41 112 L st μ Q = Ev d 41 90 L st μ Q := e_goto (by decide +kernel : decode (bOf 41) 112 = .ok (.goto (-22), 3)) (by omega)
theorem x_41_115 : Ev d 41 115 L st μ Q = Ev d 41 116 L (.int (iI 0) :: st) μ Q := e_iconst (by decide +kernel : decode (bOf 41) 115 = .ok (.iconst 0, 1))
theorem x_41_116 (h : a0.category = 1) : Ev d 41 116 (a0 :: a1 :: L) (.int x :: st) μ Q = Ev d 41 117 (a0 :: .int x :: L) st μ Q := e_istore_n (by decide +kernel : decode (bOf 41) 116 = .ok (.istore_n 1, 1)) (by show stOK _ 1 = true; simp [stOK, h])
theorem x_41_117 : Ev d 41 117 (a0 :: .int x :: L) st μ Q = Ev d 41 118 (a0 :: .int x :: L) (.int x :: st) μ Q := e_iload_n (by decide +kernel : decode (bOf 41) 117 = .ok (.iload_n 1, 1)) rfl
theorem x_41_118 : Ev d 41 118 L st μ Q = Ev d 41 119 L (.int (iI 2) :: st) μ Q := e_iconst (by decide +kernel : decode (bOf 41) 118 = .ok (.iconst 2, 1))
theorem x_41_119 : Ev d 41 119 L (.int y :: .int x :: st) μ Q = if x < y then Ev d 41 122 L st μ Q else Ev d 41 141 L st μ Q := e_icmp_ge (by decide +kernel : decode (bOf 41) 119 = .ok (.if_icmp .ge 22, 3)) (by omega)
theorem x_41_122 : Ev d 41 122 (.ref r :: L) st μ Q = Ev d 41 123 (.ref r :: L) (.ref r :: st) μ Q := e_aload_n (by decide +kernel : decode (bOf 41) 122 = .ok (.aload_n 0, 1)) rfl
theorem x_41_123 (h : kd t r = 4) : Ev d 41 123 L (.ref r :: st) (t, V, A, P) Q = Ev d 41 126 L (V r 2 :: st) (t, V, A, P) Q := e_getf (by decide +kernel : decode (bOf 41) 123 = .ok (.getfield 20, 3)) (by decide +kernel) (by decide +kernel) h
theorem x_41_126 : Ev d 41 126 (a0 :: .int x :: L) st μ Q = Ev d 41 127 (a0 :: .int x :: L) (.int x :: st) μ Q := e_iload_n (by decide +kernel : decode (bOf 41) 126 = .ok (.iload_n 1, 1)) rfl
theorem x_41_127 : Ev d 41 127 L st ((N, S, K), V, A, P) Q = Ev d 41 130 L (.ref N :: st) ((N + 1, S + 7, up1 K N (3, 7)), up1 V N (rw' [.null, .null, .null, .int 0, .int 0, .int 0, .int 0]), A, P) Q := e_new 7 [.null, .null, .null, .int 0, .int 0, .int 0, .int 0] (by decide +kernel : decode (bOf 41) 127 = .ok (.new 9, 3)) (by decide +kernel) (by decide +kernel) (by decide +kernel) (by decide +kernel)
theorem x_41_130 : Ev d 41 130 L (.ref r :: st) μ Q = Ev d 41 131 L (.ref r :: .ref r :: st) μ Q := e_dup_a (by decide +kernel : decode (bOf 41) 130 = .ok (.dup, 1))
theorem x_41_131 : Ev d 41 131 L [.ref r, s0, s1, s2] μ Q = Call d 27 [.ref r] μ (fun v μ1 => Ev d 41 134 L (v.toList ++ [s0, s1, s2]) μ1 Q) := e_callI (a := []) (r := [s0, s1, s2]) (by decide +kernel : decode (bOf 41) 131 = .ok (.invokespecial 11, 3)) (by decide +kernel) (by decide +kernel) (by decide +kernel) (by decide +kernel) (by omega) rfl (by simp)
theorem x_41_134 (h : kd t r = 9) (hv : kd t q = 3) (hi : inB x (ln t r) = true) : Ev d 41 134 L (.ref q :: .int x :: .ref r :: st) (t, V, A, P) Q = Ev d 41 135 L st (t, V, A, up1 P r (up1 (P r) x.toNatClampNeg (some q))) Q := e_aast9 (by decide +kernel : decode (bOf 41) 134 = .ok (.aastore, 1)) h hv hi
theorem x_41_135 (h : a0.category = 1) : Ev d 41 135 (a0 :: .int x :: L) st μ Q = Ev d 41 138 (a0 :: .int (x + (iI 1)) :: L) st μ Q := e_iinc (by decide +kernel : decode (bOf 41) 135 = .ok (.iinc 1 1, 3)) rfl (by simp [stOK, h])
theorem x_41_138 : Ev d 41 138 L st μ Q = Ev d 41 117 L st μ Q := e_goto (by decide +kernel : decode (bOf 41) 138 = .ok (.goto (-21), 3)) (by omega)
theorem x_41_141 : Ev d 41 141 L [] μ Q = Q none μ := e_ret (by decide +kernel : decode (bOf 41) 141 = .ok (.return_, 1)) (by decide +kernel)
theorem c_42 : Call (d + 1) 42 [.ref r0, .int i1] μ Q = Ev d 42 0 [.ref r0, .int i1] [] μ Q := call_ev rfl rfl
theorem x_42_0 : Ev d 42 0 (a0 :: .int x :: L) st μ Q = Ev d 42 1 (a0 :: .int x :: L) (.int x :: st) μ Q := e_iload_n (by decide +kernel : decode (bOf 42) 0 = .ok (.iload_n 1, 1)) rfl
theorem x_42_1 : Ev d 42 1 L (.int x :: st) μ Q = if x < iI 0 then Ev d 42 11 L st μ Q else Ev d 42 4 L st μ Q := e_if_lt (by decide +kernel : decode (bOf 42) 1 = .ok (.ifCond .lt 10, 3)) (by omega)
theorem x_42_4 : Ev d 42 4 (a0 :: .int x :: L) st μ Q = Ev d 42 5 (a0 :: .int x :: L) (.int x :: st) μ Q := e_iload_n (by decide +kernel : decode (bOf 42) 4 = .ok (.iload_n 1, 1)) rfl
theorem x_42_5 : Ev d 42 5 L st μ Q = Ev d 42 8 L (.int (iI 255) :: st) μ Q := e_sipush (by decide +kernel : decode (bOf 42) 5 = .ok (.sipush 255, 3)) (by decide +kernel)
theorem x_42_8 : Ev d 42 8 L (.int y :: .int x :: st) μ Q = if y < x then Ev d 42 11 L st μ Q else Ev d 42 13 L st μ Q := e_icmp_le (by decide +kernel : decode (bOf 42) 8 = .ok (.if_icmp .le 5, 3)) (by omega)
theorem x_42_11 : Ev d 42 11 L st μ Q = Ev d 42 12 L (.int (iI (-1)) :: st) μ Q := e_iconst (by decide +kernel : decode (bOf 42) 11 = .ok (.iconst (-1), 1))
theorem x_42_12 : Ev d 42 12 L [.int x] μ Q = Q (some (.int x)) μ := e_iret (by decide +kernel : decode (bOf 42) 12 = .ok (.ireturn, 1)) (by decide +kernel)
theorem x_42_13 : Ev d 42 13 (.ref r :: L) st μ Q = Ev d 42 14 (.ref r :: L) (.ref r :: st) μ Q := e_aload_n (by decide +kernel : decode (bOf 42) 13 = .ok (.aload_n 0, 1)) rfl
theorem x_42_14 (h : kd t r = 4) : Ev d 42 14 L (.ref r :: st) (t, V, A, P) Q = Ev d 42 17 L (V r 9 :: st) (t, V, A, P) Q := e_getf (by decide +kernel : decode (bOf 42) 14 = .ok (.getfield 55, 3)) (by decide +kernel) (by decide +kernel) h
theorem x_42_17 : Ev d 42 17 L (.int x :: st) μ Q = if x < iI 0 then Ev d 42 29 L st μ Q else Ev d 42 20 L st μ Q := e_if_lt (by decide +kernel : decode (bOf 42) 17 = .ok (.ifCond .lt 12, 3)) (by omega)
theorem x_42_20 : Ev d 42 20 (.ref r :: L) st μ Q = Ev d 42 21 (.ref r :: L) (.ref r :: st) μ Q := e_aload_n (by decide +kernel : decode (bOf 42) 20 = .ok (.aload_n 0, 1)) rfl
theorem x_42_21 (h : kd t r = 4) : Ev d 42 21 L (.ref r :: st) (t, V, A, P) Q = Ev d 42 24 L (V r 9 :: st) (t, V, A, P) Q := e_getf (by decide +kernel : decode (bOf 42) 21 = .ok (.getfield 55, 3)) (by decide +kernel) (by decide +kernel) h
theorem x_42_24 : Ev d 42 24 L st μ Q = Ev d 42 26 L (.int (iI 120) :: st) μ Q := e_bipush (by decide +kernel : decode (bOf 42) 24 = .ok (.bipush 120, 2)) (by decide +kernel)
theorem x_42_26 : Ev d 42 26 L (.int y :: .int x :: st) μ Q = if x < y then Ev d 42 32 L st μ Q else Ev d 42 29 L st μ Q := e_icmp_lt (by decide +kernel : decode (bOf 42) 26 = .ok (.if_icmp .lt 6, 3)) (by omega)
theorem x_42_29 : Ev d 42 29 L st μ Q = Ev d 42 31 L (.int (iI (-3)) :: st) μ Q := e_bipush (by decide +kernel : decode (bOf 42) 29 = .ok (.bipush (-3), 2)) (by decide +kernel)
theorem x_42_31 : Ev d 42 31 L [.int x] μ Q = Q (some (.int x)) μ := e_iret (by decide +kernel : decode (bOf 42) 31 = .ok (.ireturn, 1)) (by decide +kernel)
theorem x_42_32 : Ev d 42 32 (.ref r :: L) st μ Q = Ev d 42 33 (.ref r :: L) (.ref r :: st) μ Q := e_aload_n (by decide +kernel : decode (bOf 42) 32 = .ok (.aload_n 0, 1)) rfl
theorem x_42_33 (h : kd t r = 4) : Ev d 42 33 L (.ref r :: st) (t, V, A, P) Q = Ev d 42 36 L (V r 4 :: st) (t, V, A, P) Q := e_getf (by decide +kernel : decode (bOf 42) 33 = .ok (.getfield 27, 3)) (by decide +kernel) (by decide +kernel) h
theorem x_42_36 : Ev d 42 36 (.ref r :: L) st μ Q = Ev d 42 37 (.ref r :: L) (.ref r :: st) μ Q := e_aload_n (by decide +kernel : decode (bOf 42) 36 = .ok (.aload_n 0, 1)) rfl
theorem x_42_37 (h : kd t r = 4) : Ev d 42 37 L (.ref r :: st) (t, V, A, P) Q = Ev d 42 40 L (V r 9 :: st) (t, V, A, P) Q := e_getf (by decide +kernel : decode (bOf 42) 37 = .ok (.getfield 55, 3)) (by decide +kernel) (by decide +kernel) h
theorem x_42_40 : Ev d 42 40 (a0 :: .int x :: L) st μ Q = Ev d 42 41 (a0 :: .int x :: L) (.int x :: st) μ Q := e_iload_n (by decide +kernel : decode (bOf 42) 40 = .ok (.iload_n 1, 1)) rfl
theorem x_42_41 (h : kd t r = 6) (hi : inB x (ln t r) = true) : Ev d 42 41 L (.int y :: .int x :: .ref r :: st) (t, V, A, P) Q = Ev d 42 42 L st (t, V, up1 A r (upd (A r) x.toNatClampNeg y), P) Q := e_iast (by decide +kernel : decode (bOf 42) 41 = .ok (.iastore, 1)) h hi
theorem x_42_42 : Ev d 42 42 (.ref r :: L) st μ Q = Ev d 42 43 (.ref r :: L) (.ref r :: st) μ Q := e_aload_n (by decide +kernel : decode (bOf 42) 42 = .ok (.aload_n 0, 1)) rfl
theorem x_42_43 : Ev d 42 43 L (.ref r :: st) μ Q = Ev d 42 44 L (.ref r :: .ref r :: st) μ Q := e_dup_a (by decide +kernel : decode (bOf 42) 43 = .ok (.dup, 1))
theorem x_42_44 (h : kd t r = 4) : Ev d 42 44 L (.ref r :: st) (t, V, A, P) Q = Ev d 42 47 L (V r 9 :: st) (t, V, A, P) Q := e_getf (by decide +kernel : decode (bOf 42) 44 = .ok (.getfield 55, 3)) (by decide +kernel) (by decide +kernel) h
theorem x_42_47 : Ev d 42 47 L st μ Q = Ev d 42 48 L (.int (iI 1) :: st) μ Q := e_iconst (by decide +kernel : decode (bOf 42) 47 = .ok (.iconst 1, 1))
theorem x_42_48 : Ev d 42 48 L (.int y :: .int x :: st) μ Q = Ev d 42 49 L (.int (x + y) :: st) μ Q := e_iadd (by decide +kernel : decode (bOf 42) 48 = .ok (.iadd, 1))
theorem x_42_49 (h : kd t r = 4) : Ev d 42 49 L (.int x :: .ref r :: st) (t, V, A, P) Q = Ev d 42 52 L st (t, up1 V r (up1 (V r) 9 (.int x)), A, P) Q := e_putf (by decide +kernel : decode (bOf 42) 49 = .ok (.putfield 55, 3)) (by decide +kernel) (by decide +kernel) rfl h
theorem x_42_52 : Ev d 42 52 (.ref r :: L) st μ Q = Ev d 42 53 (.ref r :: L) (.ref r :: st) μ Q := e_aload_n (by decide +kernel : decode (bOf 42) 52 = .ok (.aload_n 0, 1)) rfl
theorem x_42_53 (h : kd t r = 4) : Ev d 42 53 L (.ref r :: st) (t, V, A, P) Q = Ev d 42 56 L (V r 9 :: st) (t, V, A, P) Q := e_getf (by decide +kernel : decode (bOf 42) 53 = .ok (.getfield 55, 3)) (by decide +kernel) (by decide +kernel) h
theorem x_42_56 : Ev d 42 56 L [.int x] μ Q = Q (some (.int x)) μ := e_iret (by decide +kernel : decode (bOf 42) 56 = .ok (.ireturn, 1)) (by decide +kernel)
theorem c_43 : Call (d + 1) 43 [.ref r0] μ Q = Ev d 43 0 [.ref r0, .null] [] μ Q := call_ev rfl rfl
theorem x_43_0 : Ev d 43 0 (.ref r :: L) st μ Q = Ev d 43 1 (.ref r :: L) (.ref r :: st) μ Q := e_aload_n (by decide +kernel : decode (bOf 43) 0 = .ok (.aload_n 0, 1)) rfl
theorem x_43_1 (h : kd t r = 4) : Ev d 43 1 L (.ref r :: st) (t, V, A, P) Q = Ev d 43 4 L (V r 9 :: st) (t, V, A, P) Q := e_getf (by decide +kernel : decode (bOf 43) 1 = .ok (.getfield 55, 3)) (by decide +kernel) (by decide +kernel) h
theorem x_43_4 (h : a0.category = 1) : Ev d 43 4 (a0 :: a1 :: L) (.int x :: st) μ Q = Ev d 43 5 (a0 :: .int x :: L) st μ Q := e_istore_n (by decide +kernel : decode (bOf 43) 4 = .ok (.istore_n 1, 1)) (by show stOK _ 1 = true; simp [stOK, h])
theorem x_43_5 : Ev d 43 5 (.ref r :: L) st μ Q = Ev d 43 6 (.ref r :: L) (.ref r :: st) μ Q := e_aload_n (by decide +kernel : decode (bOf 43) 5 = .ok (.aload_n 0, 1)) rfl
theorem x_43_6 : Ev d 43 6 L st μ Q = Ev d 43 7 L (.int (iI 0) :: st) μ Q := e_iconst (by decide +kernel : decode (bOf 43) 6 = .ok (.iconst 0, 1))
theorem x_43_7 (h : kd t r = 4) : Ev d 43 7 L (.int x :: .ref r :: st) (t, V, A, P) Q = Ev d 43 10 L st (t, up1 V r (up1 (V r) 9 (.int x)), A, P) Q := e_putf (by decide +kernel : decode (bOf 43) 7 = .ok (.putfield 55, 3)) (by decide +kernel) (by decide +kernel) rfl h
theorem x_43_10 : Ev d 43 10 (a0 :: .int x :: L) st μ Q = Ev d 43 11 (a0 :: .int x :: L) (.int x :: st) μ Q := e_iload_n (by decide +kernel : decode (bOf 43) 10 = .ok (.iload_n 1, 1)) rfl
theorem x_43_11 : Ev d 43 11 L [.int x] μ Q = Q (some (.int x)) μ := e_iret (by decide +kernel : decode (bOf 43) 11 = .ok (.ireturn, 1)) (by decide +kernel)
theorem c_44 : Call (d + 1) 44 [.ref r0] μ Q = Ev d 44 0 [.ref r0, .null, .null] [] μ Q := call_ev rfl rfl
theorem x_44_0 : Ev d 44 0 (.ref r :: L) st μ Q = Ev d 44 1 (.ref r :: L) (.ref r :: st) μ Q := e_aload_n (by decide +kernel : decode (bOf 44) 0 = .ok (.aload_n 0, 1)) rfl
theorem x_44_1 (h : kd t r = 4) : Ev d 44 1 L [.ref r] (t, V, A, P) Q = Call d 67 [.ref r] (t, V, A, P) (fun v μ1 => Ev d 44 4 L (v.toList ++ []) μ1 Q) := e_callV (a := []) (r := []) (by decide +kernel : decode (bOf 44) 1 = .ok (.invokevirtual 59, 3)) (by decide +kernel) (by decide +kernel) (by decide +kernel) (by omega) rfl (by simp) (by decide +kernel) h
theorem x_44_4 (h : a0.category = 1) : Ev d 44 4 (a0 :: a1 :: L) (.int x :: st) μ Q = Ev d 44 5 (a0 :: .int x :: L) st μ Q := e_istore_n (by decide +kernel : decode (bOf 44) 4 = .ok (.istore_n 1, 1)) (by show stOK _ 1 = true; simp [stOK, h])
theorem x_44_5 : Ev d 44 5 (a0 :: .int x :: L) st μ Q = Ev d 44 6 (a0 :: .int x :: L) (.int x :: st) μ Q := e_iload_n (by decide +kernel : decode (bOf 44) 5 = .ok (.iload_n 1, 1)) rfl
theorem x_44_6 : Ev d 44 6 L (.int x :: st) μ Q = if x < iI 0 then Ev d 44 14 L st μ Q else Ev d 44 9 L st μ Q := e_if_lt (by decide +kernel : decode (bOf 44) 6 = .ok (.ifCond .lt 8, 3)) (by omega)
theorem x_44_9 : Ev d 44 9 L st μ Q = Ev d 44 11 L (.int (iI (-10)) :: st) μ Q := e_bipush (by decide +kernel : decode (bOf 44) 9 = .ok (.bipush (-10), 2)) (by decide +kernel)
theorem x_44_11 : Ev d 44 11 (a0 :: .int x :: L) st μ Q = Ev d 44 12 (a0 :: .int x :: L) (.int x :: st) μ Q := e_iload_n (by decide +kernel : decode (bOf 44) 11 = .ok (.iload_n 1, 1)) rfl
theorem x_44_12 : Ev d 44 12 L (.int y :: .int x :: st) μ Q = Ev d 44 13 L (.int (x - y) :: st) μ Q := e_isub (by decide +kernel : decode (bOf 44) 12 = .ok (.isub, 1))
theorem x_44_13 : Ev d 44 13 L [.int x] μ Q = Q (some (.int x)) μ := e_iret (by decide +kernel : decode (bOf 44) 13 = .ok (.ireturn, 1)) (by decide +kernel)
theorem x_44_14 : Ev d 44 14 (.ref r :: L) st μ Q = Ev d 44 15 (.ref r :: L) (.ref r :: st) μ Q := e_aload_n (by decide +kernel : decode (bOf 44) 14 = .ok (.aload_n 0, 1)) rfl
theorem x_44_15 (h : kd t r = 4) : Ev d 44 15 L (.ref r :: st) (t, V, A, P) Q = Ev d 44 18 L (V r 0 :: st) (t, V, A, P) Q := e_getf (by decide +kernel : decode (bOf 44) 15 = .ok (.getfield 12, 3)) (by decide +kernel) (by decide +kernel) h
theorem x_44_18 (h : kd t r = 3) : Ev d 44 18 L (.ref r :: st) (t, V, A, P) Q = Ev d 44 21 L (V r 3 :: st) (t, V, A, P) Q := e_getf (by decide +kernel : decode (bOf 44) 18 = .ok (.getfield 63, 3)) (by decide +kernel) (by decide +kernel) h
theorem x_44_21 : Ev d 44 21 (.ref r :: L) st μ Q = Ev d 44 22 (.ref r :: L) (.ref r :: st) μ Q := e_aload_n (by decide +kernel : decode (bOf 44) 21 = .ok (.aload_n 0, 1)) rfl
theorem x_44_22 (h : kd t r = 4) : Ev d 44 22 L (.ref r :: st) (t, V, A, P) Q = Ev d 44 25 L (V r 10 :: st) (t, V, A, P) Q := e_getf (by decide +kernel : decode (bOf 44) 22 = .ok (.getfield 66, 3)) (by decide +kernel) (by decide +kernel) h
theorem x_44_25 : Ev d 44 25 L (.int y :: .int x :: st) μ Q = Ev d 44 26 L (.int (x + y) :: st) μ Q := e_iadd (by decide +kernel : decode (bOf 44) 25 = .ok (.iadd, 1))
theorem x_44_26 : Ev d 44 26 L st μ Q = Ev d 44 28 L (.int (iI 32) :: st) μ Q := e_bipush (by decide +kernel : decode (bOf 44) 26 = .ok (.bipush 32, 2)) (by decide +kernel)
theorem x_44_28 : Ev d 44 28 L (.int y :: .int x :: st) μ Q = if y < x then Ev d 44 31 L st μ Q else Ev d 44 34 L st μ Q := e_icmp_le (by decide +kernel : decode (bOf 44) 28 = .ok (.if_icmp .le 6, 3)) (by omega)
theorem x_44_31 : Ev d 44 31 L st μ Q = Ev d 44 33 L (.int (iI (-3)) :: st) μ Q := e_bipush (by decide +kernel : decode (bOf 44) 31 = .ok (.bipush (-3), 2)) (by decide +kernel)
theorem x_44_33 : Ev d 44 33 L [.int x] μ Q = Q (some (.int x)) μ := e_iret (by decide +kernel : decode (bOf 44) 33 = .ok (.ireturn, 1)) (by decide +kernel)
theorem x_44_34 : Ev d 44 34 (.ref r :: L) st μ Q = Ev d 44 35 (.ref r :: L) (.ref r :: st) μ Q := e_aload_n (by decide +kernel : decode (bOf 44) 34 = .ok (.aload_n 0, 1)) rfl
theorem x_44_35 (h : kd t r = 4) : Ev d 44 35 L [.ref r] (t, V, A, P) Q = Call d 64 [.ref r] (t, V, A, P) (fun v μ1 => Ev d 44 38 L (v.toList ++ []) μ1 Q) := e_callV (a := []) (r := []) (by decide +kernel : decode (bOf 44) 35 = .ok (.invokevirtual 69, 3)) (by decide +kernel) (by decide +kernel) (by decide +kernel) (by omega) rfl (by simp) (by decide +kernel) h
theorem x_44_38 : Ev d 44 38 L st μ Q = Ev d 44 39 L (.int (iI 0) :: st) μ Q := e_iconst (by decide +kernel : decode (bOf 44) 38 = .ok (.iconst 0, 1))
theorem x_44_39 (h : a1.category = 1) : Ev d 44 39 (a0 :: a1 :: a2 :: L) (.int x :: st) μ Q = Ev d 44 40 (a0 :: a1 :: .int x :: L) st μ Q := e_istore_n (by decide +kernel : decode (bOf 44) 39 = .ok (.istore_n 2, 1)) (by show stOK _ 2 = true; simp [stOK, h])
theorem x_44_40 : Ev d 44 40 (a0 :: a1 :: .int x :: L) st μ Q = Ev d 44 41 (a0 :: a1 :: .int x :: L) (.int x :: st) μ Q := e_iload_n (by decide +kernel : decode (bOf 44) 40 = .ok (.iload_n 2, 1)) rfl
theorem x_44_41 : Ev d 44 41 (.ref r :: L) st μ Q = Ev d 44 42 (.ref r :: L) (.ref r :: st) μ Q := e_aload_n (by decide +kernel : decode (bOf 44) 41 = .ok (.aload_n 0, 1)) rfl
theorem x_44_42 (h : kd t r = 4) : Ev d 44 42 L (.ref r :: st) (t, V, A, P) Q = Ev d 44 45 L (V r 10 :: st) (t, V, A, P) Q := e_getf (by decide +kernel : decode (bOf 44) 42 = .ok (.getfield 66, 3)) (by decide +kernel) (by decide +kernel) h
theorem x_44_45 : Ev d 44 45 L (.int y :: .int x :: st) μ Q = if x < y then Ev d 44 48 L st μ Q else Ev d 44 74 L st μ Q := e_icmp_ge (by decide +kernel : decode (bOf 44) 45 = .ok (.if_icmp .ge 29, 3)) (by omega)
theorem x_44_48 : Ev d 44 48 (a0 :: a1 :: .int x :: L) st μ Q = Ev d 44 49 (a0 :: a1 :: .int x :: L) (.int x :: st) μ Q := e_iload_n (by decide +kernel : decode (bOf 44) 48 = .ok (.iload_n 2, 1)) rfl
theorem x_44_49 : Ev d 44 49 L st μ Q = Ev d 44 51 L (.int (iI 40) :: st) μ Q := e_bipush (by decide +kernel : decode (bOf 44) 49 = .ok (.bipush 40, 2)) (by decide +kernel)
theorem x_44_51 : Ev d 44 51 L (.int y :: .int x :: st) μ Q = if x < y then Ev d 44 54 L st μ Q else Ev d 44 74 L st μ Q := e_icmp_ge (by decide +kernel : decode (bOf 44) 51 = .ok (.if_icmp .ge 23, 3)) (by omega)
theorem x_44_54 : Ev d 44 54 (.ref r :: L) st μ Q = Ev d 44 55 (.ref r :: L) (.ref r :: st) μ Q := e_aload_n (by decide +kernel : decode (bOf 44) 54 = .ok (.aload_n 0, 1)) rfl
theorem x_44_55 (h : kd t r = 4) : Ev d 44 55 L (.ref r :: st) (t, V, A, P) Q = Ev d 44 58 L (V r 0 :: st) (t, V, A, P) Q := e_getf (by decide +kernel : decode (bOf 44) 55 = .ok (.getfield 12, 3)) (by decide +kernel) (by decide +kernel) h
theorem x_44_58 : Ev d 44 58 (.ref r :: L) st μ Q = Ev d 44 59 (.ref r :: L) (.ref r :: st) μ Q := e_aload_n (by decide +kernel : decode (bOf 44) 58 = .ok (.aload_n 0, 1)) rfl
theorem x_44_59 (h : kd t r = 4) : Ev d 44 59 L (.ref r :: st) (t, V, A, P) Q = Ev d 44 62 L (V r 5 :: st) (t, V, A, P) Q := e_getf (by decide +kernel : decode (bOf 44) 59 = .ok (.getfield 31, 3)) (by decide +kernel) (by decide +kernel) h
theorem x_44_62 : Ev d 44 62 (a0 :: a1 :: .int x :: L) st μ Q = Ev d 44 63 (a0 :: a1 :: .int x :: L) (.int x :: st) μ Q := e_iload_n (by decide +kernel : decode (bOf 44) 62 = .ok (.iload_n 2, 1)) rfl
theorem x_44_63 (h : kd t r = 6) (hi : inB x (ln t r) = true) : Ev d 44 63 L (.int x :: .ref r :: st) (t, V, A, P) Q = Ev d 44 64 L (.int (A r x.toNatClampNeg) :: st) (t, V, A, P) Q := e_iald (by decide +kernel : decode (bOf 44) 63 = .ok (.iaload, 1)) h hi
theorem x_44_64 (h : kd t r = 3) : Ev d 44 64 L [b0, .ref r] (t, V, A, P) Q = Call d 30 [.ref r, b0] (t, V, A, P) (fun v μ1 => Ev d 44 67 L (v.toList ++ []) μ1 Q) := e_callV (a := [b0]) (r := []) (by decide +kernel : decode (bOf 44) 64 = .ok (.invokevirtual 72, 3)) (by decide +kernel) (by decide +kernel) (by decide +kernel) (by omega) rfl (by simp) (by decide +kernel) h
theorem x_44_67 : Ev d 44 67 L (.int x :: st) μ Q = Ev d 44 68 L st μ Q := e_pop (by decide +kernel : decode (bOf 44) 67 = .ok (.pop, 1))
theorem x_44_68 (h : a1.category = 1) : Ev d 44 68 (a0 :: a1 :: .int x :: L) st μ Q = Ev d 44 71 (a0 :: a1 :: .int (x + (iI 1)) :: L) st μ Q := e_iinc (by decide +kernel : decode (bOf 44) 68 = .ok (.iinc 2 1, 3)) rfl (by simp [stOK, h])
theorem x_44_71 : Ev d 44 71 L st μ Q = Ev d 44 40 L st μ Q := e_goto (by decide +kernel : decode (bOf 44) 71 = .ok (.goto (-31), 3)) (by omega)
theorem x_44_74 : Ev d 44 74 (.ref r :: L) st μ Q = Ev d 44 75 (.ref r :: L) (.ref r :: st) μ Q := e_aload_n (by decide +kernel : decode (bOf 44) 74 = .ok (.aload_n 0, 1)) rfl
theorem x_44_75 : Ev d 44 75 L st μ Q = Ev d 44 76 L (.int (iI 0) :: st) μ Q := e_iconst (by decide +kernel : decode (bOf 44) 75 = .ok (.iconst 0, 1))
theorem x_44_76 (h : kd t r = 4) : Ev d 44 76 L (.int x :: .ref r :: st) (t, V, A, P) Q = Ev d 44 79 L st (t, up1 V r (up1 (V r) 9 (.int x)), A, P) Q := e_putf (by decide +kernel : decode (bOf 44) 76 = .ok (.putfield 55, 3)) (by decide +kernel) (by decide +kernel) rfl h
theorem x_44_79 : Ev d 44 79 (.ref r :: L) st μ Q = Ev d 44 80 (.ref r :: L) (.ref r :: st) μ Q := e_aload_n (by decide +kernel : decode (bOf 44) 79 = .ok (.aload_n 0, 1)) rfl
theorem x_44_80 (h : kd t r = 4) : Ev d 44 80 L (.ref r :: st) (t, V, A, P) Q = Ev d 44 83 L (V r 10 :: st) (t, V, A, P) Q := e_getf (by decide +kernel : decode (bOf 44) 80 = .ok (.getfield 66, 3)) (by decide +kernel) (by decide +kernel) h
theorem x_44_83 : Ev d 44 83 L [.int x] μ Q = Q (some (.int x)) μ := e_iret (by decide +kernel : decode (bOf 44) 83 = .ok (.ireturn, 1)) (by decide +kernel)
theorem c_45 : Call (d + 1) 45 [.ref r0, .int i1] μ Q = Ev d 45 0 [.ref r0, .int i1] [] μ Q := call_ev rfl rfl
theorem x_45_0 : Ev d 45 0 (a0 :: .int x :: L) st μ Q = Ev d 45 1 (a0 :: .int x :: L) (.int x :: st) μ Q := e_iload_n (by decide +kernel : decode (bOf 45) 0 = .ok (.iload_n 1, 1)) rfl
theorem x_45_1 : Ev d 45 1 L (.int x :: st) μ Q = if x < iI 0 then Ev d 45 10 L st μ Q else Ev d 45 4 L st μ Q := e_if_lt (by decide +kernel : decode (bOf 45) 1 = .ok (.ifCond .lt 9, 3)) (by omega)
theorem x_45_4 : Ev d 45 4 (a0 :: .int x :: L) st μ Q = Ev d 45 5 (a0 :: .int x :: L) (.int x :: st) μ Q := e_iload_n (by decide +kernel : decode (bOf 45) 4 = .ok (.iload_n 1, 1)) rfl
theorem x_45_5 : Ev d 45 5 L st μ Q = Ev d 45 7 L (.int (iI 31) :: st) μ Q := e_bipush (by decide +kernel : decode (bOf 45) 5 = .ok (.bipush 31, 2)) (by decide +kernel)
theorem x_45_7 : Ev d 45 7 L (.int y :: .int x :: st) μ Q = if x < y then Ev d 45 12 L st μ Q else Ev d 45 10 L st μ Q := e_icmp_lt (by decide +kernel : decode (bOf 45) 7 = .ok (.if_icmp .lt 5, 3)) (by omega)
theorem x_45_10 : Ev d 45 10 L st μ Q = Ev d 45 11 L (.int (iI (-1)) :: st) μ Q := e_iconst (by decide +kernel : decode (bOf 45) 10 = .ok (.iconst (-1), 1))
theorem x_45_11 : Ev d 45 11 L [.int x] μ Q = Q (some (.int x)) μ := e_iret (by decide +kernel : decode (bOf 45) 11 = .ok (.ireturn, 1)) (by decide +kernel)
theorem x_45_12 : Ev d 45 12 (.ref r :: L) st μ Q = Ev d 45 13 (.ref r :: L) (.ref r :: st) μ Q := e_aload_n (by decide +kernel : decode (bOf 45) 12 = .ok (.aload_n 0, 1)) rfl
theorem x_45_13 : Ev d 45 13 (a0 :: .int x :: L) st μ Q = Ev d 45 14 (a0 :: .int x :: L) (.int x :: st) μ Q := e_iload_n (by decide +kernel : decode (bOf 45) 13 = .ok (.iload_n 1, 1)) rfl
theorem x_45_14 (h : kd t r = 4) : Ev d 45 14 L [b0, .ref r] (t, V, A, P) Q = Call d 63 [.ref r, b0] (t, V, A, P) (fun v μ1 => Ev d 45 17 L (v.toList ++ []) μ1 Q) := e_callV (a := [b0]) (r := []) (by decide +kernel : decode (bOf 45) 14 = .ok (.invokevirtual 76, 3)) (by decide +kernel) (by decide +kernel) (by decide +kernel) (by omega) rfl (by simp) (by decide +kernel) h
theorem x_45_17 : Ev d 45 17 L [.int x] μ Q = Q (some (.int x)) μ := e_iret (by decide +kernel : decode (bOf 45) 17 = .ok (.ireturn, 1)) (by decide +kernel)
theorem c_46 : Call (d + 1) 46 [.ref r0, .int i1] μ Q = Ev d 46 0 [.ref r0, .int i1] [] μ Q := call_ev rfl rfl
theorem x_46_0 : Ev d 46 0 (a0 :: .int x :: L) st μ Q = Ev d 46 1 (a0 :: .int x :: L) (.int x :: st) μ Q := e_iload_n (by decide +kernel : decode (bOf 46) 0 = .ok (.iload_n 1, 1)) rfl
theorem x_46_1 : Ev d 46 1 L (.int x :: st) μ Q = if x < iI 0 then Ev d 46 9 L st μ Q else Ev d 46 4 L st μ Q := e_if_lt (by decide +kernel : decode (bOf 46) 1 = .ok (.ifCond .lt 8, 3)) (by omega)
theorem x_46_4 : Ev d 46 4 (a0 :: .int x :: L) st μ Q = Ev d 46 5 (a0 :: .int x :: L) (.int x :: st) μ Q := e_iload_n (by decide +kernel : decode (bOf 46) 4 = .ok (.iload_n 1, 1)) rfl
theorem x_46_5 : Ev d 46 5 L st μ Q = Ev d 46 6 L (.int (iI 3) :: st) μ Q := e_iconst (by decide +kernel : decode (bOf 46) 5 = .ok (.iconst 3, 1))
theorem x_46_6 : Ev d 46 6 L (.int y :: .int x :: st) μ Q = if x < y then Ev d 46 11 L st μ Q else Ev d 46 9 L st μ Q := e_icmp_lt (by decide +kernel : decode (bOf 46) 6 = .ok (.if_icmp .lt 5, 3)) (by omega)
theorem x_46_9 : Ev d 46 9 L st μ Q = Ev d 46 10 L (.int (iI (-1)) :: st) μ Q := e_iconst (by decide +kernel : decode (bOf 46) 9 = .ok (.iconst (-1), 1))
theorem x_46_10 : Ev d 46 10 L [.int x] μ Q = Q (some (.int x)) μ := e_iret (by decide +kernel : decode (bOf 46) 10 = .ok (.ireturn, 1)) (by decide +kernel)
theorem x_46_11 : Ev d 46 11 (.ref r :: L) st μ Q = Ev d 46 12 (.ref r :: L) (.ref r :: st) μ Q := e_aload_n (by decide +kernel : decode (bOf 46) 11 = .ok (.aload_n 0, 1)) rfl
theorem x_46_12 : Ev d 46 12 L st μ Q = Ev d 46 14 L (.int (iI 31) :: st) μ Q := e_bipush (by decide +kernel : decode (bOf 46) 12 = .ok (.bipush 31, 2)) (by decide +kernel)
theorem x_46_14 : Ev d 46 14 (a0 :: .int x :: L) st μ Q = Ev d 46 15 (a0 :: .int x :: L) (.int x :: st) μ Q := e_iload_n (by decide +kernel : decode (bOf 46) 14 = .ok (.iload_n 1, 1)) rfl
theorem x_46_15 : Ev d 46 15 L (.int y :: .int x :: st) μ Q = Ev d 46 16 L (.int (x + y) :: st) μ Q := e_iadd (by decide +kernel : decode (bOf 46) 15 = .ok (.iadd, 1))
theorem x_46_16 (h : kd t r = 4) : Ev d 46 16 L [b0, .ref r] (t, V, A, P) Q = Call d 63 [.ref r, b0] (t, V, A, P) (fun v μ1 => Ev d 46 19 L (v.toList ++ []) μ1 Q) := e_callV (a := [b0]) (r := []) (by decide +kernel : decode (bOf 46) 16 = .ok (.invokevirtual 76, 3)) (by decide +kernel) (by decide +kernel) (by decide +kernel) (by omega) rfl (by simp) (by decide +kernel) h
theorem x_46_19 : Ev d 46 19 L [.int x] μ Q = Q (some (.int x)) μ := e_iret (by decide +kernel : decode (bOf 46) 19 = .ok (.ireturn, 1)) (by decide +kernel)
theorem c_47 : Call (d + 1) 47 [.ref r0, .int i1] μ Q = Ev d 47 0 [.ref r0, .int i1] [] μ Q := call_ev rfl rfl
theorem x_47_0 : Ev d 47 0 (.ref r :: L) st μ Q = Ev d 47 1 (.ref r :: L) (.ref r :: st) μ Q := e_aload_n (by decide +kernel : decode (bOf 47) 0 = .ok (.aload_n 0, 1)) rfl
theorem x_47_1 (h : kd t r = 4) : Ev d 47 1 L (.ref r :: st) (t, V, A, P) Q = Ev d 47 4 L (V r 0 :: st) (t, V, A, P) Q := e_getf (by decide +kernel : decode (bOf 47) 1 = .ok (.getfield 12, 3)) (by decide +kernel) (by decide +kernel) h
theorem x_47_4 : Ev d 47 4 (a0 :: .int x :: L) st μ Q = Ev d 47 5 (a0 :: .int x :: L) (.int x :: st) μ Q := e_iload_n (by decide +kernel : decode (bOf 47) 4 = .ok (.iload_n 1, 1)) rfl
theorem x_47_5 (h : kd t r = 3) : Ev d 47 5 L [b0, .ref r] (t, V, A, P) Q = Call d 34 [.ref r, b0] (t, V, A, P) (fun v μ1 => Ev d 47 8 L (v.toList ++ []) μ1 Q) := e_callV (a := [b0]) (r := []) (by decide +kernel : decode (bOf 47) 5 = .ok (.invokevirtual 79, 3)) (by decide +kernel) (by decide +kernel) (by decide +kernel) (by omega) rfl (by simp) (by decide +kernel) h
theorem x_47_8 : Ev d 47 8 L (.int x :: st) μ Q = if x = iI 0 then Ev d 47 11 L st μ Q else Ev d 47 13 L st μ Q := e_if_ne (by decide +kernel : decode (bOf 47) 8 = .ok (.ifCond .ne 5, 3)) (by omega)
theorem x_47_11 : Ev d 47 11 L st μ Q = Ev d 47 12 L (.int (iI (-1)) :: st) μ Q := e_iconst (by decide +kernel : decode (bOf 47) 11 = .ok (.iconst (-1), 1))
theorem x_47_12 : Ev d 47 12 L [.int x] μ Q = Q (some (.int x)) μ := e_iret (by decide +kernel : decode (bOf 47) 12 = .ok (.ireturn, 1)) (by decide +kernel)
theorem x_47_13 : Ev d 47 13 (.ref r :: L) st μ Q = Ev d 47 14 (.ref r :: L) (.ref r :: st) μ Q := e_aload_n (by decide +kernel : decode (bOf 47) 13 = .ok (.aload_n 0, 1)) rfl
theorem x_47_14 (h : kd t r = 4) : Ev d 47 14 L [.ref r] (t, V, A, P) Q = Call d 64 [.ref r] (t, V, A, P) (fun v μ1 => Ev d 47 17 L (v.toList ++ []) μ1 Q) := e_callV (a := []) (r := []) (by decide +kernel : decode (bOf 47) 14 = .ok (.invokevirtual 69, 3)) (by decide +kernel) (by decide +kernel) (by decide +kernel) (by omega) rfl (by simp) (by decide +kernel) h
theorem x_47_17 : Ev d 47 17 (.ref r :: L) st μ Q = Ev d 47 18 (.ref r :: L) (.ref r :: st) μ Q := e_aload_n (by decide +kernel : decode (bOf 47) 17 = .ok (.aload_n 0, 1)) rfl
theorem x_47_18 (h : kd t r = 4) : Ev d 47 18 L (.ref r :: st) (t, V, A, P) Q = Ev d 47 21 L (V r 0 :: st) (t, V, A, P) Q := e_getf (by decide +kernel : decode (bOf 47) 18 = .ok (.getfield 12, 3)) (by decide +kernel) (by decide +kernel) h
theorem x_47_21 : Ev d 47 21 (a0 :: .int x :: L) st μ Q = Ev d 47 22 (a0 :: .int x :: L) (.int x :: st) μ Q := e_iload_n (by decide +kernel : decode (bOf 47) 21 = .ok (.iload_n 1, 1)) rfl
theorem x_47_22 (h : kd t r = 3) : Ev d 47 22 L [b0, .ref r] (t, V, A, P) Q = Call d 36 [.ref r, b0] (t, V, A, P) (fun v μ1 => Ev d 47 25 L (v.toList ++ []) μ1 Q) := e_callV (a := [b0]) (r := []) (by decide +kernel : decode (bOf 47) 22 = .ok (.invokevirtual 83, 3)) (by decide +kernel) (by decide +kernel) (by decide +kernel) (by omega) rfl (by simp) (by decide +kernel) h
theorem x_47_25 : Ev d 47 25 (.ref r :: L) st μ Q = Ev d 47 26 (.ref r :: L) (.ref r :: st) μ Q := e_aload_n (by decide +kernel : decode (bOf 47) 25 = .ok (.aload_n 0, 1)) rfl
theorem x_47_26 (h : kd t r = 4) : Ev d 47 26 L (.ref r :: st) (t, V, A, P) Q = Ev d 47 29 L (V r 0 :: st) (t, V, A, P) Q := e_getf (by decide +kernel : decode (bOf 47) 26 = .ok (.getfield 12, 3)) (by decide +kernel) (by decide +kernel) h
theorem x_47_29 : Ev d 47 29 (a0 :: .int x :: L) st μ Q = Ev d 47 30 (a0 :: .int x :: L) (.int x :: st) μ Q := e_iload_n (by decide +kernel : decode (bOf 47) 29 = .ok (.iload_n 1, 1)) rfl
theorem x_47_30 (h : kd t r = 3) : Ev d 47 30 L [b0, .ref r] (t, V, A, P) Q = Call d 35 [.ref r, b0] (t, V, A, P) (fun v μ1 => Ev d 47 33 L (v.toList ++ []) μ1 Q) := e_callV (a := [b0]) (r := []) (by decide +kernel : decode (bOf 47) 30 = .ok (.invokevirtual 87, 3)) (by decide +kernel) (by decide +kernel) (by decide +kernel) (by omega) rfl (by simp) (by decide +kernel) h
theorem x_47_33 : Ev d 47 33 L [.int x] μ Q = Q (some (.int x)) μ := e_iret (by decide +kernel : decode (bOf 47) 33 = .ok (.ireturn, 1)) (by decide +kernel)
theorem c_48 : Call (d + 1) 48 [.ref r0] μ Q = Ev d 48 0 [.ref r0, .null] [] μ Q := call_ev rfl rfl
theorem x_48_0 : Ev d 48 0 (.ref r :: L) st μ Q = Ev d 48 1 (.ref r :: L) (.ref r :: st) μ Q := e_aload_n (by decide +kernel : decode (bOf 48) 0 = .ok (.aload_n 0, 1)) rfl
theorem x_48_1 (h : kd t r = 4) : Ev d 48 1 L (.ref r :: st) (t, V, A, P) Q = Ev d 48 4 L (V r 0 :: st) (t, V, A, P) Q := e_getf (by decide +kernel : decode (bOf 48) 1 = .ok (.getfield 12, 3)) (by decide +kernel) (by decide +kernel) h
theorem x_48_4 (h : kd t r = 3) : Ev d 48 4 L (.ref r :: st) (t, V, A, P) Q = Ev d 48 7 L (V r 3 :: st) (t, V, A, P) Q := e_getf (by decide +kernel : decode (bOf 48) 4 = .ok (.getfield 63, 3)) (by decide +kernel) (by decide +kernel) h
theorem x_48_7 : Ev d 48 7 L (.int x :: st) μ Q = if x = iI 0 then Ev d 48 10 L st μ Q else Ev d 48 13 L st μ Q := e_if_ne (by decide +kernel : decode (bOf 48) 7 = .ok (.ifCond .ne 6, 3)) (by omega)
theorem x_48_10 : Ev d 48 10 L st μ Q = Ev d 48 12 L (.int (iI (-2)) :: st) μ Q := e_bipush (by decide +kernel : decode (bOf 48) 10 = .ok (.bipush (-2), 2)) (by decide +kernel)
theorem x_48_12 : Ev d 48 12 L [.int x] μ Q = Q (some (.int x)) μ := e_iret (by decide +kernel : decode (bOf 48) 12 = .ok (.ireturn, 1)) (by decide +kernel)
theorem x_48_13 : Ev d 48 13 (.ref r :: L) st μ Q = Ev d 48 14 (.ref r :: L) (.ref r :: st) μ Q := e_aload_n (by decide +kernel : decode (bOf 48) 13 = .ok (.aload_n 0, 1)) rfl
theorem x_48_14 (h : kd t r = 4) : Ev d 48 14 L (.ref r :: st) (t, V, A, P) Q = Ev d 48 17 L (V r 0 :: st) (t, V, A, P) Q := e_getf (by decide +kernel : decode (bOf 48) 14 = .ok (.getfield 12, 3)) (by decide +kernel) (by decide +kernel) h
theorem x_48_17 (h : kd t r = 3) : Ev d 48 17 L (.ref r :: st) (t, V, A, P) Q = Ev d 48 20 L (V r 3 :: st) (t, V, A, P) Q := e_getf (by decide +kernel : decode (bOf 48) 17 = .ok (.getfield 63, 3)) (by decide +kernel) (by decide +kernel) h
theorem x_48_20 (h : a0.category = 1) : Ev d 48 20 (a0 :: a1 :: L) (.int x :: st) μ Q = Ev d 48 21 (a0 :: .int x :: L) st μ Q := e_istore_n (by decide +kernel : decode (bOf 48) 20 = .ok (.istore_n 1, 1)) (by show stOK _ 1 = true; simp [stOK, h])
theorem x_48_21 : Ev d 48 21 (.ref r :: L) st μ Q = Ev d 48 22 (.ref r :: L) (.ref r :: st) μ Q := e_aload_n (by decide +kernel : decode (bOf 48) 21 = .ok (.aload_n 0, 1)) rfl
theorem x_48_22 (h : kd t r = 4) : Ev d 48 22 L [.ref r] (t, V, A, P) Q = Call d 64 [.ref r] (t, V, A, P) (fun v μ1 => Ev d 48 25 L (v.toList ++ []) μ1 Q) := e_callV (a := []) (r := []) (by decide +kernel : decode (bOf 48) 22 = .ok (.invokevirtual 69, 3)) (by decide +kernel) (by decide +kernel) (by decide +kernel) (by omega) rfl (by simp) (by decide +kernel) h
theorem x_48_25 : Ev d 48 25 (.ref r :: L) st μ Q = Ev d 48 26 (.ref r :: L) (.ref r :: st) μ Q := e_aload_n (by decide +kernel : decode (bOf 48) 25 = .ok (.aload_n 0, 1)) rfl
theorem x_48_26 (h : kd t r = 4) : Ev d 48 26 L (.ref r :: st) (t, V, A, P) Q = Ev d 48 29 L (V r 0 :: st) (t, V, A, P) Q := e_getf (by decide +kernel : decode (bOf 48) 26 = .ok (.getfield 12, 3)) (by decide +kernel) (by decide +kernel) h
theorem x_48_29 (h : kd t r = 3) : Ev d 48 29 L [.ref r] (t, V, A, P) Q = Call d 28 [.ref r] (t, V, A, P) (fun v μ1 => Ev d 48 32 L (v.toList ++ []) μ1 Q) := e_callV (a := []) (r := []) (by decide +kernel : decode (bOf 48) 29 = .ok (.invokevirtual 90, 3)) (by decide +kernel) (by decide +kernel) (by decide +kernel) (by omega) rfl (by simp) (by decide +kernel) h
theorem x_48_32 : Ev d 48 32 (a0 :: .int x :: L) st μ Q = Ev d 48 33 (a0 :: .int x :: L) (.int x :: st) μ Q := e_iload_n (by decide +kernel : decode (bOf 48) 32 = .ok (.iload_n 1, 1)) rfl
theorem x_48_33 : Ev d 48 33 L [.int x] μ Q = Q (some (.int x)) μ := e_iret (by decide +kernel : decode (bOf 48) 33 = .ok (.ireturn, 1)) (by decide +kernel)
theorem c_49 : Call (d + 1) 49 [.ref r0] μ Q = Ev d 49 0 [.ref r0] [] μ Q := call_ev rfl rfl
theorem x_49_0 : Ev d 49 0 (.ref r :: L) st μ Q = Ev d 49 1 (.ref r :: L) (.ref r :: st) μ Q := e_aload_n (by decide +kernel : decode (bOf 49) 0 = .ok (.aload_n 0, 1)) rfl
theorem x_49_1 (h : kd t r = 4) : Ev d 49 1 L (.ref r :: st) (t, V, A, P) Q = Ev d 49 4 L (V r 11 :: st) (t, V, A, P) Q := e_getf (by decide +kernel : decode (bOf 49) 1 = .ok (.getfield 93, 3)) (by decide +kernel) (by decide +kernel) h
theorem x_49_4 : Ev d 49 4 L (.int x :: st) μ Q = if iI 0 < x then Ev d 49 7 L st μ Q else Ev d 49 16 L st μ Q := e_if_le (by decide +kernel : decode (bOf 49) 4 = .ok (.ifCond .le 12, 3)) (by omega)
theorem x_49_7 : Ev d 49 7 (.ref r :: L) st μ Q = Ev d 49 8 (.ref r :: L) (.ref r :: st) μ Q := e_aload_n (by decide +kernel : decode (bOf 49) 7 = .ok (.aload_n 0, 1)) rfl
theorem x_49_8 (h : kd t r = 4) : Ev d 49 8 L (.ref r :: st) (t, V, A, P) Q = Ev d 49 11 L (V r 11 :: st) (t, V, A, P) Q := e_getf (by decide +kernel : decode (bOf 49) 8 = .ok (.getfield 93, 3)) (by decide +kernel) (by decide +kernel) h
theorem x_49_11 : Ev d 49 11 L st μ Q = Ev d 49 13 L (.int (iI 6) :: st) μ Q := e_bipush (by decide +kernel : decode (bOf 49) 11 = .ok (.bipush 6, 2)) (by decide +kernel)
theorem x_49_13 : Ev d 49 13 L (.int y :: .int x :: st) μ Q = if y < x then Ev d 49 16 L st μ Q else Ev d 49 19 L st μ Q := e_icmp_le (by decide +kernel : decode (bOf 49) 13 = .ok (.if_icmp .le 6, 3)) (by omega)
theorem x_49_16 : Ev d 49 16 L st μ Q = Ev d 49 18 L (.int (iI (-2)) :: st) μ Q := e_bipush (by decide +kernel : decode (bOf 49) 16 = .ok (.bipush (-2), 2)) (by decide +kernel)
theorem x_49_18 : Ev d 49 18 L [.int x] μ Q = Q (some (.int x)) μ := e_iret (by decide +kernel : decode (bOf 49) 18 = .ok (.ireturn, 1)) (by decide +kernel)
theorem x_49_19 : Ev d 49 19 (.ref r :: L) st μ Q = Ev d 49 20 (.ref r :: L) (.ref r :: st) μ Q := e_aload_n (by decide +kernel : decode (bOf 49) 19 = .ok (.aload_n 0, 1)) rfl
theorem x_49_20 : Ev d 49 20 L (.ref r :: st) μ Q = Ev d 49 21 L (.ref r :: .ref r :: st) μ Q := e_dup_a (by decide +kernel : decode (bOf 49) 20 = .ok (.dup, 1))
theorem x_49_21 (h : kd t r = 4) : Ev d 49 21 L (.ref r :: st) (t, V, A, P) Q = Ev d 49 24 L (V r 11 :: st) (t, V, A, P) Q := e_getf (by decide +kernel : decode (bOf 49) 21 = .ok (.getfield 93, 3)) (by decide +kernel) (by decide +kernel) h
theorem x_49_24 : Ev d 49 24 L st μ Q = Ev d 49 25 L (.int (iI 1) :: st) μ Q := e_iconst (by decide +kernel : decode (bOf 49) 24 = .ok (.iconst 1, 1))
theorem x_49_25 : Ev d 49 25 L (.int y :: .int x :: st) μ Q = Ev d 49 26 L (.int (x - y) :: st) μ Q := e_isub (by decide +kernel : decode (bOf 49) 25 = .ok (.isub, 1))
theorem x_49_26 (h : kd t r = 4) : Ev d 49 26 L (.int x :: .ref r :: st) (t, V, A, P) Q = Ev d 49 29 L st (t, up1 V r (up1 (V r) 11 (.int x)), A, P) Q := e_putf (by decide +kernel : decode (bOf 49) 26 = .ok (.putfield 93, 3)) (by decide +kernel) (by decide +kernel) rfl h
theorem x_49_29 : Ev d 49 29 (.ref r :: L) st μ Q = Ev d 49 30 (.ref r :: L) (.ref r :: st) μ Q := e_aload_n (by decide +kernel : decode (bOf 49) 29 = .ok (.aload_n 0, 1)) rfl
theorem x_49_30 (h : kd t r = 4) : Ev d 49 30 L (.ref r :: st) (t, V, A, P) Q = Ev d 49 33 L (V r 1 :: st) (t, V, A, P) Q := e_getf (by decide +kernel : decode (bOf 49) 30 = .ok (.getfield 16, 3)) (by decide +kernel) (by decide +kernel) h
theorem x_49_33 : Ev d 49 33 (.ref r :: L) st μ Q = Ev d 49 34 (.ref r :: L) (.ref r :: st) μ Q := e_aload_n (by decide +kernel : decode (bOf 49) 33 = .ok (.aload_n 0, 1)) rfl
theorem x_49_34 (h : kd t r = 4) : Ev d 49 34 L (.ref r :: st) (t, V, A, P) Q = Ev d 49 37 L (V r 11 :: st) (t, V, A, P) Q := e_getf (by decide +kernel : decode (bOf 49) 34 = .ok (.getfield 93, 3)) (by decide +kernel) (by decide +kernel) h
theorem x_49_37 (h : kd t r = 9) (hi : inB x (ln t r) = true) : Ev d 49 37 L (.int x :: .ref r :: st) (t, V, A, P) Q = Ev d 49 38 L (va_rf (P r x.toNatClampNeg) :: st) (t, V, A, P) Q := e_aald 9 (by omega) (by decide +kernel : decode (bOf 49) 37 = .ok (.aaload, 1)) h hi
theorem x_49_38 : Ev d 49 38 (.ref r :: L) st μ Q = Ev d 49 39 (.ref r :: L) (.ref r :: st) μ Q := e_aload_n (by decide +kernel : decode (bOf 49) 38 = .ok (.aload_n 0, 1)) rfl
theorem x_49_39 (h : kd t r = 4) : Ev d 49 39 L (.ref r :: st) (t, V, A, P) Q = Ev d 49 42 L (V r 0 :: st) (t, V, A, P) Q := e_getf (by decide +kernel : decode (bOf 49) 39 = .ok (.getfield 12, 3)) (by decide +kernel) (by decide +kernel) h
theorem x_49_42 : Ev d 49 42 L [b1, b0] μ Q = Call d 29 [b0, b1] μ (fun v μ1 => Ev d 49 45 L (v.toList ++ []) μ1 Q) := e_callS (a := [b0, b1]) (r := []) (by decide +kernel : decode (bOf 49) 42 = .ok (.invokestatic 96, 3)) (by decide +kernel) (by decide +kernel) (by omega) rfl (by simp)
theorem x_49_45 : Ev d 49 45 (.ref r :: L) st μ Q = Ev d 49 46 (.ref r :: L) (.ref r :: st) μ Q := e_aload_n (by decide +kernel : decode (bOf 49) 45 = .ok (.aload_n 0, 1)) rfl
theorem x_49_46 (h : kd t r = 4) : Ev d 49 46 L (.ref r :: st) (t, V, A, P) Q = Ev d 49 49 L (V r 11 :: st) (t, V, A, P) Q := e_getf (by decide +kernel : decode (bOf 49) 46 = .ok (.getfield 93, 3)) (by decide +kernel) (by decide +kernel) h
theorem x_49_49 : Ev d 49 49 L [.int x] μ Q = Q (some (.int x)) μ := e_iret (by decide +kernel : decode (bOf 49) 49 = .ok (.ireturn, 1)) (by decide +kernel)
theorem c_50 : Call (d + 1) 50 [.ref r0, .int i1, .int i2] μ Q = Ev d 50 0 [.ref r0, .int i1, .int i2] [] μ Q := call_ev rfl rfl
theorem x_50_0 : Ev d 50 0 (a0 :: .int x :: L) st μ Q = Ev d 50 1 (a0 :: .int x :: L) (.int x :: st) μ Q := e_iload_n (by decide +kernel : decode (bOf 50) 0 = .ok (.iload_n 1, 1)) rfl
theorem x_50_1 : Ev d 50 1 L [b0] μ Q = Call d 0 [b0] μ (fun v μ1 => Ev d 50 4 L (v.toList ++ []) μ1 Q) := e_callS (a := [b0]) (r := []) (by decide +kernel : decode (bOf 50) 1 = .ok (.invokestatic 100, 3)) (by decide +kernel) (by decide +kernel) (by omega) rfl (by simp)
theorem x_50_4 : Ev d 50 4 L (.int x :: st) μ Q = if x = iI 0 then Ev d 50 16 L st μ Q else Ev d 50 7 L st μ Q := e_if_eq (by decide +kernel : decode (bOf 50) 4 = .ok (.ifCond .eq 12, 3)) (by omega)
theorem x_50_7 : Ev d 50 7 (a0 :: a1 :: .int x :: L) st μ Q = Ev d 50 8 (a0 :: a1 :: .int x :: L) (.int x :: st) μ Q := e_iload_n (by decide +kernel : decode (bOf 50) 7 = .ok (.iload_n 2, 1)) rfl
theorem x_50_8 : Ev d 50 8 L (.int x :: st) μ Q = if x < iI 0 then Ev d 50 16 L st μ Q else Ev d 50 11 L st μ Q := e_if_lt (by decide +kernel : decode (bOf 50) 8 = .ok (.ifCond .lt 8, 3)) (by omega)
theorem x_50_11 : Ev d 50 11 (a0 :: a1 :: .int x :: L) st μ Q = Ev d 50 12 (a0 :: a1 :: .int x :: L) (.int x :: st) μ Q := e_iload_n (by decide +kernel : decode (bOf 50) 11 = .ok (.iload_n 2, 1)) rfl
theorem x_50_12 : Ev d 50 12 L st μ Q = Ev d 50 13 L (.int (iI 1) :: st) μ Q := e_iconst (by decide +kernel : decode (bOf 50) 12 = .ok (.iconst 1, 1))
theorem x_50_13 : Ev d 50 13 L (.int y :: .int x :: st) μ Q = if y < x then Ev d 50 16 L st μ Q else Ev d 50 18 L st μ Q := e_icmp_le (by decide +kernel : decode (bOf 50) 13 = .ok (.if_icmp .le 5, 3)) (by omega)
theorem x_50_16 : Ev d 50 16 L st μ Q = Ev d 50 17 L (.int (iI (-1)) :: st) μ Q := e_iconst (by decide +kernel : decode (bOf 50) 16 = .ok (.iconst (-1), 1))
theorem x_50_17 : Ev d 50 17 L [.int x] μ Q = Q (some (.int x)) μ := e_iret (by decide +kernel : decode (bOf 50) 17 = .ok (.ireturn, 1)) (by decide +kernel)
theorem x_50_18 : Ev d 50 18 (a0 :: .int x :: L) st μ Q = Ev d 50 19 (a0 :: .int x :: L) (.int x :: st) μ Q := e_iload_n (by decide +kernel : decode (bOf 50) 18 = .ok (.iload_n 1, 1)) rfl
theorem x_50_19 : Ev d 50 19 (a0 :: a1 :: .int x :: L) st μ Q = Ev d 50 20 (a0 :: a1 :: .int x :: L) (.int x :: st) μ Q := e_iload_n (by decide +kernel : decode (bOf 50) 19 = .ok (.iload_n 2, 1)) rfl
theorem x_50_20 : Ev d 50 20 L [b0, s0] μ Q = Call d 75 [b0] μ (fun v μ1 => Ev d 50 23 L (v.toList ++ [s0]) μ1 Q) := e_callS (a := [b0]) (r := [s0]) (by decide +kernel : decode (bOf 50) 20 = .ok (.invokestatic 105, 3)) (by decide +kernel) (by decide +kernel) (by omega) rfl (by simp)
theorem x_50_23 : Ev d 50 23 L [b1, b0] μ Q = Call d 1 [b0, b1] μ (fun v μ1 => Ev d 50 26 L (v.toList ++ []) μ1 Q) := e_callS (a := [b0, b1]) (r := []) (by decide +kernel : decode (bOf 50) 23 = .ok (.invokestatic 108, 3)) (by decide +kernel) (by decide +kernel) (by omega) rfl (by simp)
theorem x_50_26 : Ev d 50 26 L [.int x] μ Q = Q (some (.int x)) μ := e_iret (by decide +kernel : decode (bOf 50) 26 = .ok (.ireturn, 1)) (by decide +kernel)
theorem c_51 : Call (d + 1) 51 [.ref r0, .int i1] μ Q = Ev d 51 0 [.ref r0, .int i1] [] μ Q := call_ev rfl rfl
theorem x_51_0 : Ev d 51 0 (.ref r :: L) st μ Q = Ev d 51 1 (.ref r :: L) (.ref r :: st) μ Q := e_aload_n (by decide +kernel : decode (bOf 51) 0 = .ok (.aload_n 0, 1)) rfl
theorem x_51_1 (h : kd t r = 4) : Ev d 51 1 L (.ref r :: st) (t, V, A, P) Q = Ev d 51 4 L (V r 0 :: st) (t, V, A, P) Q := e_getf (by decide +kernel : decode (bOf 51) 1 = .ok (.getfield 12, 3)) (by decide +kernel) (by decide +kernel) h
theorem x_51_4 : Ev d 51 4 (a0 :: .int x :: L) st μ Q = Ev d 51 5 (a0 :: .int x :: L) (.int x :: st) μ Q := e_iload_n (by decide +kernel : decode (bOf 51) 4 = .ok (.iload_n 1, 1)) rfl
theorem x_51_5 (h : kd t r = 3) : Ev d 51 5 L [b0, .ref r] (t, V, A, P) Q = Call d 34 [.ref r, b0] (t, V, A, P) (fun v μ1 => Ev d 51 8 L (v.toList ++ []) μ1 Q) := e_callV (a := [b0]) (r := []) (by decide +kernel : decode (bOf 51) 5 = .ok (.invokevirtual 79, 3)) (by decide +kernel) (by decide +kernel) (by decide +kernel) (by omega) rfl (by simp) (by decide +kernel) h
theorem x_51_8 : Ev d 51 8 L (.int x :: st) μ Q = if x = iI 0 then Ev d 51 22 L st μ Q else Ev d 51 11 L st μ Q := e_if_eq (by decide +kernel : decode (bOf 51) 8 = .ok (.ifCond .eq 14, 3)) (by omega)
theorem x_51_11 : Ev d 51 11 (.ref r :: L) st μ Q = Ev d 51 12 (.ref r :: L) (.ref r :: st) μ Q := e_aload_n (by decide +kernel : decode (bOf 51) 11 = .ok (.aload_n 0, 1)) rfl
theorem x_51_12 (h : kd t r = 4) : Ev d 51 12 L (.ref r :: st) (t, V, A, P) Q = Ev d 51 15 L (V r 0 :: st) (t, V, A, P) Q := e_getf (by decide +kernel : decode (bOf 51) 12 = .ok (.getfield 12, 3)) (by decide +kernel) (by decide +kernel) h
theorem x_51_15 : Ev d 51 15 (a0 :: .int x :: L) st μ Q = Ev d 51 16 (a0 :: .int x :: L) (.int x :: st) μ Q := e_iload_n (by decide +kernel : decode (bOf 51) 15 = .ok (.iload_n 1, 1)) rfl
theorem x_51_16 (h : kd t r = 3) : Ev d 51 16 L [b0, .ref r] (t, V, A, P) Q = Call d 35 [.ref r, b0] (t, V, A, P) (fun v μ1 => Ev d 51 19 L (v.toList ++ []) μ1 Q) := e_callV (a := [b0]) (r := []) (by decide +kernel : decode (bOf 51) 16 = .ok (.invokevirtual 87, 3)) (by decide +kernel) (by decide +kernel) (by decide +kernel) (by omega) rfl (by simp) (by decide +kernel) h
theorem x_51_19 : Ev d 51 19 L st μ Q = Ev d 51 23 L st μ Q := e_goto (by decide +kernel : decode (bOf 51) 19 = .ok (.goto 4, 3)) (by omega)
theorem x_51_22 : Ev d 51 22 L st μ Q = Ev d 51 23 L (.int (iI (-1)) :: st) μ Q := e_iconst (by decide +kernel : decode (bOf 51) 22 = .ok (.iconst (-1), 1))
theorem x_51_23 : Ev d 51 23 L [.int x] μ Q = Q (some (.int x)) μ := e_iret (by decide +kernel : decode (bOf 51) 23 = .ok (.ireturn, 1)) (by decide +kernel)
theorem c_52 : Call (d + 1) 52 [.ref r0, .int i1] μ Q = Ev d 52 0 [.ref r0, .int i1] [] μ Q := call_ev rfl rfl
theorem x_52_0 : Ev d 52 0 (a0 :: .int x :: L) st μ Q = Ev d 52 1 (a0 :: .int x :: L) (.int x :: st) μ Q := e_iload_n (by decide +kernel : decode (bOf 52) 0 = .ok (.iload_n 1, 1)) rfl
theorem x_52_1 : Ev d 52 1 L (.int x :: st) μ Q = if x < iI 0 then Ev d 52 21 L st μ Q else Ev d 52 4 L st μ Q := e_if_lt (by decide +kernel : decode (bOf 52) 1 = .ok (.ifCond .lt 20, 3)) (by omega)
theorem x_52_4 : Ev d 52 4 (a0 :: .int x :: L) st μ Q = Ev d 52 5 (a0 :: .int x :: L) (.int x :: st) μ Q := e_iload_n (by decide +kernel : decode (bOf 52) 4 = .ok (.iload_n 1, 1)) rfl
theorem x_52_5 : Ev d 52 5 (.ref r :: L) st μ Q = Ev d 52 6 (.ref r :: L) (.ref r :: st) μ Q := e_aload_n (by decide +kernel : decode (bOf 52) 5 = .ok (.aload_n 0, 1)) rfl
theorem x_52_6 (h : kd t r = 4) : Ev d 52 6 L (.ref r :: st) (t, V, A, P) Q = Ev d 52 9 L (V r 0 :: st) (t, V, A, P) Q := e_getf (by decide +kernel : decode (bOf 52) 6 = .ok (.getfield 12, 3)) (by decide +kernel) (by decide +kernel) h
theorem x_52_9 (h : kd t r = 3) : Ev d 52 9 L (.ref r :: st) (t, V, A, P) Q = Ev d 52 12 L (V r 3 :: st) (t, V, A, P) Q := e_getf (by decide +kernel : decode (bOf 52) 9 = .ok (.getfield 63, 3)) (by decide +kernel) (by decide +kernel) h
theorem x_52_12 : Ev d 52 12 L (.int y :: .int x :: st) μ Q = if x < y then Ev d 52 15 L st μ Q else Ev d 52 21 L st μ Q := e_icmp_ge (by decide +kernel : decode (bOf 52) 12 = .ok (.if_icmp .ge 9, 3)) (by omega)
theorem x_52_15 : Ev d 52 15 (a0 :: .int x :: L) st μ Q = Ev d 52 16 (a0 :: .int x :: L) (.int x :: st) μ Q := e_iload_n (by decide +kernel : decode (bOf 52) 15 = .ok (.iload_n 1, 1)) rfl
theorem x_52_16 : Ev d 52 16 L st μ Q = Ev d 52 18 L (.int (iI 32) :: st) μ Q := e_bipush (by decide +kernel : decode (bOf 52) 16 = .ok (.bipush 32, 2)) (by decide +kernel)
theorem x_52_18 : Ev d 52 18 L (.int y :: .int x :: st) μ Q = if x < y then Ev d 52 23 L st μ Q else Ev d 52 21 L st μ Q := e_icmp_lt (by decide +kernel : decode (bOf 52) 18 = .ok (.if_icmp .lt 5, 3)) (by omega)
theorem x_52_21 : Ev d 52 21 L st μ Q = Ev d 52 22 L (.int (iI (-1)) :: st) μ Q := e_iconst (by decide +kernel : decode (bOf 52) 21 = .ok (.iconst (-1), 1))
theorem x_52_22 : Ev d 52 22 L [.int x] μ Q = Q (some (.int x)) μ := e_iret (by decide +kernel : decode (bOf 52) 22 = .ok (.ireturn, 1)) (by decide +kernel)
theorem x_52_23 : Ev d 52 23 (.ref r :: L) st μ Q = Ev d 52 24 (.ref r :: L) (.ref r :: st) μ Q := e_aload_n (by decide +kernel : decode (bOf 52) 23 = .ok (.aload_n 0, 1)) rfl
theorem x_52_24 (h : kd t r = 4) : Ev d 52 24 L (.ref r :: st) (t, V, A, P) Q = Ev d 52 27 L (V r 0 :: st) (t, V, A, P) Q := e_getf (by decide +kernel : decode (bOf 52) 24 = .ok (.getfield 12, 3)) (by decide +kernel) (by decide +kernel) h
theorem x_52_27 (h : kd t r = 3) : Ev d 52 27 L (.ref r :: st) (t, V, A, P) Q = Ev d 52 30 L (V r 0 :: st) (t, V, A, P) Q := e_getf (by decide +kernel : decode (bOf 52) 27 = .ok (.getfield 112, 3)) (by decide +kernel) (by decide +kernel) h
theorem x_52_30 : Ev d 52 30 (a0 :: .int x :: L) st μ Q = Ev d 52 31 (a0 :: .int x :: L) (.int x :: st) μ Q := e_iload_n (by decide +kernel : decode (bOf 52) 30 = .ok (.iload_n 1, 1)) rfl
theorem x_52_31 (h : kd t r = 6) (hi : inB x (ln t r) = true) : Ev d 52 31 L (.int x :: .ref r :: st) (t, V, A, P) Q = Ev d 52 32 L (.int (A r x.toNatClampNeg) :: st) (t, V, A, P) Q := e_iald (by decide +kernel : decode (bOf 52) 31 = .ok (.iaload, 1)) h hi
theorem x_52_32 : Ev d 52 32 L [.int x] μ Q = Q (some (.int x)) μ := e_iret (by decide +kernel : decode (bOf 52) 32 = .ok (.ireturn, 1)) (by decide +kernel)
theorem c_53 : Call (d + 1) 53 [.ref r0, .int i1] μ Q = Ev d 53 0 [.ref r0, .int i1] [] μ Q := call_ev rfl rfl
theorem x_53_0 : Ev d 53 0 (a0 :: .int x :: L) st μ Q = Ev d 53 1 (a0 :: .int x :: L) (.int x :: st) μ Q := e_iload_n (by decide +kernel : decode (bOf 53) 0 = .ok (.iload_n 1, 1)) rfl
theorem x_53_1 : Ev d 53 1 L (.int x :: st) μ Q = if x < iI 0 then Ev d 53 4 L st μ Q else Ev d 53 6 L st μ Q := e_if_ge (by decide +kernel : decode (bOf 53) 1 = .ok (.ifCond .ge 5, 3)) (by omega)
theorem x_53_4 : Ev d 53 4 L st μ Q = Ev d 53 5 L (.int (iI (-1)) :: st) μ Q := e_iconst (by decide +kernel : decode (bOf 53) 4 = .ok (.iconst (-1), 1))
theorem x_53_5 : Ev d 53 5 L [.int x] μ Q = Q (some (.int x)) μ := e_iret (by decide +kernel : decode (bOf 53) 5 = .ok (.ireturn, 1)) (by decide +kernel)
theorem x_53_6 : Ev d 53 6 (.ref r :: L) st μ Q = Ev d 53 7 (.ref r :: L) (.ref r :: st) μ Q := e_aload_n (by decide +kernel : decode (bOf 53) 6 = .ok (.aload_n 0, 1)) rfl
theorem x_53_7 (h : kd t r = 4) : Ev d 53 7 L (.ref r :: st) (t, V, A, P) Q = Ev d 53 10 L (V r 0 :: st) (t, V, A, P) Q := e_getf (by decide +kernel : decode (bOf 53) 7 = .ok (.getfield 12, 3)) (by decide +kernel) (by decide +kernel) h
theorem x_53_10 : Ev d 53 10 (a0 :: .int x :: L) st μ Q = Ev d 53 11 (a0 :: .int x :: L) (.int x :: st) μ Q := e_iload_n (by decide +kernel : decode (bOf 53) 10 = .ok (.iload_n 1, 1)) rfl
theorem x_53_11 (h : kd t r = 3) : Ev d 53 11 L [b0, .ref r] (t, V, A, P) Q = Call d 32 [.ref r, b0] (t, V, A, P) (fun v μ1 => Ev d 53 14 L (v.toList ++ []) μ1 Q) := e_callV (a := [b0]) (r := []) (by decide +kernel : decode (bOf 53) 11 = .ok (.invokevirtual 115, 3)) (by decide +kernel) (by decide +kernel) (by decide +kernel) (by omega) rfl (by simp) (by decide +kernel) h
theorem x_53_14 : Ev d 53 14 L [.int x] μ Q = Q (some (.int x)) μ := e_iret (by decide +kernel : decode (bOf 53) 14 = .ok (.ireturn, 1)) (by decide +kernel)
theorem c_54 : Call (d + 1) 54 [.ref r0, .int i1, .int i2, .int i3, .int i4] μ Q = Ev d 54 0 [.ref r0, .int i1, .int i2, .int i3, .int i4, .null] [] μ Q := call_ev rfl rfl
theorem x_54_0 : Ev d 54 0 (a0 :: .int x :: L) st μ Q = Ev d 54 1 (a0 :: .int x :: L) (.int x :: st) μ Q := e_iload_n (by decide +kernel : decode (bOf 54) 0 = .ok (.iload_n 1, 1)) rfl
theorem x_54_1 : Ev d 54 1 (a0 :: a1 :: .int x :: L) st μ Q = Ev d 54 2 (a0 :: a1 :: .int x :: L) (.int x :: st) μ Q := e_iload_n (by decide +kernel : decode (bOf 54) 1 = .ok (.iload_n 2, 1)) rfl
theorem x_54_2 : Ev d 54 2 L [b1, b0] μ Q = Call d 74 [b0, b1] μ (fun v μ1 => Ev d 54 5 L (v.toList ++ []) μ1 Q) := e_callS (a := [b0, b1]) (r := []) (by decide +kernel : decode (bOf 54) 2 = .ok (.invokestatic 118, 3)) (by decide +kernel) (by decide +kernel) (by omega) rfl (by simp)
theorem x_54_5 : Ev d 54 5 L (.int x :: st) μ Q = if x = iI 0 then Ev d 54 23 L st μ Q else Ev d 54 8 L st μ Q := e_if_eq (by decide +kernel : decode (bOf 54) 5 = .ok (.ifCond .eq 18, 3)) (by omega)
theorem x_54_8 : Ev d 54 8 (a0 :: a1 :: a2 :: .int x :: L) st μ Q = Ev d 54 9 (a0 :: a1 :: a2 :: .int x :: L) (.int x :: st) μ Q := e_iload_n (by decide +kernel : decode (bOf 54) 8 = .ok (.iload_n 3, 1)) rfl
theorem x_54_9 : Ev d 54 9 L (.int x :: st) μ Q = if x < iI 0 then Ev d 54 23 L st μ Q else Ev d 54 12 L st μ Q := e_if_lt (by decide +kernel : decode (bOf 54) 9 = .ok (.ifCond .lt 14, 3)) (by omega)
theorem x_54_12 : Ev d 54 12 (a0 :: a1 :: a2 :: a3 :: .int x :: L) st μ Q = Ev d 54 14 (a0 :: a1 :: a2 :: a3 :: .int x :: L) (.int x :: st) μ Q := e_iload (by decide +kernel : decode (bOf 54) 12 = .ok (.iload 4, 2)) rfl
theorem x_54_14 : Ev d 54 14 L (.int x :: st) μ Q = if x < iI 0 then Ev d 54 23 L st μ Q else Ev d 54 17 L st μ Q := e_if_lt (by decide +kernel : decode (bOf 54) 14 = .ok (.ifCond .lt 9, 3)) (by omega)
theorem x_54_17 : Ev d 54 17 (a0 :: a1 :: a2 :: a3 :: .int x :: L) st μ Q = Ev d 54 19 (a0 :: a1 :: a2 :: a3 :: .int x :: L) (.int x :: st) μ Q := e_iload (by decide +kernel : decode (bOf 54) 17 = .ok (.iload 4, 2)) rfl
theorem x_54_19 : Ev d 54 19 L st μ Q = Ev d 54 20 L (.int (iI 4) :: st) μ Q := e_iconst (by decide +kernel : decode (bOf 54) 19 = .ok (.iconst 4, 1))
theorem x_54_20 : Ev d 54 20 L (.int y :: .int x :: st) μ Q = if y < x then Ev d 54 23 L st μ Q else Ev d 54 25 L st μ Q := e_icmp_le (by decide +kernel : decode (bOf 54) 20 = .ok (.if_icmp .le 5, 3)) (by omega)
theorem x_54_23 : Ev d 54 23 L st μ Q = Ev d 54 24 L (.int (iI (-1)) :: st) μ Q := e_iconst (by decide +kernel : decode (bOf 54) 23 = .ok (.iconst (-1), 1))
theorem x_54_24 : Ev d 54 24 L [.int x] μ Q = Q (some (.int x)) μ := e_iret (by decide +kernel : decode (bOf 54) 24 = .ok (.ireturn, 1)) (by decide +kernel)
theorem x_54_25 : Ev d 54 25 (.ref r :: L) st μ Q = Ev d 54 26 (.ref r :: L) (.ref r :: st) μ Q := e_aload_n (by decide +kernel : decode (bOf 54) 25 = .ok (.aload_n 0, 1)) rfl
theorem x_54_26 (h : kd t r = 4) : Ev d 54 26 L (.ref r :: st) (t, V, A, P) Q = Ev d 54 29 L (V r 6 :: st) (t, V, A, P) Q := e_getf (by decide +kernel : decode (bOf 54) 26 = .ok (.getfield 37, 3)) (by decide +kernel) (by decide +kernel) h
theorem x_54_29 : Ev d 54 29 (.ref r :: L) st μ Q = Ev d 54 30 (.ref r :: L) (.ref r :: st) μ Q := e_aload_n (by decide +kernel : decode (bOf 54) 29 = .ok (.aload_n 0, 1)) rfl
theorem x_54_30 (h : kd t r = 4) : Ev d 54 30 L (.ref r :: st) (t, V, A, P) Q = Ev d 54 33 L (V r 0 :: st) (t, V, A, P) Q := e_getf (by decide +kernel : decode (bOf 54) 30 = .ok (.getfield 12, 3)) (by decide +kernel) (by decide +kernel) h
theorem x_54_33 : Ev d 54 33 (a0 :: .int x :: L) st μ Q = Ev d 54 34 (a0 :: .int x :: L) (.int x :: st) μ Q := e_iload_n (by decide +kernel : decode (bOf 54) 33 = .ok (.iload_n 1, 1)) rfl
theorem x_54_34 : Ev d 54 34 (a0 :: a1 :: .int x :: L) st μ Q = Ev d 54 35 (a0 :: a1 :: .int x :: L) (.int x :: st) μ Q := e_iload_n (by decide +kernel : decode (bOf 54) 34 = .ok (.iload_n 2, 1)) rfl
theorem x_54_35 : Ev d 54 35 L [b0, s0, s1, s2] μ Q = Call d 75 [b0] μ (fun v μ1 => Ev d 54 38 L (v.toList ++ [s0, s1, s2]) μ1 Q) := e_callS (a := [b0]) (r := [s0, s1, s2]) (by decide +kernel : decode (bOf 54) 35 = .ok (.invokestatic 105, 3)) (by decide +kernel) (by decide +kernel) (by omega) rfl (by simp)
theorem x_54_38 (h : kd t r = 1) : Ev d 54 38 L [b2, b1, b0, .ref r] (t, V, A, P) Q = Call d 12 [.ref r, b0, b1, b2] (t, V, A, P) (fun v μ1 => Ev d 54 41 L (v.toList ++ []) μ1 Q) := e_callV (a := [b0, b1, b2]) (r := []) (by decide +kernel : decode (bOf 54) 38 = .ok (.invokevirtual 122, 3)) (by decide +kernel) (by decide +kernel) (by decide +kernel) (by omega) rfl (by simp) (by decide +kernel) h
theorem x_54_41 : Ev d 54 41 (a0 :: a1 :: a2 :: .int x :: L) st μ Q = Ev d 54 42 (a0 :: a1 :: a2 :: .int x :: L) (.int x :: st) μ Q := e_iload_n (by decide +kernel : decode (bOf 54) 41 = .ok (.iload_n 3, 1)) rfl
theorem x_54_42 : Ev d 54 42 (.ref r :: L) st μ Q = Ev d 54 43 (.ref r :: L) (.ref r :: st) μ Q := e_aload_n (by decide +kernel : decode (bOf 54) 42 = .ok (.aload_n 0, 1)) rfl
theorem x_54_43 (h : kd t r = 4) : Ev d 54 43 L (.ref r :: st) (t, V, A, P) Q = Ev d 54 46 L (V r 6 :: st) (t, V, A, P) Q := e_getf (by decide +kernel : decode (bOf 54) 43 = .ok (.getfield 37, 3)) (by decide +kernel) (by decide +kernel) h
theorem x_54_46 (h : kd t r = 1) : Ev d 54 46 L (.ref r :: st) (t, V, A, P) Q = Ev d 54 49 L (V r 5 :: st) (t, V, A, P) Q := e_getf (by decide +kernel : decode (bOf 54) 46 = .ok (.getfield 126, 3)) (by decide +kernel) (by decide +kernel) h
theorem x_54_49 : Ev d 54 49 L (.int y :: .int x :: st) μ Q = if x < y then Ev d 54 55 L st μ Q else Ev d 54 52 L st μ Q := e_icmp_lt (by decide +kernel : decode (bOf 54) 49 = .ok (.if_icmp .lt 6, 3)) (by omega)
theorem x_54_52 : Ev d 54 52 L st μ Q = Ev d 54 54 L (.int (iI (-9)) :: st) μ Q := e_bipush (by decide +kernel : decode (bOf 54) 52 = .ok (.bipush (-9), 2)) (by decide +kernel)
theorem x_54_54 : Ev d 54 54 L [.int x] μ Q = Q (some (.int x)) μ := e_iret (by decide +kernel : decode (bOf 54) 54 = .ok (.ireturn, 1)) (by decide +kernel)
theorem x_54_55 : Ev d 54 55 (.ref r :: L) st μ Q = Ev d 54 56 (.ref r :: L) (.ref r :: st) μ Q := e_aload_n (by decide +kernel : decode (bOf 54) 55 = .ok (.aload_n 0, 1)) rfl
theorem x_54_56 (h : kd t r = 4) : Ev d 54 56 L (.ref r :: st) (t, V, A, P) Q = Ev d 54 59 L (V r 6 :: st) (t, V, A, P) Q := e_getf (by decide +kernel : decode (bOf 54) 56 = .ok (.getfield 37, 3)) (by decide +kernel) (by decide +kernel) h
theorem x_54_59 : Ev d 54 59 (a0 :: a1 :: a2 :: .int x :: L) st μ Q = Ev d 54 60 (a0 :: a1 :: a2 :: .int x :: L) (.int x :: st) μ Q := e_iload_n (by decide +kernel : decode (bOf 54) 59 = .ok (.iload_n 3, 1)) rfl
theorem x_54_60 (h : kd t r = 1) : Ev d 54 60 L [b0, .ref r] (t, V, A, P) Q = Call d 13 [.ref r, b0] (t, V, A, P) (fun v μ1 => Ev d 54 63 L (v.toList ++ []) μ1 Q) := e_callV (a := [b0]) (r := []) (by decide +kernel : decode (bOf 54) 60 = .ok (.invokevirtual 129, 3)) (by decide +kernel) (by decide +kernel) (by decide +kernel) (by omega) rfl (by simp) (by decide +kernel) h
theorem x_54_63 (h : a4.category = 1) : Ev d 54 63 (a0 :: a1 :: a2 :: a3 :: a4 :: a5 :: L) (.int x :: st) μ Q = Ev d 54 65 (a0 :: a1 :: a2 :: a3 :: a4 :: .int x :: L) st μ Q := e_istore (by decide +kernel : decode (bOf 54) 63 = .ok (.istore 5, 2)) (by show stOK _ 5 = true; simp [stOK, h])
theorem x_54_65 : Ev d 54 65 (a0 :: a1 :: a2 :: a3 :: .int x :: L) st μ Q = Ev d 54 67 (a0 :: a1 :: a2 :: a3 :: .int x :: L) (.int x :: st) μ Q := e_iload (by decide +kernel : decode (bOf 54) 65 = .ok (.iload 4, 2)) rfl
theorem x_54_67 : Ev d 54 67 L (.int x :: st) μ Q = if x = iI 0 then Ev d 54 96 L st μ Q else if x = iI 1 then Ev d 54 99 L st μ Q else if x = iI 2 then Ev d 54 105 L st μ Q else if x = iI 3 then Ev d 54 127 L st μ Q else Ev d 54 136 L st μ Q := by
  have hd : decode (bOf 54) 67 = .ok (.tableswitch 69 0 3 #[29, 32, 38, 60], 29) := by decide +kernel
  by_cases h0 : x = iI 0
  · rw [if_pos h0]; exact e_sw hd (sw_in (off := 29) h0 (by omega) (by omega) (by omega) rfl (by omega))
  rw [if_neg h0]
  by_cases h1 : x = iI 1
  · rw [if_pos h1]; exact e_sw hd (sw_in (off := 32) h1 (by omega) (by omega) (by omega) rfl (by omega))
  rw [if_neg h1]
  by_cases h2 : x = iI 2
  · rw [if_pos h2]; exact e_sw hd (sw_in (off := 38) h2 (by omega) (by omega) (by omega) rfl (by omega))
  rw [if_neg h2]
  by_cases h3 : x = iI 3
  · rw [if_pos h3]; exact e_sw hd (sw_in (off := 60) h3 (by omega) (by omega) (by omega) rfl (by omega))
  rw [if_neg h3]
  have g0 := ne_toInt h0
  have g1 := ne_toInt h1
  have g2 := ne_toInt h2
  have g3 := ne_toInt h3
  exact e_sw hd (sw_out (by omega) (by omega))
theorem x_54_96 : Ev d 54 96 (a0 :: a1 :: a2 :: a3 :: a4 :: .int x :: L) st μ Q = Ev d 54 98 (a0 :: a1 :: a2 :: a3 :: a4 :: .int x :: L) (.int x :: st) μ Q := e_iload (by decide +kernel : decode (bOf 54) 96 = .ok (.iload 5, 2)) rfl
theorem x_54_98 : Ev d 54 98 L [.int x] μ Q = Q (some (.int x)) μ := e_iret (by decide +kernel : decode (bOf 54) 98 = .ok (.ireturn, 1)) (by decide +kernel)
theorem x_54_99 : Ev d 54 99 (a0 :: a1 :: a2 :: a3 :: a4 :: .int x :: L) st μ Q = Ev d 54 101 (a0 :: a1 :: a2 :: a3 :: a4 :: .int x :: L) (.int x :: st) μ Q := e_iload (by decide +kernel : decode (bOf 54) 99 = .ok (.iload 5, 2)) rfl
theorem x_54_101 : Ev d 54 101 L [b0] μ Q = Call d 2 [b0] μ (fun v μ1 => Ev d 54 104 L (v.toList ++ []) μ1 Q) := e_callS (a := [b0]) (r := []) (by decide +kernel : decode (bOf 54) 101 = .ok (.invokestatic 132, 3)) (by decide +kernel) (by decide +kernel) (by omega) rfl (by simp)
theorem x_54_104 : Ev d 54 104 L [.int x] μ Q = Q (some (.int x)) μ := e_iret (by decide +kernel : decode (bOf 54) 104 = .ok (.ireturn, 1)) (by decide +kernel)
theorem x_54_105 : Ev d 54 105 (a0 :: a1 :: a2 :: a3 :: a4 :: .int x :: L) st μ Q = Ev d 54 107 (a0 :: a1 :: a2 :: a3 :: a4 :: .int x :: L) (.int x :: st) μ Q := e_iload (by decide +kernel : decode (bOf 54) 105 = .ok (.iload 5, 2)) rfl
theorem x_54_107 : Ev d 54 107 (.ref r :: L) st μ Q = Ev d 54 108 (.ref r :: L) (.ref r :: st) μ Q := e_aload_n (by decide +kernel : decode (bOf 54) 107 = .ok (.aload_n 0, 1)) rfl
theorem x_54_108 (h : kd t r = 4) : Ev d 54 108 L (.ref r :: st) (t, V, A, P) Q = Ev d 54 111 L (V r 6 :: st) (t, V, A, P) Q := e_getf (by decide +kernel : decode (bOf 54) 108 = .ok (.getfield 37, 3)) (by decide +kernel) (by decide +kernel) h
theorem x_54_111 : Ev d 54 111 (a0 :: a1 :: a2 :: .int x :: L) st μ Q = Ev d 54 112 (a0 :: a1 :: a2 :: .int x :: L) (.int x :: st) μ Q := e_iload_n (by decide +kernel : decode (bOf 54) 111 = .ok (.iload_n 3, 1)) rfl
theorem x_54_112 (h : kd t r = 1) : Ev d 54 112 L [b0, .ref r, s0] (t, V, A, P) Q = Call d 14 [.ref r, b0] (t, V, A, P) (fun v μ1 => Ev d 54 115 L (v.toList ++ [s0]) μ1 Q) := e_callV (a := [b0]) (r := [s0]) (by decide +kernel : decode (bOf 54) 112 = .ok (.invokevirtual 135, 3)) (by decide +kernel) (by decide +kernel) (by decide +kernel) (by omega) rfl (by simp) (by decide +kernel) h
theorem x_54_115 : Ev d 54 115 L [b1, b0] μ Q = Call d 3 [b0, b1] μ (fun v μ1 => Ev d 54 118 L (v.toList ++ []) μ1 Q) := e_callS (a := [b0, b1]) (r := []) (by decide +kernel : decode (bOf 54) 115 = .ok (.invokestatic 138, 3)) (by decide +kernel) (by decide +kernel) (by omega) rfl (by simp)
theorem x_54_118 : Ev d 54 118 L (.int x :: st) μ Q = if x = iI 0 then Ev d 54 125 L st μ Q else Ev d 54 121 L st μ Q := e_if_eq (by decide +kernel : decode (bOf 54) 118 = .ok (.ifCond .eq 7, 3)) (by omega)
theorem x_54_121 : Ev d 54 121 L st μ Q = Ev d 54 122 L (.int (iI 1) :: st) μ Q := e_iconst (by decide +kernel : decode (bOf 54) 121 = .ok (.iconst 1, 1))
theorem x_54_122 : Ev d 54 122 L st μ Q = Ev d 54 126 L st μ Q := e_goto (by decide +kernel : decode (bOf 54) 122 = .ok (.goto 4, 3)) (by omega)
theorem x_54_125 : Ev d 54 125 L st μ Q = Ev d 54 126 L (.int (iI 0) :: st) μ Q := e_iconst (by decide +kernel : decode (bOf 54) 125 = .ok (.iconst 0, 1))
theorem x_54_126 : Ev d 54 126 L [.int x] μ Q = Q (some (.int x)) μ := e_iret (by decide +kernel : decode (bOf 54) 126 = .ok (.ireturn, 1)) (by decide +kernel)
theorem x_54_127 : Ev d 54 127 (.ref r :: L) st μ Q = Ev d 54 128 (.ref r :: L) (.ref r :: st) μ Q := e_aload_n (by decide +kernel : decode (bOf 54) 127 = .ok (.aload_n 0, 1)) rfl
theorem x_54_128 (h : kd t r = 4) : Ev d 54 128 L (.ref r :: st) (t, V, A, P) Q = Ev d 54 131 L (V r 6 :: st) (t, V, A, P) Q := e_getf (by decide +kernel : decode (bOf 54) 128 = .ok (.getfield 37, 3)) (by decide +kernel) (by decide +kernel) h
theorem x_54_131 : Ev d 54 131 (a0 :: a1 :: a2 :: .int x :: L) st μ Q = Ev d 54 132 (a0 :: a1 :: a2 :: .int x :: L) (.int x :: st) μ Q := e_iload_n (by decide +kernel : decode (bOf 54) 131 = .ok (.iload_n 3, 1)) rfl
theorem x_54_132 (h : kd t r = 1) : Ev d 54 132 L [b0, .ref r] (t, V, A, P) Q = Call d 16 [.ref r, b0] (t, V, A, P) (fun v μ1 => Ev d 54 135 L (v.toList ++ []) μ1 Q) := e_callV (a := [b0]) (r := []) (by decide +kernel : decode (bOf 54) 132 = .ok (.invokevirtual 141, 3)) (by decide +kernel) (by decide +kernel) (by decide +kernel) (by omega) rfl (by simp) (by decide +kernel) h
theorem x_54_135 : Ev d 54 135 L [.int x] μ Q = Q (some (.int x)) μ := e_iret (by decide +kernel : decode (bOf 54) 135 = .ok (.ireturn, 1)) (by decide +kernel)
theorem x_54_136 : Ev d 54 136 (.ref r :: L) st μ Q = Ev d 54 137 (.ref r :: L) (.ref r :: st) μ Q := e_aload_n (by decide +kernel : decode (bOf 54) 136 = .ok (.aload_n 0, 1)) rfl
theorem x_54_137 (h : kd t r = 4) : Ev d 54 137 L (.ref r :: st) (t, V, A, P) Q = Ev d 54 140 L (V r 6 :: st) (t, V, A, P) Q := e_getf (by decide +kernel : decode (bOf 54) 137 = .ok (.getfield 37, 3)) (by decide +kernel) (by decide +kernel) h
theorem x_54_140 : Ev d 54 140 (a0 :: a1 :: a2 :: .int x :: L) st μ Q = Ev d 54 141 (a0 :: a1 :: a2 :: .int x :: L) (.int x :: st) μ Q := e_iload_n (by decide +kernel : decode (bOf 54) 140 = .ok (.iload_n 3, 1)) rfl
theorem x_54_141 (h : kd t r = 1) : Ev d 54 141 L [b0, .ref r] (t, V, A, P) Q = Call d 15 [.ref r, b0] (t, V, A, P) (fun v μ1 => Ev d 54 144 L (v.toList ++ []) μ1 Q) := e_callV (a := [b0]) (r := []) (by decide +kernel : decode (bOf 54) 141 = .ok (.invokevirtual 144, 3)) (by decide +kernel) (by decide +kernel) (by decide +kernel) (by omega) rfl (by simp) (by decide +kernel) h
theorem x_54_144 : Ev d 54 144 L [b0] μ Q = Call d 76 [b0] μ (fun v μ1 => Ev d 54 147 L (v.toList ++ []) μ1 Q) := e_callS (a := [b0]) (r := []) (by decide +kernel : decode (bOf 54) 144 = .ok (.invokestatic 147, 3)) (by decide +kernel) (by decide +kernel) (by omega) rfl (by simp)
theorem x_54_147 : Ev d 54 147 L [.int x] μ Q = Q (some (.int x)) μ := e_iret (by decide +kernel : decode (bOf 54) 147 = .ok (.ireturn, 1)) (by decide +kernel)
theorem c_55 : Call (d + 1) 55 [.ref r0, .int i1, .int i2, .int i3] μ Q = Ev d 55 0 [.ref r0, .int i1, .int i2, .int i3] [] μ Q := call_ev rfl rfl
theorem x_55_0 : Ev d 55 0 (a0 :: .int x :: L) st μ Q = Ev d 55 1 (a0 :: .int x :: L) (.int x :: st) μ Q := e_iload_n (by decide +kernel : decode (bOf 55) 0 = .ok (.iload_n 1, 1)) rfl
theorem x_55_1 : Ev d 55 1 (a0 :: a1 :: .int x :: L) st μ Q = Ev d 55 2 (a0 :: a1 :: .int x :: L) (.int x :: st) μ Q := e_iload_n (by decide +kernel : decode (bOf 55) 1 = .ok (.iload_n 2, 1)) rfl
theorem x_55_2 : Ev d 55 2 L [b1, b0] μ Q = Call d 74 [b0, b1] μ (fun v μ1 => Ev d 55 5 L (v.toList ++ []) μ1 Q) := e_callS (a := [b0, b1]) (r := []) (by decide +kernel : decode (bOf 55) 2 = .ok (.invokestatic 118, 3)) (by decide +kernel) (by decide +kernel) (by omega) rfl (by simp)
theorem x_55_5 : Ev d 55 5 L (.int x :: st) μ Q = if x = iI 0 then Ev d 55 17 L st μ Q else Ev d 55 8 L st μ Q := e_if_eq (by decide +kernel : decode (bOf 55) 5 = .ok (.ifCond .eq 12, 3)) (by omega)
theorem x_55_8 : Ev d 55 8 (a0 :: a1 :: a2 :: .int x :: L) st μ Q = Ev d 55 9 (a0 :: a1 :: a2 :: .int x :: L) (.int x :: st) μ Q := e_iload_n (by decide +kernel : decode (bOf 55) 8 = .ok (.iload_n 3, 1)) rfl
theorem x_55_9 : Ev d 55 9 L (.int x :: st) μ Q = if x < iI 0 then Ev d 55 17 L st μ Q else Ev d 55 12 L st μ Q := e_if_lt (by decide +kernel : decode (bOf 55) 9 = .ok (.ifCond .lt 8, 3)) (by omega)
theorem x_55_12 : Ev d 55 12 (a0 :: a1 :: a2 :: .int x :: L) st μ Q = Ev d 55 13 (a0 :: a1 :: a2 :: .int x :: L) (.int x :: st) μ Q := e_iload_n (by decide +kernel : decode (bOf 55) 12 = .ok (.iload_n 3, 1)) rfl
theorem x_55_13 : Ev d 55 13 L st μ Q = Ev d 55 14 L (.int (iI 5) :: st) μ Q := e_iconst (by decide +kernel : decode (bOf 55) 13 = .ok (.iconst 5, 1))
theorem x_55_14 : Ev d 55 14 L (.int y :: .int x :: st) μ Q = if y < x then Ev d 55 17 L st μ Q else Ev d 55 20 L st μ Q := e_icmp_le (by decide +kernel : decode (bOf 55) 14 = .ok (.if_icmp .le 6, 3)) (by omega)
theorem x_55_17 : Ev d 55 17 L st μ Q = Ev d 55 19 L (.int (iI (-1000000)) :: st) μ Q := e_ldc (by decide +kernel : decode (bOf 55) 17 = .ok (.ldc 150, 2)) (by decide +kernel)
theorem x_55_19 : Ev d 55 19 L [.int x] μ Q = Q (some (.int x)) μ := e_iret (by decide +kernel : decode (bOf 55) 19 = .ok (.ireturn, 1)) (by decide +kernel)
theorem x_55_20 : Ev d 55 20 (.ref r :: L) st μ Q = Ev d 55 21 (.ref r :: L) (.ref r :: st) μ Q := e_aload_n (by decide +kernel : decode (bOf 55) 20 = .ok (.aload_n 0, 1)) rfl
theorem x_55_21 (h : kd t r = 4) : Ev d 55 21 L (.ref r :: st) (t, V, A, P) Q = Ev d 55 24 L (V r 6 :: st) (t, V, A, P) Q := e_getf (by decide +kernel : decode (bOf 55) 21 = .ok (.getfield 37, 3)) (by decide +kernel) (by decide +kernel) h
theorem x_55_24 : Ev d 55 24 (.ref r :: L) st μ Q = Ev d 55 25 (.ref r :: L) (.ref r :: st) μ Q := e_aload_n (by decide +kernel : decode (bOf 55) 24 = .ok (.aload_n 0, 1)) rfl
theorem x_55_25 (h : kd t r = 4) : Ev d 55 25 L (.ref r :: st) (t, V, A, P) Q = Ev d 55 28 L (V r 0 :: st) (t, V, A, P) Q := e_getf (by decide +kernel : decode (bOf 55) 25 = .ok (.getfield 12, 3)) (by decide +kernel) (by decide +kernel) h
theorem x_55_28 : Ev d 55 28 (a0 :: .int x :: L) st μ Q = Ev d 55 29 (a0 :: .int x :: L) (.int x :: st) μ Q := e_iload_n (by decide +kernel : decode (bOf 55) 28 = .ok (.iload_n 1, 1)) rfl
theorem x_55_29 : Ev d 55 29 (a0 :: a1 :: .int x :: L) st μ Q = Ev d 55 30 (a0 :: a1 :: .int x :: L) (.int x :: st) μ Q := e_iload_n (by decide +kernel : decode (bOf 55) 29 = .ok (.iload_n 2, 1)) rfl
theorem x_55_30 : Ev d 55 30 L [b0, s0, s1, s2] μ Q = Call d 75 [b0] μ (fun v μ1 => Ev d 55 33 L (v.toList ++ [s0, s1, s2]) μ1 Q) := e_callS (a := [b0]) (r := [s0, s1, s2]) (by decide +kernel : decode (bOf 55) 30 = .ok (.invokestatic 105, 3)) (by decide +kernel) (by decide +kernel) (by omega) rfl (by simp)
theorem x_55_33 (h : kd t r = 1) : Ev d 55 33 L [b2, b1, b0, .ref r] (t, V, A, P) Q = Call d 12 [.ref r, b0, b1, b2] (t, V, A, P) (fun v μ1 => Ev d 55 36 L (v.toList ++ []) μ1 Q) := e_callV (a := [b0, b1, b2]) (r := []) (by decide +kernel : decode (bOf 55) 33 = .ok (.invokevirtual 122, 3)) (by decide +kernel) (by decide +kernel) (by decide +kernel) (by omega) rfl (by simp) (by decide +kernel) h
theorem x_55_36 : Ev d 55 36 (a0 :: a1 :: a2 :: .int x :: L) st μ Q = Ev d 55 37 (a0 :: a1 :: a2 :: .int x :: L) (.int x :: st) μ Q := e_iload_n (by decide +kernel : decode (bOf 55) 36 = .ok (.iload_n 3, 1)) rfl
theorem x_55_37 : Ev d 55 37 L (.int x :: st) μ Q = if x = iI 0 then Ev d 55 40 L st μ Q else Ev d 55 48 L st μ Q := e_if_ne (by decide +kernel : decode (bOf 55) 37 = .ok (.ifCond .ne 11, 3)) (by omega)
theorem x_55_40 : Ev d 55 40 (.ref r :: L) st μ Q = Ev d 55 41 (.ref r :: L) (.ref r :: st) μ Q := e_aload_n (by decide +kernel : decode (bOf 55) 40 = .ok (.aload_n 0, 1)) rfl
theorem x_55_41 (h : kd t r = 4) : Ev d 55 41 L (.ref r :: st) (t, V, A, P) Q = Ev d 55 44 L (V r 6 :: st) (t, V, A, P) Q := e_getf (by decide +kernel : decode (bOf 55) 41 = .ok (.getfield 37, 3)) (by decide +kernel) (by decide +kernel) h
theorem x_55_44 (h : kd t r = 1) : Ev d 55 44 L (.ref r :: st) (t, V, A, P) Q = Ev d 55 47 L (V r 5 :: st) (t, V, A, P) Q := e_getf (by decide +kernel : decode (bOf 55) 44 = .ok (.getfield 126, 3)) (by decide +kernel) (by decide +kernel) h
theorem x_55_47 : Ev d 55 47 L [.int x] μ Q = Q (some (.int x)) μ := e_iret (by decide +kernel : decode (bOf 55) 47 = .ok (.ireturn, 1)) (by decide +kernel)
theorem x_55_48 : Ev d 55 48 (.ref r :: L) st μ Q = Ev d 55 49 (.ref r :: L) (.ref r :: st) μ Q := e_aload_n (by decide +kernel : decode (bOf 55) 48 = .ok (.aload_n 0, 1)) rfl
theorem x_55_49 (h : kd t r = 4) : Ev d 55 49 L (.ref r :: st) (t, V, A, P) Q = Ev d 55 52 L (V r 6 :: st) (t, V, A, P) Q := e_getf (by decide +kernel : decode (bOf 55) 49 = .ok (.getfield 37, 3)) (by decide +kernel) (by decide +kernel) h
theorem x_55_52 (h : kd t r = 1) : Ev d 55 52 L [.ref r] (t, V, A, P) Q = Call d 17 [.ref r] (t, V, A, P) (fun v μ1 => Ev d 55 55 L (v.toList ++ []) μ1 Q) := e_callV (a := []) (r := []) (by decide +kernel : decode (bOf 55) 52 = .ok (.invokevirtual 151, 3)) (by decide +kernel) (by decide +kernel) (by decide +kernel) (by omega) rfl (by simp) (by decide +kernel) h
theorem x_55_55 : Ev d 55 55 (a0 :: a1 :: a2 :: .int x :: L) st μ Q = Ev d 55 56 (a0 :: a1 :: a2 :: .int x :: L) (.int x :: st) μ Q := e_iload_n (by decide +kernel : decode (bOf 55) 55 = .ok (.iload_n 3, 1)) rfl
theorem x_55_56 : Ev d 55 56 L st μ Q = Ev d 55 57 L (.int (iI 1) :: st) μ Q := e_iconst (by decide +kernel : decode (bOf 55) 56 = .ok (.iconst 1, 1))
theorem x_55_57 : Ev d 55 57 L (.int y :: .int x :: st) μ Q = if x = y then Ev d 55 60 L st μ Q else Ev d 55 68 L st μ Q := e_icmp_ne (by decide +kernel : decode (bOf 55) 57 = .ok (.if_icmp .ne 11, 3)) (by omega)
theorem x_55_60 : Ev d 55 60 (.ref r :: L) st μ Q = Ev d 55 61 (.ref r :: L) (.ref r :: st) μ Q := e_aload_n (by decide +kernel : decode (bOf 55) 60 = .ok (.aload_n 0, 1)) rfl
theorem x_55_61 (h : kd t r = 4) : Ev d 55 61 L (.ref r :: st) (t, V, A, P) Q = Ev d 55 64 L (V r 6 :: st) (t, V, A, P) Q := e_getf (by decide +kernel : decode (bOf 55) 61 = .ok (.getfield 37, 3)) (by decide +kernel) (by decide +kernel) h
theorem x_55_64 (h : kd t r = 1) : Ev d 55 64 L (.ref r :: st) (t, V, A, P) Q = Ev d 55 67 L (V r 6 :: st) (t, V, A, P) Q := e_getf (by decide +kernel : decode (bOf 55) 64 = .ok (.getfield 154, 3)) (by decide +kernel) (by decide +kernel) h
theorem x_55_67 : Ev d 55 67 L [.int x] μ Q = Q (some (.int x)) μ := e_iret (by decide +kernel : decode (bOf 55) 67 = .ok (.ireturn, 1)) (by decide +kernel)
theorem x_55_68 : Ev d 55 68 (a0 :: a1 :: a2 :: .int x :: L) st μ Q = Ev d 55 69 (a0 :: a1 :: a2 :: .int x :: L) (.int x :: st) μ Q := e_iload_n (by decide +kernel : decode (bOf 55) 68 = .ok (.iload_n 3, 1)) rfl
theorem x_55_69 : Ev d 55 69 L st μ Q = Ev d 55 70 L (.int (iI 2) :: st) μ Q := e_iconst (by decide +kernel : decode (bOf 55) 69 = .ok (.iconst 2, 1))
theorem x_55_70 : Ev d 55 70 L (.int y :: .int x :: st) μ Q = if x = y then Ev d 55 73 L st μ Q else Ev d 55 81 L st μ Q := e_icmp_ne (by decide +kernel : decode (bOf 55) 70 = .ok (.if_icmp .ne 11, 3)) (by omega)
theorem x_55_73 : Ev d 55 73 (.ref r :: L) st μ Q = Ev d 55 74 (.ref r :: L) (.ref r :: st) μ Q := e_aload_n (by decide +kernel : decode (bOf 55) 73 = .ok (.aload_n 0, 1)) rfl
theorem x_55_74 (h : kd t r = 4) : Ev d 55 74 L (.ref r :: st) (t, V, A, P) Q = Ev d 55 77 L (V r 6 :: st) (t, V, A, P) Q := e_getf (by decide +kernel : decode (bOf 55) 74 = .ok (.getfield 37, 3)) (by decide +kernel) (by decide +kernel) h
theorem x_55_77 (h : kd t r = 1) : Ev d 55 77 L (.ref r :: st) (t, V, A, P) Q = Ev d 55 80 L (V r 7 :: st) (t, V, A, P) Q := e_getf (by decide +kernel : decode (bOf 55) 77 = .ok (.getfield 157, 3)) (by decide +kernel) (by decide +kernel) h
theorem x_55_80 : Ev d 55 80 L [.int x] μ Q = Q (some (.int x)) μ := e_iret (by decide +kernel : decode (bOf 55) 80 = .ok (.ireturn, 1)) (by decide +kernel)
theorem x_55_81 : Ev d 55 81 (.ref r :: L) st μ Q = Ev d 55 82 (.ref r :: L) (.ref r :: st) μ Q := e_aload_n (by decide +kernel : decode (bOf 55) 81 = .ok (.aload_n 0, 1)) rfl
theorem x_55_82 (h : kd t r = 4) : Ev d 55 82 L (.ref r :: st) (t, V, A, P) Q = Ev d 55 85 L (V r 6 :: st) (t, V, A, P) Q := e_getf (by decide +kernel : decode (bOf 55) 82 = .ok (.getfield 37, 3)) (by decide +kernel) (by decide +kernel) h
theorem x_55_85 (h : kd t r = 1) : Ev d 55 85 L [.ref r] (t, V, A, P) Q = Call d 18 [.ref r] (t, V, A, P) (fun v μ1 => Ev d 55 88 L (v.toList ++ []) μ1 Q) := e_callV (a := []) (r := []) (by decide +kernel : decode (bOf 55) 85 = .ok (.invokevirtual 160, 3)) (by decide +kernel) (by decide +kernel) (by decide +kernel) (by omega) rfl (by simp) (by decide +kernel) h
theorem x_55_88 : Ev d 55 88 (a0 :: a1 :: a2 :: .int x :: L) st μ Q = Ev d 55 89 (a0 :: a1 :: a2 :: .int x :: L) (.int x :: st) μ Q := e_iload_n (by decide +kernel : decode (bOf 55) 88 = .ok (.iload_n 3, 1)) rfl
theorem x_55_89 : Ev d 55 89 L st μ Q = Ev d 55 90 L (.int (iI 3) :: st) μ Q := e_iconst (by decide +kernel : decode (bOf 55) 89 = .ok (.iconst 3, 1))
theorem x_55_90 : Ev d 55 90 L (.int y :: .int x :: st) μ Q = if x = y then Ev d 55 93 L st μ Q else Ev d 55 101 L st μ Q := e_icmp_ne (by decide +kernel : decode (bOf 55) 90 = .ok (.if_icmp .ne 11, 3)) (by omega)
theorem x_55_93 : Ev d 55 93 (.ref r :: L) st μ Q = Ev d 55 94 (.ref r :: L) (.ref r :: st) μ Q := e_aload_n (by decide +kernel : decode (bOf 55) 93 = .ok (.aload_n 0, 1)) rfl
theorem x_55_94 (h : kd t r = 4) : Ev d 55 94 L (.ref r :: st) (t, V, A, P) Q = Ev d 55 97 L (V r 6 :: st) (t, V, A, P) Q := e_getf (by decide +kernel : decode (bOf 55) 94 = .ok (.getfield 37, 3)) (by decide +kernel) (by decide +kernel) h
theorem x_55_97 (h : kd t r = 1) : Ev d 55 97 L (.ref r :: st) (t, V, A, P) Q = Ev d 55 100 L (V r 8 :: st) (t, V, A, P) Q := e_getf (by decide +kernel : decode (bOf 55) 97 = .ok (.getfield 163, 3)) (by decide +kernel) (by decide +kernel) h
theorem x_55_100 : Ev d 55 100 L [.int x] μ Q = Q (some (.int x)) μ := e_iret (by decide +kernel : decode (bOf 55) 100 = .ok (.ireturn, 1)) (by decide +kernel)
theorem x_55_101 : Ev d 55 101 (a0 :: a1 :: a2 :: .int x :: L) st μ Q = Ev d 55 102 (a0 :: a1 :: a2 :: .int x :: L) (.int x :: st) μ Q := e_iload_n (by decide +kernel : decode (bOf 55) 101 = .ok (.iload_n 3, 1)) rfl
theorem x_55_102 : Ev d 55 102 L st μ Q = Ev d 55 103 L (.int (iI 4) :: st) μ Q := e_iconst (by decide +kernel : decode (bOf 55) 102 = .ok (.iconst 4, 1))
theorem x_55_103 : Ev d 55 103 L (.int y :: .int x :: st) μ Q = if x = y then Ev d 55 106 L st μ Q else Ev d 55 116 L st μ Q := e_icmp_ne (by decide +kernel : decode (bOf 55) 103 = .ok (.if_icmp .ne 13, 3)) (by omega)
theorem x_55_106 : Ev d 55 106 (.ref r :: L) st μ Q = Ev d 55 107 (.ref r :: L) (.ref r :: st) μ Q := e_aload_n (by decide +kernel : decode (bOf 55) 106 = .ok (.aload_n 0, 1)) rfl
theorem x_55_107 (h : kd t r = 4) : Ev d 55 107 L (.ref r :: st) (t, V, A, P) Q = Ev d 55 110 L (V r 6 :: st) (t, V, A, P) Q := e_getf (by decide +kernel : decode (bOf 55) 107 = .ok (.getfield 37, 3)) (by decide +kernel) (by decide +kernel) h
theorem x_55_110 (h : kd t r = 1) : Ev d 55 110 L (.ref r :: st) (t, V, A, P) Q = Ev d 55 113 L (V r 9 :: st) (t, V, A, P) Q := e_getf (by decide +kernel : decode (bOf 55) 110 = .ok (.getfield 166, 3)) (by decide +kernel) (by decide +kernel) h
theorem x_55_113 : Ev d 55 113 L st μ Q = Ev d 55 123 L st μ Q := e_goto (by decide +kernel : decode (bOf 55) 113 = .ok (.goto 10, 3)) (by omega)
theorem x_55_116 : Ev d 55 116 (.ref r :: L) st μ Q = Ev d 55 117 (.ref r :: L) (.ref r :: st) μ Q := e_aload_n (by decide +kernel : decode (bOf 55) 116 = .ok (.aload_n 0, 1)) rfl
theorem x_55_117 (h : kd t r = 4) : Ev d 55 117 L (.ref r :: st) (t, V, A, P) Q = Ev d 55 120 L (V r 6 :: st) (t, V, A, P) Q := e_getf (by decide +kernel : decode (bOf 55) 117 = .ok (.getfield 37, 3)) (by decide +kernel) (by decide +kernel) h
theorem x_55_120 (h : kd t r = 1) : Ev d 55 120 L [.ref r] (t, V, A, P) Q = Call d 20 [.ref r] (t, V, A, P) (fun v μ1 => Ev d 55 123 L (v.toList ++ []) μ1 Q) := e_callV (a := []) (r := []) (by decide +kernel : decode (bOf 55) 120 = .ok (.invokevirtual 169, 3)) (by decide +kernel) (by decide +kernel) (by decide +kernel) (by omega) rfl (by simp) (by decide +kernel) h
theorem x_55_123 : Ev d 55 123 L [.int x] μ Q = Q (some (.int x)) μ := e_iret (by decide +kernel : decode (bOf 55) 123 = .ok (.ireturn, 1)) (by decide +kernel)
theorem c_56 : Call (d + 1) 56 [.ref r0, .int i1] μ Q = Ev d 56 0 [.ref r0, .int i1, .null, .null] [] μ Q := call_ev rfl rfl
theorem x_56_0 : Ev d 56 0 (a0 :: .int x :: L) st μ Q = Ev d 56 1 (a0 :: .int x :: L) (.int x :: st) μ Q := e_iload_n (by decide +kernel : decode (bOf 56) 0 = .ok (.iload_n 1, 1)) rfl
theorem x_56_1 : Ev d 56 1 L st μ Q = Ev d 56 2 L (.int (iI (-1)) :: st) μ Q := e_iconst (by decide +kernel : decode (bOf 56) 1 = .ok (.iconst (-1), 1))
theorem x_56_2 : Ev d 56 2 L (.int y :: .int x :: st) μ Q = if x < y then Ev d 56 5 L st μ Q else Ev d 56 7 L st μ Q := e_icmp_ge (by decide +kernel : decode (bOf 56) 2 = .ok (.if_icmp .ge 5, 3)) (by omega)
theorem x_56_5 : Ev d 56 5 L st μ Q = Ev d 56 6 L (.int (iI (-1)) :: st) μ Q := e_iconst (by decide +kernel : decode (bOf 56) 5 = .ok (.iconst (-1), 1))
theorem x_56_6 : Ev d 56 6 L [.int x] μ Q = Q (some (.int x)) μ := e_iret (by decide +kernel : decode (bOf 56) 6 = .ok (.ireturn, 1)) (by decide +kernel)
theorem x_56_7 : Ev d 56 7 L st μ Q = Ev d 56 8 L (.int (iI 0) :: st) μ Q := e_iconst (by decide +kernel : decode (bOf 56) 7 = .ok (.iconst 0, 1))
theorem x_56_8 (h : a1.category = 1) : Ev d 56 8 (a0 :: a1 :: a2 :: L) (.int x :: st) μ Q = Ev d 56 9 (a0 :: a1 :: .int x :: L) st μ Q := e_istore_n (by decide +kernel : decode (bOf 56) 8 = .ok (.istore_n 2, 1)) (by show stOK _ 2 = true; simp [stOK, h])
theorem x_56_9 : Ev d 56 9 L st μ Q = Ev d 56 10 L (.int (iI 0) :: st) μ Q := e_iconst (by decide +kernel : decode (bOf 56) 9 = .ok (.iconst 0, 1))
theorem x_56_10 (h : a2.category = 1) : Ev d 56 10 (a0 :: a1 :: a2 :: a3 :: L) (.int x :: st) μ Q = Ev d 56 11 (a0 :: a1 :: a2 :: .int x :: L) st μ Q := e_istore_n (by decide +kernel : decode (bOf 56) 10 = .ok (.istore_n 3, 1)) (by show stOK _ 3 = true; simp [stOK, h])
theorem x_56_11 : Ev d 56 11 (a0 :: a1 :: a2 :: .int x :: L) st μ Q = Ev d 56 12 (a0 :: a1 :: a2 :: .int x :: L) (.int x :: st) μ Q := e_iload_n (by decide +kernel : decode (bOf 56) 11 = .ok (.iload_n 3, 1)) rfl
theorem x_56_12 : Ev d 56 12 L st μ Q = Ev d 56 14 L (.int (iI 12) :: st) μ Q := e_bipush (by decide +kernel : decode (bOf 56) 12 = .ok (.bipush 12, 2)) (by decide +kernel)
theorem x_56_14 : Ev d 56 14 L (.int y :: .int x :: st) μ Q = if x < y then Ev d 56 17 L st μ Q else Ev d 56 82 L st μ Q := e_icmp_ge (by decide +kernel : decode (bOf 56) 14 = .ok (.if_icmp .ge 68, 3)) (by omega)
theorem x_56_17 : Ev d 56 17 (.ref r :: L) st μ Q = Ev d 56 18 (.ref r :: L) (.ref r :: st) μ Q := e_aload_n (by decide +kernel : decode (bOf 56) 17 = .ok (.aload_n 0, 1)) rfl
theorem x_56_18 (h : kd t r = 4) : Ev d 56 18 L (.ref r :: st) (t, V, A, P) Q = Ev d 56 21 L (V r 6 :: st) (t, V, A, P) Q := e_getf (by decide +kernel : decode (bOf 56) 18 = .ok (.getfield 37, 3)) (by decide +kernel) (by decide +kernel) h
theorem x_56_21 : Ev d 56 21 (.ref r :: L) st μ Q = Ev d 56 22 (.ref r :: L) (.ref r :: st) μ Q := e_aload_n (by decide +kernel : decode (bOf 56) 21 = .ok (.aload_n 0, 1)) rfl
theorem x_56_22 (h : kd t r = 4) : Ev d 56 22 L (.ref r :: st) (t, V, A, P) Q = Ev d 56 25 L (V r 0 :: st) (t, V, A, P) Q := e_getf (by decide +kernel : decode (bOf 56) 22 = .ok (.getfield 12, 3)) (by decide +kernel) (by decide +kernel) h
theorem x_56_25 : Ev d 56 25 (a0 :: a1 :: a2 :: .int x :: L) st μ Q = Ev d 56 26 (a0 :: a1 :: a2 :: .int x :: L) (.int x :: st) μ Q := e_iload_n (by decide +kernel : decode (bOf 56) 25 = .ok (.iload_n 3, 1)) rfl
theorem x_56_26 : Ev d 56 26 L st μ Q = Ev d 56 27 L (.int (iI 2) :: st) μ Q := e_iconst (by decide +kernel : decode (bOf 56) 26 = .ok (.iconst 2, 1))
theorem x_56_27 (h : ¬ y = 0) : Ev d 56 27 L (.int y :: .int x :: st) μ Q = Ev d 56 28 L (.int (x / y) :: st) μ Q := e_idiv (by decide +kernel : decode (bOf 56) 27 = .ok (.idiv, 1)) h
theorem x_56_28 : Ev d 56 28 (a0 :: a1 :: a2 :: .int x :: L) st μ Q = Ev d 56 29 (a0 :: a1 :: a2 :: .int x :: L) (.int x :: st) μ Q := e_iload_n (by decide +kernel : decode (bOf 56) 28 = .ok (.iload_n 3, 1)) rfl
theorem x_56_29 : Ev d 56 29 L st μ Q = Ev d 56 30 L (.int (iI 2) :: st) μ Q := e_iconst (by decide +kernel : decode (bOf 56) 29 = .ok (.iconst 2, 1))
theorem x_56_30 (h : ¬ y = 0) : Ev d 56 30 L (.int y :: .int x :: st) μ Q = Ev d 56 31 L (.int (x - x / y * y) :: st) μ Q := e_irem (by decide +kernel : decode (bOf 56) 30 = .ok (.irem, 1)) h
theorem x_56_31 : Ev d 56 31 L [b0, s0, s1, s2] μ Q = Call d 75 [b0] μ (fun v μ1 => Ev d 56 34 L (v.toList ++ [s0, s1, s2]) μ1 Q) := e_callS (a := [b0]) (r := [s0, s1, s2]) (by decide +kernel : decode (bOf 56) 31 = .ok (.invokestatic 105, 3)) (by decide +kernel) (by decide +kernel) (by omega) rfl (by simp)
theorem x_56_34 (h : kd t r = 1) : Ev d 56 34 L [b2, b1, b0, .ref r] (t, V, A, P) Q = Call d 12 [.ref r, b0, b1, b2] (t, V, A, P) (fun v μ1 => Ev d 56 37 L (v.toList ++ []) μ1 Q) := e_callV (a := [b0, b1, b2]) (r := []) (by decide +kernel : decode (bOf 56) 34 = .ok (.invokevirtual 122, 3)) (by decide +kernel) (by decide +kernel) (by decide +kernel) (by omega) rfl (by simp) (by decide +kernel) h
theorem x_56_37 : Ev d 56 37 (.ref r :: L) st μ Q = Ev d 56 38 (.ref r :: L) (.ref r :: st) μ Q := e_aload_n (by decide +kernel : decode (bOf 56) 37 = .ok (.aload_n 0, 1)) rfl
theorem x_56_38 (h : kd t r = 4) : Ev d 56 38 L (.ref r :: st) (t, V, A, P) Q = Ev d 56 41 L (V r 6 :: st) (t, V, A, P) Q := e_getf (by decide +kernel : decode (bOf 56) 38 = .ok (.getfield 37, 3)) (by decide +kernel) (by decide +kernel) h
theorem x_56_41 (h : kd t r = 1) : Ev d 56 41 L [.ref r] (t, V, A, P) Q = Call d 17 [.ref r] (t, V, A, P) (fun v μ1 => Ev d 56 44 L (v.toList ++ []) μ1 Q) := e_callV (a := []) (r := []) (by decide +kernel : decode (bOf 56) 41 = .ok (.invokevirtual 151, 3)) (by decide +kernel) (by decide +kernel) (by decide +kernel) (by omega) rfl (by simp) (by decide +kernel) h
theorem x_56_44 : Ev d 56 44 (.ref r :: L) st μ Q = Ev d 56 45 (.ref r :: L) (.ref r :: st) μ Q := e_aload_n (by decide +kernel : decode (bOf 56) 44 = .ok (.aload_n 0, 1)) rfl
theorem x_56_45 (h : kd t r = 4) : Ev d 56 45 L (.ref r :: st) (t, V, A, P) Q = Ev d 56 48 L (V r 6 :: st) (t, V, A, P) Q := e_getf (by decide +kernel : decode (bOf 56) 45 = .ok (.getfield 37, 3)) (by decide +kernel) (by decide +kernel) h
theorem x_56_48 (h : kd t r = 1) : Ev d 56 48 L (.ref r :: st) (t, V, A, P) Q = Ev d 56 51 L (V r 5 :: st) (t, V, A, P) Q := e_getf (by decide +kernel : decode (bOf 56) 48 = .ok (.getfield 126, 3)) (by decide +kernel) (by decide +kernel) h
theorem x_56_51 : Ev d 56 51 L (.int x :: st) μ Q = if iI 0 < x then Ev d 56 54 L st μ Q else Ev d 56 76 L st μ Q := e_if_le (by decide +kernel : decode (bOf 56) 51 = .ok (.ifCond .le 25, 3)) (by omega)
theorem x_56_54 : Ev d 56 54 (.ref r :: L) st μ Q = Ev d 56 55 (.ref r :: L) (.ref r :: st) μ Q := e_aload_n (by decide +kernel : decode (bOf 56) 54 = .ok (.aload_n 0, 1)) rfl
theorem x_56_55 (h : kd t r = 4) : Ev d 56 55 L (.ref r :: st) (t, V, A, P) Q = Ev d 56 58 L (V r 6 :: st) (t, V, A, P) Q := e_getf (by decide +kernel : decode (bOf 56) 55 = .ok (.getfield 37, 3)) (by decide +kernel) (by decide +kernel) h
theorem x_56_58 (h : kd t r = 1) : Ev d 56 58 L (.ref r :: st) (t, V, A, P) Q = Ev d 56 61 L (V r 6 :: st) (t, V, A, P) Q := e_getf (by decide +kernel : decode (bOf 56) 58 = .ok (.getfield 154, 3)) (by decide +kernel) (by decide +kernel) h
theorem x_56_61 : Ev d 56 61 L st μ Q = Ev d 56 63 L (.int (iI (-9)) :: st) μ Q := e_bipush (by decide +kernel : decode (bOf 56) 61 = .ok (.bipush (-9), 2)) (by decide +kernel)
theorem x_56_63 : Ev d 56 63 L (.int y :: .int x :: st) μ Q = if x = y then Ev d 56 66 L st μ Q else Ev d 56 76 L st μ Q := e_icmp_ne (by decide +kernel : decode (bOf 56) 63 = .ok (.if_icmp .ne 13, 3)) (by omega)
theorem x_56_66 : Ev d 56 66 (a0 :: a1 :: .int x :: L) st μ Q = Ev d 56 67 (a0 :: a1 :: .int x :: L) (.int x :: st) μ Q := e_iload_n (by decide +kernel : decode (bOf 56) 66 = .ok (.iload_n 2, 1)) rfl
theorem x_56_67 : Ev d 56 67 (a0 :: .int x :: L) st μ Q = Ev d 56 68 (a0 :: .int x :: L) (.int x :: st) μ Q := e_iload_n (by decide +kernel : decode (bOf 56) 67 = .ok (.iload_n 1, 1)) rfl
theorem x_56_68 : Ev d 56 68 L (.int y :: .int x :: st) μ Q = if x = y then Ev d 56 71 L st μ Q else Ev d 56 73 L st μ Q := e_icmp_ne (by decide +kernel : decode (bOf 56) 68 = .ok (.if_icmp .ne 5, 3)) (by omega)
theorem x_56_71 : Ev d 56 71 (a0 :: a1 :: a2 :: .int x :: L) st μ Q = Ev d 56 72 (a0 :: a1 :: a2 :: .int x :: L) (.int x :: st) μ Q := e_iload_n (by decide +kernel : decode (bOf 56) 71 = .ok (.iload_n 3, 1)) rfl
theorem x_56_72 : Ev d 56 72 L [.int x] μ Q = Q (some (.int x)) μ := e_iret (by decide +kernel : decode (bOf 56) 72 = .ok (.ireturn, 1)) (by decide +kernel)
theorem x_56_73 (h : a1.category = 1) : Ev d 56 73 (a0 :: a1 :: .int x :: L) st μ Q = Ev d 56 76 (a0 :: a1 :: .int (x + (iI 1)) :: L) st μ Q := e_iinc (by decide +kernel : decode (bOf 56) 73 = .ok (.iinc 2 1, 3)) rfl (by simp [stOK, h])
theorem x_56_76 (h : a2.category = 1) : Ev d 56 76 (a0 :: a1 :: a2 :: .int x :: L) st μ Q = Ev d 56 79 (a0 :: a1 :: a2 :: .int (x + (iI 1)) :: L) st μ Q := e_iinc (by decide +kernel : decode (bOf 56) 76 = .ok (.iinc 3 1, 3)) rfl (by simp [stOK, h])
theorem x_56_79 : Ev d 56 79 L st μ Q = Ev d 56 11 L st μ Q := e_goto (by decide +kernel : decode (bOf 56) 79 = .ok (.goto (-68), 3)) (by omega)
theorem x_56_82 : Ev d 56 82 (a0 :: .int x :: L) st μ Q = Ev d 56 83 (a0 :: .int x :: L) (.int x :: st) μ Q := e_iload_n (by decide +kernel : decode (bOf 56) 82 = .ok (.iload_n 1, 1)) rfl
theorem x_56_83 : Ev d 56 83 L st μ Q = Ev d 56 84 L (.int (iI (-1)) :: st) μ Q := e_iconst (by decide +kernel : decode (bOf 56) 83 = .ok (.iconst (-1), 1))
theorem x_56_84 : Ev d 56 84 L (.int y :: .int x :: st) μ Q = if x = y then Ev d 56 87 L st μ Q else Ev d 56 91 L st μ Q := e_icmp_ne (by decide +kernel : decode (bOf 56) 84 = .ok (.if_icmp .ne 7, 3)) (by omega)
theorem x_56_87 : Ev d 56 87 (a0 :: a1 :: .int x :: L) st μ Q = Ev d 56 88 (a0 :: a1 :: .int x :: L) (.int x :: st) μ Q := e_iload_n (by decide +kernel : decode (bOf 56) 87 = .ok (.iload_n 2, 1)) rfl
theorem x_56_88 : Ev d 56 88 L st μ Q = Ev d 56 93 L st μ Q := e_goto (by decide +kernel : decode (bOf 56) 88 = .ok (.goto 5, 3)) (by omega)
theorem x_56_91 : Ev d 56 91 L st μ Q = Ev d 56 93 L (.int (iI (-9)) :: st) μ Q := e_bipush (by decide +kernel : decode (bOf 56) 91 = .ok (.bipush (-9), 2)) (by decide +kernel)
theorem x_56_93 : Ev d 56 93 L [.int x] μ Q = Q (some (.int x)) μ := e_iret (by decide +kernel : decode (bOf 56) 93 = .ok (.ireturn, 1)) (by decide +kernel)
theorem c_57 : Call (d + 1) 57 [.ref r0, .int i1, .int i2] μ Q = Ev d 57 0 [.ref r0, .int i1, .int i2, .null, .null, .null, .null, .null] [] μ Q := call_ev rfl rfl
theorem x_57_0 : Ev d 57 0 (a0 :: .int x :: L) st μ Q = Ev d 57 1 (a0 :: .int x :: L) (.int x :: st) μ Q := e_iload_n (by decide +kernel : decode (bOf 57) 0 = .ok (.iload_n 1, 1)) rfl
theorem x_57_1 : Ev d 57 1 L st μ Q = Ev d 57 4 L (.int (iI (-300)) :: st) μ Q := e_sipush (by decide +kernel : decode (bOf 57) 1 = .ok (.sipush (-300), 3)) (by decide +kernel)
theorem x_57_4 : Ev d 57 4 L (.int y :: .int x :: st) μ Q = if x < y then Ev d 57 23 L st μ Q else Ev d 57 7 L st μ Q := e_icmp_lt (by decide +kernel : decode (bOf 57) 4 = .ok (.if_icmp .lt 19, 3)) (by omega)
theorem x_57_7 : Ev d 57 7 (a0 :: .int x :: L) st μ Q = Ev d 57 8 (a0 :: .int x :: L) (.int x :: st) μ Q := e_iload_n (by decide +kernel : decode (bOf 57) 7 = .ok (.iload_n 1, 1)) rfl
theorem x_57_8 : Ev d 57 8 L st μ Q = Ev d 57 11 L (.int (iI 300) :: st) μ Q := e_sipush (by decide +kernel : decode (bOf 57) 8 = .ok (.sipush 300, 3)) (by decide +kernel)
theorem x_57_11 : Ev d 57 11 L (.int y :: .int x :: st) μ Q = if y < x then Ev d 57 23 L st μ Q else Ev d 57 14 L st μ Q := e_icmp_gt (by decide +kernel : decode (bOf 57) 11 = .ok (.if_icmp .gt 12, 3)) (by omega)
theorem x_57_14 : Ev d 57 14 (a0 :: a1 :: .int x :: L) st μ Q = Ev d 57 15 (a0 :: a1 :: .int x :: L) (.int x :: st) μ Q := e_iload_n (by decide +kernel : decode (bOf 57) 14 = .ok (.iload_n 2, 1)) rfl
theorem x_57_15 : Ev d 57 15 L (.int x :: st) μ Q = if x < iI 0 then Ev d 57 23 L st μ Q else Ev d 57 18 L st μ Q := e_if_lt (by decide +kernel : decode (bOf 57) 15 = .ok (.ifCond .lt 8, 3)) (by omega)
theorem x_57_18 : Ev d 57 18 (a0 :: a1 :: .int x :: L) st μ Q = Ev d 57 19 (a0 :: a1 :: .int x :: L) (.int x :: st) μ Q := e_iload_n (by decide +kernel : decode (bOf 57) 18 = .ok (.iload_n 2, 1)) rfl
theorem x_57_19 : Ev d 57 19 L st μ Q = Ev d 57 20 L (.int (iI 2) :: st) μ Q := e_iconst (by decide +kernel : decode (bOf 57) 19 = .ok (.iconst 2, 1))
theorem x_57_20 : Ev d 57 20 L (.int y :: .int x :: st) μ Q = if y < x then Ev d 57 23 L st μ Q else Ev d 57 26 L st μ Q := e_icmp_le (by decide +kernel : decode (bOf 57) 20 = .ok (.if_icmp .le 6, 3)) (by omega)
theorem x_57_23 : Ev d 57 23 L st μ Q = Ev d 57 25 L (.int (iI (-1000000)) :: st) μ Q := e_ldc (by decide +kernel : decode (bOf 57) 23 = .ok (.ldc 150, 2)) (by decide +kernel)
theorem x_57_25 : Ev d 57 25 L [.int x] μ Q = Q (some (.int x)) μ := e_iret (by decide +kernel : decode (bOf 57) 25 = .ok (.ireturn, 1)) (by decide +kernel)
theorem x_57_26 : Ev d 57 26 L st μ Q = Ev d 57 27 L (.int (iI 0) :: st) μ Q := e_iconst (by decide +kernel : decode (bOf 57) 26 = .ok (.iconst 0, 1))
theorem x_57_27 (h : a2.category = 1) : Ev d 57 27 (a0 :: a1 :: a2 :: a3 :: L) (.int x :: st) μ Q = Ev d 57 28 (a0 :: a1 :: a2 :: .int x :: L) st μ Q := e_istore_n (by decide +kernel : decode (bOf 57) 27 = .ok (.istore_n 3, 1)) (by show stOK _ 3 = true; simp [stOK, h])
theorem x_57_28 : Ev d 57 28 L st μ Q = Ev d 57 30 L (.int (iI (-2000000)) :: st) μ Q := e_ldc (by decide +kernel : decode (bOf 57) 28 = .ok (.ldc 172, 2)) (by decide +kernel)
theorem x_57_30 (h : a3.category = 1) : Ev d 57 30 (a0 :: a1 :: a2 :: a3 :: a4 :: L) (.int x :: st) μ Q = Ev d 57 32 (a0 :: a1 :: a2 :: a3 :: .int x :: L) st μ Q := e_istore (by decide +kernel : decode (bOf 57) 30 = .ok (.istore 4, 2)) (by show stOK _ 4 = true; simp [stOK, h])
theorem x_57_32 : Ev d 57 32 L st μ Q = Ev d 57 34 L (.int (iI (-2000000)) :: st) μ Q := e_ldc (by decide +kernel : decode (bOf 57) 32 = .ok (.ldc 172, 2)) (by decide +kernel)
theorem x_57_34 (h : a4.category = 1) : Ev d 57 34 (a0 :: a1 :: a2 :: a3 :: a4 :: a5 :: L) (.int x :: st) μ Q = Ev d 57 36 (a0 :: a1 :: a2 :: a3 :: a4 :: .int x :: L) st μ Q := e_istore (by decide +kernel : decode (bOf 57) 34 = .ok (.istore 5, 2)) (by show stOK _ 5 = true; simp [stOK, h])
theorem x_57_36 : Ev d 57 36 (.ref r :: L) st μ Q = Ev d 57 37 (.ref r :: L) (.ref r :: st) μ Q := e_aload_n (by decide +kernel : decode (bOf 57) 36 = .ok (.aload_n 0, 1)) rfl
theorem x_57_37 (h : kd t r = 4) : Ev d 57 37 L (.ref r :: st) (t, V, A, P) Q = Ev d 57 40 L (V r 8 :: st) (t, V, A, P) Q := e_getf (by decide +kernel : decode (bOf 57) 37 = .ok (.getfield 51, 3)) (by decide +kernel) (by decide +kernel) h
theorem x_57_40 : Ev d 57 40 L st μ Q = Ev d 57 41 L (.int (iI (-1)) :: st) μ Q := e_iconst (by decide +kernel : decode (bOf 57) 40 = .ok (.iconst (-1), 1))
theorem x_57_41 (h : kd t r = 2) : Ev d 57 41 L [b0, .ref r] (t, V, A, P) Q = Call d 22 [.ref r, b0] (t, V, A, P) (fun v μ1 => Ev d 57 44 L (v.toList ++ []) μ1 Q) := e_callV (a := [b0]) (r := []) (by decide +kernel : decode (bOf 57) 41 = .ok (.invokevirtual 173, 3)) (by decide +kernel) (by decide +kernel) (by decide +kernel) (by omega) rfl (by simp) (by decide +kernel) h
theorem x_57_44 : Ev d 57 44 L st μ Q = Ev d 57 45 L (.int (iI 0) :: st) μ Q := e_iconst (by decide +kernel : decode (bOf 57) 44 = .ok (.iconst 0, 1))
theorem x_57_45 (h : a5.category = 1) : Ev d 57 45 (a0 :: a1 :: a2 :: a3 :: a4 :: a5 :: a6 :: L) (.int x :: st) μ Q = Ev d 57 47 (a0 :: a1 :: a2 :: a3 :: a4 :: a5 :: .int x :: L) st μ Q := e_istore (by decide +kernel : decode (bOf 57) 45 = .ok (.istore 6, 2)) (by show stOK _ 6 = true; simp [stOK, h])
theorem x_57_47 : Ev d 57 47 (a0 :: a1 :: a2 :: a3 :: a4 :: a5 :: .int x :: L) st μ Q = Ev d 57 49 (a0 :: a1 :: a2 :: a3 :: a4 :: a5 :: .int x :: L) (.int x :: st) μ Q := e_iload (by decide +kernel : decode (bOf 57) 47 = .ok (.iload 6, 2)) rfl
theorem x_57_49 : Ev d 57 49 (.ref r :: L) st μ Q = Ev d 57 50 (.ref r :: L) (.ref r :: st) μ Q := e_aload_n (by decide +kernel : decode (bOf 57) 49 = .ok (.aload_n 0, 1)) rfl
theorem x_57_50 (h : kd t r = 4) : Ev d 57 50 L (.ref r :: st) (t, V, A, P) Q = Ev d 57 53 L (V r 0 :: st) (t, V, A, P) Q := e_getf (by decide +kernel : decode (bOf 57) 50 = .ok (.getfield 12, 3)) (by decide +kernel) (by decide +kernel) h
theorem x_57_53 (h : kd t r = 3) : Ev d 57 53 L [.ref r, s0] (t, V, A, P) Q = Call d 33 [.ref r] (t, V, A, P) (fun v μ1 => Ev d 57 56 L (v.toList ++ [s0]) μ1 Q) := e_callV (a := []) (r := [s0]) (by decide +kernel : decode (bOf 57) 53 = .ok (.invokevirtual 176, 3)) (by decide +kernel) (by decide +kernel) (by decide +kernel) (by omega) rfl (by simp) (by decide +kernel) h
theorem x_57_56 : Ev d 57 56 L (.int y :: .int x :: st) μ Q = if x < y then Ev d 57 59 L st μ Q else Ev d 57 153 L st μ Q := e_icmp_ge (by decide +kernel : decode (bOf 57) 56 = .ok (.if_icmp .ge 97, 3)) (by omega)
theorem x_57_59 : Ev d 57 59 (.ref r :: L) st μ Q = Ev d 57 60 (.ref r :: L) (.ref r :: st) μ Q := e_aload_n (by decide +kernel : decode (bOf 57) 59 = .ok (.aload_n 0, 1)) rfl
theorem x_57_60 (h : kd t r = 4) : Ev d 57 60 L (.ref r :: st) (t, V, A, P) Q = Ev d 57 63 L (V r 8 :: st) (t, V, A, P) Q := e_getf (by decide +kernel : decode (bOf 57) 60 = .ok (.getfield 51, 3)) (by decide +kernel) (by decide +kernel) h
theorem x_57_63 : Ev d 57 63 (.ref r :: L) st μ Q = Ev d 57 64 (.ref r :: L) (.ref r :: st) μ Q := e_aload_n (by decide +kernel : decode (bOf 57) 63 = .ok (.aload_n 0, 1)) rfl
theorem x_57_64 (h : kd t r = 4) : Ev d 57 64 L (.ref r :: st) (t, V, A, P) Q = Ev d 57 67 L (V r 0 :: st) (t, V, A, P) Q := e_getf (by decide +kernel : decode (bOf 57) 64 = .ok (.getfield 12, 3)) (by decide +kernel) (by decide +kernel) h
theorem x_57_67 : Ev d 57 67 (a0 :: a1 :: a2 :: a3 :: a4 :: a5 :: .int x :: L) st μ Q = Ev d 57 69 (a0 :: a1 :: a2 :: a3 :: a4 :: a5 :: .int x :: L) (.int x :: st) μ Q := e_iload (by decide +kernel : decode (bOf 57) 67 = .ok (.iload 6, 2)) rfl
theorem x_57_69 (h : kd t r = 3) : Ev d 57 69 L [b0, .ref r, s0] (t, V, A, P) Q = Call d 35 [.ref r, b0] (t, V, A, P) (fun v μ1 => Ev d 57 72 L (v.toList ++ [s0]) μ1 Q) := e_callV (a := [b0]) (r := [s0]) (by decide +kernel : decode (bOf 57) 69 = .ok (.invokevirtual 87, 3)) (by decide +kernel) (by decide +kernel) (by decide +kernel) (by omega) rfl (by simp) (by decide +kernel) h
theorem x_57_72 (h : kd t r = 2) : Ev d 57 72 L [b0, .ref r] (t, V, A, P) Q = Call d 24 [.ref r, b0] (t, V, A, P) (fun v μ1 => Ev d 57 75 L (v.toList ++ []) μ1 Q) := e_callV (a := [b0]) (r := []) (by decide +kernel : decode (bOf 57) 72 = .ok (.invokevirtual 179, 3)) (by decide +kernel) (by decide +kernel) (by decide +kernel) (by omega) rfl (by simp) (by decide +kernel) h
theorem x_57_75 : Ev d 57 75 (.ref r :: L) st μ Q = Ev d 57 76 (.ref r :: L) (.ref r :: st) μ Q := e_aload_n (by decide +kernel : decode (bOf 57) 75 = .ok (.aload_n 0, 1)) rfl
theorem x_57_76 (h : kd t r = 4) : Ev d 57 76 L (.ref r :: st) (t, V, A, P) Q = Ev d 57 79 L (V r 8 :: st) (t, V, A, P) Q := e_getf (by decide +kernel : decode (bOf 57) 76 = .ok (.getfield 51, 3)) (by decide +kernel) (by decide +kernel) h
theorem x_57_79 (h : kd t r = 2) : Ev d 57 79 L (.ref r :: st) (t, V, A, P) Q = Ev d 57 82 L (V r 1 :: st) (t, V, A, P) Q := e_getf (by decide +kernel : decode (bOf 57) 79 = .ok (.getfield 182, 3)) (by decide +kernel) (by decide +kernel) h
theorem x_57_82 (h : a6.category = 1) : Ev d 57 82 (a0 :: a1 :: a2 :: a3 :: a4 :: a5 :: a6 :: a7 :: L) (.int x :: st) μ Q = Ev d 57 84 (a0 :: a1 :: a2 :: a3 :: a4 :: a5 :: a6 :: .int x :: L) st μ Q := e_istore (by decide +kernel : decode (bOf 57) 82 = .ok (.istore 7, 2)) (by show stOK _ 7 = true; simp [stOK, h])
theorem x_57_84 : Ev d 57 84 (a0 :: a1 :: a2 :: a3 :: a4 :: a5 :: a6 :: .int x :: L) st μ Q = Ev d 57 86 (a0 :: a1 :: a2 :: a3 :: a4 :: a5 :: a6 :: .int x :: L) (.int x :: st) μ Q := e_iload (by decide +kernel : decode (bOf 57) 84 = .ok (.iload 7, 2)) rfl
theorem x_57_86 : Ev d 57 86 (a0 :: .int x :: L) st μ Q = Ev d 57 87 (a0 :: .int x :: L) (.int x :: st) μ Q := e_iload_n (by decide +kernel : decode (bOf 57) 86 = .ok (.iload_n 1, 1)) rfl
theorem x_57_87 : Ev d 57 87 L (.int y :: .int x :: st) μ Q = if x = y then Ev d 57 90 L st μ Q else Ev d 57 96 L st μ Q := e_icmp_ne (by decide +kernel : decode (bOf 57) 87 = .ok (.if_icmp .ne 9, 3)) (by omega)
theorem x_57_90 (h : a2.category = 1) : Ev d 57 90 (a0 :: a1 :: a2 :: .int x :: L) st μ Q = Ev d 57 93 (a0 :: a1 :: a2 :: .int (x + (iI 1)) :: L) st μ Q := e_iinc (by decide +kernel : decode (bOf 57) 90 = .ok (.iinc 3 1, 3)) rfl (by simp [stOK, h])
theorem x_57_93 : Ev d 57 93 L st μ Q = Ev d 57 147 L st μ Q := e_goto (by decide +kernel : decode (bOf 57) 93 = .ok (.goto 54, 3)) (by omega)
theorem x_57_96 : Ev d 57 96 (a0 :: a1 :: a2 :: a3 :: a4 :: a5 :: a6 :: .int x :: L) st μ Q = Ev d 57 98 (a0 :: a1 :: a2 :: a3 :: a4 :: a5 :: a6 :: .int x :: L) (.int x :: st) μ Q := e_iload (by decide +kernel : decode (bOf 57) 96 = .ok (.iload 7, 2)) rfl
theorem x_57_98 : Ev d 57 98 (a0 :: .int x :: L) st μ Q = Ev d 57 99 (a0 :: .int x :: L) (.int x :: st) μ Q := e_iload_n (by decide +kernel : decode (bOf 57) 98 = .ok (.iload_n 1, 1)) rfl
theorem x_57_99 : Ev d 57 99 L (.int y :: .int x :: st) μ Q = if y < x then Ev d 57 102 L st μ Q else Ev d 57 123 L st μ Q := e_icmp_le (by decide +kernel : decode (bOf 57) 99 = .ok (.if_icmp .le 24, 3)) (by omega)
theorem x_57_102 : Ev d 57 102 (a0 :: a1 :: a2 :: a3 :: .int x :: L) st μ Q = Ev d 57 104 (a0 :: a1 :: a2 :: a3 :: .int x :: L) (.int x :: st) μ Q := e_iload (by decide +kernel : decode (bOf 57) 102 = .ok (.iload 4, 2)) rfl
theorem x_57_104 : Ev d 57 104 L st μ Q = Ev d 57 106 L (.int (iI (-2000000)) :: st) μ Q := e_ldc (by decide +kernel : decode (bOf 57) 104 = .ok (.ldc 172, 2)) (by decide +kernel)
theorem x_57_106 : Ev d 57 106 L (.int y :: .int x :: st) μ Q = if x = y then Ev d 57 116 L st μ Q else Ev d 57 109 L st μ Q := e_icmp_eq (by decide +kernel : decode (bOf 57) 106 = .ok (.if_icmp .eq 10, 3)) (by omega)
theorem x_57_109 : Ev d 57 109 (a0 :: a1 :: a2 :: a3 :: a4 :: a5 :: a6 :: .int x :: L) st μ Q = Ev d 57 111 (a0 :: a1 :: a2 :: a3 :: a4 :: a5 :: a6 :: .int x :: L) (.int x :: st) μ Q := e_iload (by decide +kernel : decode (bOf 57) 109 = .ok (.iload 7, 2)) rfl
theorem x_57_111 : Ev d 57 111 (a0 :: a1 :: a2 :: a3 :: .int x :: L) st μ Q = Ev d 57 113 (a0 :: a1 :: a2 :: a3 :: .int x :: L) (.int x :: st) μ Q := e_iload (by decide +kernel : decode (bOf 57) 111 = .ok (.iload 4, 2)) rfl
theorem x_57_113 : Ev d 57 113 L (.int y :: .int x :: st) μ Q = if x < y then Ev d 57 116 L st μ Q else Ev d 57 123 L st μ Q := e_icmp_ge (by decide +kernel : decode (bOf 57) 113 = .ok (.if_icmp .ge 10, 3)) (by omega)
theorem x_57_116 : Ev d 57 116 (a0 :: a1 :: a2 :: a3 :: a4 :: a5 :: a6 :: .int x :: L) st μ Q = Ev d 57 118 (a0 :: a1 :: a2 :: a3 :: a4 :: a5 :: a6 :: .int x :: L) (.int x :: st) μ Q := e_iload (by decide +kernel : decode (bOf 57) 116 = .ok (.iload 7, 2)) rfl
theorem x_57_118 (h : a3.category = 1) : Ev d 57 118 (a0 :: a1 :: a2 :: a3 :: a4 :: L) (.int x :: st) μ Q = Ev d 57 120 (a0 :: a1 :: a2 :: a3 :: .int x :: L) st μ Q := e_istore (by decide +kernel : decode (bOf 57) 118 = .ok (.istore 4, 2)) (by show stOK _ 4 = true; simp [stOK, h])
theorem x_57_120 : Ev d 57 120 L st μ Q = Ev d 57 147 L st μ Q := e_goto (by decide +kernel : decode (bOf 57) 120 = .ok (.goto 27, 3)) (by omega)
theorem x_57_123 : Ev d 57 123 (a0 :: a1 :: a2 :: a3 :: a4 :: a5 :: a6 :: .int x :: L) st μ Q = Ev d 57 125 (a0 :: a1 :: a2 :: a3 :: a4 :: a5 :: a6 :: .int x :: L) (.int x :: st) μ Q := e_iload (by decide +kernel : decode (bOf 57) 123 = .ok (.iload 7, 2)) rfl
theorem x_57_125 : Ev d 57 125 (a0 :: .int x :: L) st μ Q = Ev d 57 126 (a0 :: .int x :: L) (.int x :: st) μ Q := e_iload_n (by decide +kernel : decode (bOf 57) 125 = .ok (.iload_n 1, 1)) rfl
theorem x_57_126 : Ev d 57 126 L (.int y :: .int x :: st) μ Q = if x < y then Ev d 57 129 L st μ Q else Ev d 57 147 L st μ Q := e_icmp_ge (by decide +kernel : decode (bOf 57) 126 = .ok (.if_icmp .ge 21, 3)) (by omega)
theorem x_57_129 : Ev d 57 129 (a0 :: a1 :: a2 :: a3 :: a4 :: .int x :: L) st μ Q = Ev d 57 131 (a0 :: a1 :: a2 :: a3 :: a4 :: .int x :: L) (.int x :: st) μ Q := e_iload (by decide +kernel : decode (bOf 57) 129 = .ok (.iload 5, 2)) rfl
theorem x_57_131 : Ev d 57 131 L st μ Q = Ev d 57 133 L (.int (iI (-2000000)) :: st) μ Q := e_ldc (by decide +kernel : decode (bOf 57) 131 = .ok (.ldc 172, 2)) (by decide +kernel)
theorem x_57_133 : Ev d 57 133 L (.int y :: .int x :: st) μ Q = if x = y then Ev d 57 143 L st μ Q else Ev d 57 136 L st μ Q := e_icmp_eq (by decide +kernel : decode (bOf 57) 133 = .ok (.if_icmp .eq 10, 3)) (by omega)
theorem x_57_136 : Ev d 57 136 (a0 :: a1 :: a2 :: a3 :: a4 :: a5 :: a6 :: .int x :: L) st μ Q = Ev d 57 138 (a0 :: a1 :: a2 :: a3 :: a4 :: a5 :: a6 :: .int x :: L) (.int x :: st) μ Q := e_iload (by decide +kernel : decode (bOf 57) 136 = .ok (.iload 7, 2)) rfl
theorem x_57_138 : Ev d 57 138 (a0 :: a1 :: a2 :: a3 :: a4 :: .int x :: L) st μ Q = Ev d 57 140 (a0 :: a1 :: a2 :: a3 :: a4 :: .int x :: L) (.int x :: st) μ Q := e_iload (by decide +kernel : decode (bOf 57) 138 = .ok (.iload 5, 2)) rfl
theorem x_57_140 : Ev d 57 140 L (.int y :: .int x :: st) μ Q = if y < x then Ev d 57 143 L st μ Q else Ev d 57 147 L st μ Q := e_icmp_le (by decide +kernel : decode (bOf 57) 140 = .ok (.if_icmp .le 7, 3)) (by omega)
theorem x_57_143 : Ev d 57 143 (a0 :: a1 :: a2 :: a3 :: a4 :: a5 :: a6 :: .int x :: L) st μ Q = Ev d 57 145 (a0 :: a1 :: a2 :: a3 :: a4 :: a5 :: a6 :: .int x :: L) (.int x :: st) μ Q := e_iload (by decide +kernel : decode (bOf 57) 143 = .ok (.iload 7, 2)) rfl
theorem x_57_145 (h : a4.category = 1) : Ev d 57 145 (a0 :: a1 :: a2 :: a3 :: a4 :: a5 :: L) (.int x :: st) μ Q = Ev d 57 147 (a0 :: a1 :: a2 :: a3 :: a4 :: .int x :: L) st μ Q := e_istore (by decide +kernel : decode (bOf 57) 145 = .ok (.istore 5, 2)) (by show stOK _ 5 = true; simp [stOK, h])
theorem x_57_147 (h : a5.category = 1) : Ev d 57 147 (a0 :: a1 :: a2 :: a3 :: a4 :: a5 :: .int x :: L) st μ Q = Ev d 57 150 (a0 :: a1 :: a2 :: a3 :: a4 :: a5 :: .int (x + (iI 1)) :: L) st μ Q := e_iinc (by decide +kernel : decode (bOf 57) 147 = .ok (.iinc 6 1, 3)) rfl (by simp [stOK, h])
theorem x_57_150 : Ev d 57 150 L st μ Q = Ev d 57 47 L st μ Q := e_goto (by decide +kernel : decode (bOf 57) 150 = .ok (.goto (-103), 3)) (by omega)
theorem x_57_153 : Ev d 57 153 (a0 :: a1 :: .int x :: L) st μ Q = Ev d 57 154 (a0 :: a1 :: .int x :: L) (.int x :: st) μ Q := e_iload_n (by decide +kernel : decode (bOf 57) 153 = .ok (.iload_n 2, 1)) rfl
theorem x_57_154 : Ev d 57 154 L (.int x :: st) μ Q = if x = iI 0 then Ev d 57 157 L st μ Q else Ev d 57 159 L st μ Q := e_if_ne (by decide +kernel : decode (bOf 57) 154 = .ok (.ifCond .ne 5, 3)) (by omega)
theorem x_57_157 : Ev d 57 157 (a0 :: a1 :: a2 :: .int x :: L) st μ Q = Ev d 57 158 (a0 :: a1 :: a2 :: .int x :: L) (.int x :: st) μ Q := e_iload_n (by decide +kernel : decode (bOf 57) 157 = .ok (.iload_n 3, 1)) rfl
theorem x_57_158 : Ev d 57 158 L [.int x] μ Q = Q (some (.int x)) μ := e_iret (by decide +kernel : decode (bOf 57) 158 = .ok (.ireturn, 1)) (by decide +kernel)
theorem x_57_159 : Ev d 57 159 (a0 :: a1 :: .int x :: L) st μ Q = Ev d 57 160 (a0 :: a1 :: .int x :: L) (.int x :: st) μ Q := e_iload_n (by decide +kernel : decode (bOf 57) 159 = .ok (.iload_n 2, 1)) rfl
theorem x_57_160 : Ev d 57 160 L st μ Q = Ev d 57 161 L (.int (iI 1) :: st) μ Q := e_iconst (by decide +kernel : decode (bOf 57) 160 = .ok (.iconst 1, 1))
theorem x_57_161 : Ev d 57 161 L (.int y :: .int x :: st) μ Q = if x = y then Ev d 57 164 L st μ Q else Ev d 57 169 L st μ Q := e_icmp_ne (by decide +kernel : decode (bOf 57) 161 = .ok (.if_icmp .ne 8, 3)) (by omega)
theorem x_57_164 : Ev d 57 164 (a0 :: a1 :: a2 :: a3 :: .int x :: L) st μ Q = Ev d 57 166 (a0 :: a1 :: a2 :: a3 :: .int x :: L) (.int x :: st) μ Q := e_iload (by decide +kernel : decode (bOf 57) 164 = .ok (.iload 4, 2)) rfl
theorem x_57_166 : Ev d 57 166 L st μ Q = Ev d 57 171 L st μ Q := e_goto (by decide +kernel : decode (bOf 57) 166 = .ok (.goto 5, 3)) (by omega)
theorem x_57_169 : Ev d 57 169 (a0 :: a1 :: a2 :: a3 :: a4 :: .int x :: L) st μ Q = Ev d 57 171 (a0 :: a1 :: a2 :: a3 :: a4 :: .int x :: L) (.int x :: st) μ Q := e_iload (by decide +kernel : decode (bOf 57) 169 = .ok (.iload 5, 2)) rfl
theorem x_57_171 : Ev d 57 171 L [.int x] μ Q = Q (some (.int x)) μ := e_iret (by decide +kernel : decode (bOf 57) 171 = .ok (.ireturn, 1)) (by decide +kernel)
theorem c_58 : Call (d + 1) 58 [.ref r0, .int i1, .int i2] μ Q = Ev d 58 0 [.ref r0, .int i1, .int i2] [] μ Q := call_ev rfl rfl
theorem x_58_0 : Ev d 58 0 (a0 :: .int x :: L) st μ Q = Ev d 58 1 (a0 :: .int x :: L) (.int x :: st) μ Q := e_iload_n (by decide +kernel : decode (bOf 58) 0 = .ok (.iload_n 1, 1)) rfl
theorem x_58_1 : Ev d 58 1 L st μ Q = Ev d 58 2 L (.int (iI 1) :: st) μ Q := e_iconst (by decide +kernel : decode (bOf 58) 1 = .ok (.iconst 1, 1))
theorem x_58_2 : Ev d 58 2 L (.int y :: .int x :: st) μ Q = if x < y then Ev d 58 16 L st μ Q else Ev d 58 5 L st μ Q := e_icmp_lt (by decide +kernel : decode (bOf 58) 2 = .ok (.if_icmp .lt 14, 3)) (by omega)
theorem x_58_5 : Ev d 58 5 (a0 :: .int x :: L) st μ Q = Ev d 58 6 (a0 :: .int x :: L) (.int x :: st) μ Q := e_iload_n (by decide +kernel : decode (bOf 58) 5 = .ok (.iload_n 1, 1)) rfl
theorem x_58_6 : Ev d 58 6 L st μ Q = Ev d 58 8 L (.int (iI 6) :: st) μ Q := e_bipush (by decide +kernel : decode (bOf 58) 6 = .ok (.bipush 6, 2)) (by decide +kernel)
theorem x_58_8 : Ev d 58 8 L (.int y :: .int x :: st) μ Q = if y < x then Ev d 58 16 L st μ Q else Ev d 58 11 L st μ Q := e_icmp_gt (by decide +kernel : decode (bOf 58) 8 = .ok (.if_icmp .gt 8, 3)) (by omega)
theorem x_58_11 : Ev d 58 11 (a0 :: a1 :: .int x :: L) st μ Q = Ev d 58 12 (a0 :: a1 :: .int x :: L) (.int x :: st) μ Q := e_iload_n (by decide +kernel : decode (bOf 58) 11 = .ok (.iload_n 2, 1)) rfl
theorem x_58_12 : Ev d 58 12 L st μ Q = Ev d 58 13 L (.int (iI (-1)) :: st) μ Q := e_iconst (by decide +kernel : decode (bOf 58) 12 = .ok (.iconst (-1), 1))
theorem x_58_13 : Ev d 58 13 L (.int y :: .int x :: st) μ Q = if x < y then Ev d 58 16 L st μ Q else Ev d 58 18 L st μ Q := e_icmp_ge (by decide +kernel : decode (bOf 58) 13 = .ok (.if_icmp .ge 5, 3)) (by omega)
theorem x_58_16 : Ev d 58 16 L st μ Q = Ev d 58 17 L (.int (iI (-1)) :: st) μ Q := e_iconst (by decide +kernel : decode (bOf 58) 16 = .ok (.iconst (-1), 1))
theorem x_58_17 : Ev d 58 17 L [.int x] μ Q = Q (some (.int x)) μ := e_iret (by decide +kernel : decode (bOf 58) 17 = .ok (.ireturn, 1)) (by decide +kernel)
theorem x_58_18 : Ev d 58 18 (.ref r :: L) st μ Q = Ev d 58 19 (.ref r :: L) (.ref r :: st) μ Q := e_aload_n (by decide +kernel : decode (bOf 58) 18 = .ok (.aload_n 0, 1)) rfl
theorem x_58_19 (h : kd t r = 4) : Ev d 58 19 L (.ref r :: st) (t, V, A, P) Q = Ev d 58 22 L (V r 0 :: st) (t, V, A, P) Q := e_getf (by decide +kernel : decode (bOf 58) 19 = .ok (.getfield 12, 3)) (by decide +kernel) (by decide +kernel) h
theorem x_58_22 (h : kd t r = 3) : Ev d 58 22 L (.ref r :: st) (t, V, A, P) Q = Ev d 58 25 L (V r 3 :: st) (t, V, A, P) Q := e_getf (by decide +kernel : decode (bOf 58) 22 = .ok (.getfield 63, 3)) (by decide +kernel) (by decide +kernel) h
theorem x_58_25 : Ev d 58 25 (a0 :: .int x :: L) st μ Q = Ev d 58 26 (a0 :: .int x :: L) (.int x :: st) μ Q := e_iload_n (by decide +kernel : decode (bOf 58) 25 = .ok (.iload_n 1, 1)) rfl
theorem x_58_26 : Ev d 58 26 L (.int y :: .int x :: st) μ Q = if x < y then Ev d 58 29 L st μ Q else Ev d 58 32 L st μ Q := e_icmp_ge (by decide +kernel : decode (bOf 58) 26 = .ok (.if_icmp .ge 6, 3)) (by omega)
theorem x_58_29 : Ev d 58 29 L st μ Q = Ev d 58 31 L (.int (iI (-2)) :: st) μ Q := e_bipush (by decide +kernel : decode (bOf 58) 29 = .ok (.bipush (-2), 2)) (by decide +kernel)
theorem x_58_31 : Ev d 58 31 L [.int x] μ Q = Q (some (.int x)) μ := e_iret (by decide +kernel : decode (bOf 58) 31 = .ok (.ireturn, 1)) (by decide +kernel)
theorem x_58_32 : Ev d 58 32 (a0 :: a1 :: .int x :: L) st μ Q = Ev d 58 33 (a0 :: a1 :: .int x :: L) (.int x :: st) μ Q := e_iload_n (by decide +kernel : decode (bOf 58) 32 = .ok (.iload_n 2, 1)) rfl
theorem x_58_33 : Ev d 58 33 (a0 :: .int x :: L) st μ Q = Ev d 58 34 (a0 :: .int x :: L) (.int x :: st) μ Q := e_iload_n (by decide +kernel : decode (bOf 58) 33 = .ok (.iload_n 1, 1)) rfl
theorem x_58_34 : Ev d 58 34 L (.int y :: .int x :: st) μ Q = if x < y then Ev d 58 40 L st μ Q else Ev d 58 37 L st μ Q := e_icmp_lt (by decide +kernel : decode (bOf 58) 34 = .ok (.if_icmp .lt 6, 3)) (by omega)
theorem x_58_37 : Ev d 58 37 L st μ Q = Ev d 58 39 L (.int (iI (-9)) :: st) μ Q := e_bipush (by decide +kernel : decode (bOf 58) 37 = .ok (.bipush (-9), 2)) (by decide +kernel)
theorem x_58_39 : Ev d 58 39 L [.int x] μ Q = Q (some (.int x)) μ := e_iret (by decide +kernel : decode (bOf 58) 39 = .ok (.ireturn, 1)) (by decide +kernel)
theorem x_58_40 : Ev d 58 40 (.ref r :: L) st μ Q = Ev d 58 41 (.ref r :: L) (.ref r :: st) μ Q := e_aload_n (by decide +kernel : decode (bOf 58) 40 = .ok (.aload_n 0, 1)) rfl
theorem x_58_41 (h : kd t r = 4) : Ev d 58 41 L (.ref r :: st) (t, V, A, P) Q = Ev d 58 44 L (V r 7 :: st) (t, V, A, P) Q := e_getf (by decide +kernel : decode (bOf 58) 41 = .ok (.getfield 44, 3)) (by decide +kernel) (by decide +kernel) h
theorem x_58_44 : Ev d 58 44 (.ref r :: L) st μ Q = Ev d 58 45 (.ref r :: L) (.ref r :: st) μ Q := e_aload_n (by decide +kernel : decode (bOf 58) 44 = .ok (.aload_n 0, 1)) rfl
theorem x_58_45 (h : kd t r = 4) : Ev d 58 45 L (.ref r :: st) (t, V, A, P) Q = Ev d 58 48 L (V r 0 :: st) (t, V, A, P) Q := e_getf (by decide +kernel : decode (bOf 58) 45 = .ok (.getfield 12, 3)) (by decide +kernel) (by decide +kernel) h
theorem x_58_48 : Ev d 58 48 (a0 :: .int x :: L) st μ Q = Ev d 58 49 (a0 :: .int x :: L) (.int x :: st) μ Q := e_iload_n (by decide +kernel : decode (bOf 58) 48 = .ok (.iload_n 1, 1)) rfl
theorem x_58_49 (h : kd t r = 0) : Ev d 58 49 L [b1, b0, .ref r] (t, V, A, P) Q = Call d 6 [.ref r, b0, b1] (t, V, A, P) (fun v μ1 => Ev d 58 52 L (v.toList ++ []) μ1 Q) := e_callV (a := [b0, b1]) (r := []) (by decide +kernel : decode (bOf 58) 49 = .ok (.invokevirtual 185, 3)) (by decide +kernel) (by decide +kernel) (by decide +kernel) (by omega) rfl (by simp) (by decide +kernel) h
theorem x_58_52 : Ev d 58 52 (a0 :: a1 :: .int x :: L) st μ Q = Ev d 58 53 (a0 :: a1 :: .int x :: L) (.int x :: st) μ Q := e_iload_n (by decide +kernel : decode (bOf 58) 52 = .ok (.iload_n 2, 1)) rfl
theorem x_58_53 : Ev d 58 53 L st μ Q = Ev d 58 54 L (.int (iI (-1)) :: st) μ Q := e_iconst (by decide +kernel : decode (bOf 58) 53 = .ok (.iconst (-1), 1))
theorem x_58_54 : Ev d 58 54 L (.int y :: .int x :: st) μ Q = if x = y then Ev d 58 57 L st μ Q else Ev d 58 67 L st μ Q := e_icmp_ne (by decide +kernel : decode (bOf 58) 54 = .ok (.if_icmp .ne 13, 3)) (by omega)
theorem x_58_57 : Ev d 58 57 (.ref r :: L) st μ Q = Ev d 58 58 (.ref r :: L) (.ref r :: st) μ Q := e_aload_n (by decide +kernel : decode (bOf 58) 57 = .ok (.aload_n 0, 1)) rfl
theorem x_58_58 (h : kd t r = 4) : Ev d 58 58 L (.ref r :: st) (t, V, A, P) Q = Ev d 58 61 L (V r 7 :: st) (t, V, A, P) Q := e_getf (by decide +kernel : decode (bOf 58) 58 = .ok (.getfield 44, 3)) (by decide +kernel) (by decide +kernel) h
theorem x_58_61 (h : kd t r = 0) : Ev d 58 61 L (.ref r :: st) (t, V, A, P) Q = Ev d 58 64 L (V r 5 :: st) (t, V, A, P) Q := e_getf (by decide +kernel : decode (bOf 58) 61 = .ok (.getfield 189, 3)) (by decide +kernel) (by decide +kernel) h
theorem x_58_64 : Ev d 58 64 L st μ Q = Ev d 58 75 L st μ Q := e_goto (by decide +kernel : decode (bOf 58) 64 = .ok (.goto 11, 3)) (by omega)
theorem x_58_67 : Ev d 58 67 (.ref r :: L) st μ Q = Ev d 58 68 (.ref r :: L) (.ref r :: st) μ Q := e_aload_n (by decide +kernel : decode (bOf 58) 67 = .ok (.aload_n 0, 1)) rfl
theorem x_58_68 (h : kd t r = 4) : Ev d 58 68 L (.ref r :: st) (t, V, A, P) Q = Ev d 58 71 L (V r 7 :: st) (t, V, A, P) Q := e_getf (by decide +kernel : decode (bOf 58) 68 = .ok (.getfield 44, 3)) (by decide +kernel) (by decide +kernel) h
theorem x_58_71 : Ev d 58 71 (a0 :: a1 :: .int x :: L) st μ Q = Ev d 58 72 (a0 :: a1 :: .int x :: L) (.int x :: st) μ Q := e_iload_n (by decide +kernel : decode (bOf 58) 71 = .ok (.iload_n 2, 1)) rfl
theorem x_58_72 (h : kd t r = 0) : Ev d 58 72 L [b0, .ref r] (t, V, A, P) Q = Call d 8 [.ref r, b0] (t, V, A, P) (fun v μ1 => Ev d 58 75 L (v.toList ++ []) μ1 Q) := e_callV (a := [b0]) (r := []) (by decide +kernel : decode (bOf 58) 72 = .ok (.invokevirtual 192, 3)) (by decide +kernel) (by decide +kernel) (by decide +kernel) (by omega) rfl (by simp) (by decide +kernel) h
theorem x_58_75 : Ev d 58 75 L [.int x] μ Q = Q (some (.int x)) μ := e_iret (by decide +kernel : decode (bOf 58) 75 = .ok (.ireturn, 1)) (by decide +kernel)
theorem c_59 : Call (d + 1) 59 [.ref r0, .int i1] μ Q = Ev d 59 0 [.ref r0, .int i1, .null, .null, .null, .null] [] μ Q := call_ev rfl rfl
theorem x_59_0 : Ev d 59 0 L st μ Q = Ev d 59 1 L (.long (Int64.ofInt 0) :: st) μ Q := e_lconst (by decide +kernel : decode (bOf 59) 0 = .ok (.lconst 0, 1))
theorem x_59_1 (h : a1.category = 1) (h2 : b0.category = 1) : Ev d 59 1 (a0 :: a1 :: a2 :: b0 :: L) (.long w :: st) μ Q = Ev d 59 2 (a0 :: a1 :: .long w :: .null :: L) st μ Q := e_lstore_n (by decide +kernel : decode (bOf 59) 1 = .ok (.lstore_n 2, 1)) (by show stOK _ 2 = true ∧ 2 + 1 < _ ∧ (List.getD _ (2 + 1) Value.null).category = 1; simp [stOK, h, h2])
theorem x_59_2 : Ev d 59 2 (.ref r :: L) st μ Q = Ev d 59 3 (.ref r :: L) (.ref r :: st) μ Q := e_aload_n (by decide +kernel : decode (bOf 59) 2 = .ok (.aload_n 0, 1)) rfl
theorem x_59_3 (h : kd t r = 4) : Ev d 59 3 L (.ref r :: st) (t, V, A, P) Q = Ev d 59 6 L (V r 8 :: st) (t, V, A, P) Q := e_getf (by decide +kernel : decode (bOf 59) 3 = .ok (.getfield 51, 3)) (by decide +kernel) (by decide +kernel) h
theorem x_59_6 : Ev d 59 6 L st μ Q = Ev d 59 7 L (.int (iI (-1)) :: st) μ Q := e_iconst (by decide +kernel : decode (bOf 59) 6 = .ok (.iconst (-1), 1))
theorem x_59_7 (h : kd t r = 2) : Ev d 59 7 L [b0, .ref r] (t, V, A, P) Q = Call d 22 [.ref r, b0] (t, V, A, P) (fun v μ1 => Ev d 59 10 L (v.toList ++ []) μ1 Q) := e_callV (a := [b0]) (r := []) (by decide +kernel : decode (bOf 59) 7 = .ok (.invokevirtual 173, 3)) (by decide +kernel) (by decide +kernel) (by decide +kernel) (by omega) rfl (by simp) (by decide +kernel) h
theorem x_59_10 : Ev d 59 10 L st μ Q = Ev d 59 11 L (.int (iI 0) :: st) μ Q := e_iconst (by decide +kernel : decode (bOf 59) 10 = .ok (.iconst 0, 1))
theorem x_59_11 (h : a3.category = 1) : Ev d 59 11 (a0 :: a1 :: a2 :: a3 :: a4 :: L) (.int x :: st) μ Q = Ev d 59 13 (a0 :: a1 :: a2 :: a3 :: .int x :: L) st μ Q := e_istore (by decide +kernel : decode (bOf 59) 11 = .ok (.istore 4, 2)) (by show stOK _ 4 = true; simp [stOK, h])
theorem x_59_13 : Ev d 59 13 (a0 :: a1 :: a2 :: a3 :: .int x :: L) st μ Q = Ev d 59 15 (a0 :: a1 :: a2 :: a3 :: .int x :: L) (.int x :: st) μ Q := e_iload (by decide +kernel : decode (bOf 59) 13 = .ok (.iload 4, 2)) rfl
theorem x_59_15 : Ev d 59 15 (.ref r :: L) st μ Q = Ev d 59 16 (.ref r :: L) (.ref r :: st) μ Q := e_aload_n (by decide +kernel : decode (bOf 59) 15 = .ok (.aload_n 0, 1)) rfl
theorem x_59_16 (h : kd t r = 4) : Ev d 59 16 L (.ref r :: st) (t, V, A, P) Q = Ev d 59 19 L (V r 0 :: st) (t, V, A, P) Q := e_getf (by decide +kernel : decode (bOf 59) 16 = .ok (.getfield 12, 3)) (by decide +kernel) (by decide +kernel) h
theorem x_59_19 (h : kd t r = 3) : Ev d 59 19 L [.ref r, s0] (t, V, A, P) Q = Call d 33 [.ref r] (t, V, A, P) (fun v μ1 => Ev d 59 22 L (v.toList ++ [s0]) μ1 Q) := e_callV (a := []) (r := [s0]) (by decide +kernel : decode (bOf 59) 19 = .ok (.invokevirtual 176, 3)) (by decide +kernel) (by decide +kernel) (by decide +kernel) (by omega) rfl (by simp) (by decide +kernel) h
theorem x_59_22 : Ev d 59 22 L (.int y :: .int x :: st) μ Q = if x < y then Ev d 59 25 L st μ Q else Ev d 59 64 L st μ Q := e_icmp_ge (by decide +kernel : decode (bOf 59) 22 = .ok (.if_icmp .ge 42, 3)) (by omega)
theorem x_59_25 : Ev d 59 25 (.ref r :: L) st μ Q = Ev d 59 26 (.ref r :: L) (.ref r :: st) μ Q := e_aload_n (by decide +kernel : decode (bOf 59) 25 = .ok (.aload_n 0, 1)) rfl
theorem x_59_26 (h : kd t r = 4) : Ev d 59 26 L (.ref r :: st) (t, V, A, P) Q = Ev d 59 29 L (V r 8 :: st) (t, V, A, P) Q := e_getf (by decide +kernel : decode (bOf 59) 26 = .ok (.getfield 51, 3)) (by decide +kernel) (by decide +kernel) h
theorem x_59_29 : Ev d 59 29 (.ref r :: L) st μ Q = Ev d 59 30 (.ref r :: L) (.ref r :: st) μ Q := e_aload_n (by decide +kernel : decode (bOf 59) 29 = .ok (.aload_n 0, 1)) rfl
theorem x_59_30 (h : kd t r = 4) : Ev d 59 30 L (.ref r :: st) (t, V, A, P) Q = Ev d 59 33 L (V r 0 :: st) (t, V, A, P) Q := e_getf (by decide +kernel : decode (bOf 59) 30 = .ok (.getfield 12, 3)) (by decide +kernel) (by decide +kernel) h
theorem x_59_33 : Ev d 59 33 (a0 :: a1 :: a2 :: a3 :: .int x :: L) st μ Q = Ev d 59 35 (a0 :: a1 :: a2 :: a3 :: .int x :: L) (.int x :: st) μ Q := e_iload (by decide +kernel : decode (bOf 59) 33 = .ok (.iload 4, 2)) rfl
theorem x_59_35 (h : kd t r = 3) : Ev d 59 35 L [b0, .ref r, s0] (t, V, A, P) Q = Call d 35 [.ref r, b0] (t, V, A, P) (fun v μ1 => Ev d 59 38 L (v.toList ++ [s0]) μ1 Q) := e_callV (a := [b0]) (r := [s0]) (by decide +kernel : decode (bOf 59) 35 = .ok (.invokevirtual 87, 3)) (by decide +kernel) (by decide +kernel) (by decide +kernel) (by omega) rfl (by simp) (by decide +kernel) h
theorem x_59_38 (h : kd t r = 2) : Ev d 59 38 L [b0, .ref r] (t, V, A, P) Q = Call d 24 [.ref r, b0] (t, V, A, P) (fun v μ1 => Ev d 59 41 L (v.toList ++ []) μ1 Q) := e_callV (a := [b0]) (r := []) (by decide +kernel : decode (bOf 59) 38 = .ok (.invokevirtual 179, 3)) (by decide +kernel) (by decide +kernel) (by decide +kernel) (by omega) rfl (by simp) (by decide +kernel) h
theorem x_59_41 : Ev d 59 41 (a0 :: a1 :: .long w :: L) st μ Q = Ev d 59 42 (a0 :: a1 :: .long w :: L) (.long w :: st) μ Q := e_lload_n (by decide +kernel : decode (bOf 59) 41 = .ok (.lload_n 2, 1)) rfl
theorem x_59_42 : Ev d 59 42 (.ref r :: L) st μ Q = Ev d 59 43 (.ref r :: L) (.ref r :: st) μ Q := e_aload_n (by decide +kernel : decode (bOf 59) 42 = .ok (.aload_n 0, 1)) rfl
theorem x_59_43 (h : kd t r = 4) : Ev d 59 43 L (.ref r :: st) (t, V, A, P) Q = Ev d 59 46 L (V r 8 :: st) (t, V, A, P) Q := e_getf (by decide +kernel : decode (bOf 59) 43 = .ok (.getfield 51, 3)) (by decide +kernel) (by decide +kernel) h
theorem x_59_46 (h : kd t r = 2) : Ev d 59 46 L (.ref r :: st) (t, V, A, P) Q = Ev d 59 49 L (V r 1 :: st) (t, V, A, P) Q := e_getf (by decide +kernel : decode (bOf 59) 46 = .ok (.getfield 182, 3)) (by decide +kernel) (by decide +kernel) h
theorem x_59_49 : Ev d 59 49 L (.int x :: st) μ Q = Ev d 59 50 L (.long x.toInt64 :: st) μ Q := e_i2l (by decide +kernel : decode (bOf 59) 49 = .ok (.i2l, 1))
theorem x_59_50 : Ev d 59 50 (a0 :: a1 :: a2 :: a3 :: .int x :: L) st μ Q = Ev d 59 52 (a0 :: a1 :: a2 :: a3 :: .int x :: L) (.int x :: st) μ Q := e_iload (by decide +kernel : decode (bOf 59) 50 = .ok (.iload 4, 2)) rfl
theorem x_59_52 : Ev d 59 52 L st μ Q = Ev d 59 53 L (.int (iI 1) :: st) μ Q := e_iconst (by decide +kernel : decode (bOf 59) 52 = .ok (.iconst 1, 1))
theorem x_59_53 : Ev d 59 53 L (.int y :: .int x :: st) μ Q = Ev d 59 54 L (.int (x + y) :: st) μ Q := e_iadd (by decide +kernel : decode (bOf 59) 53 = .ok (.iadd, 1))
theorem x_59_54 : Ev d 59 54 L (.int x :: st) μ Q = Ev d 59 55 L (.long x.toInt64 :: st) μ Q := e_i2l (by decide +kernel : decode (bOf 59) 54 = .ok (.i2l, 1))
theorem x_59_55 : Ev d 59 55 L (.long z :: .long w :: st) μ Q = Ev d 59 56 L (.long (w * z) :: st) μ Q := e_lmul (by decide +kernel : decode (bOf 59) 55 = .ok (.lmul, 1))
theorem x_59_56 : Ev d 59 56 L (.long z :: .long w :: st) μ Q = Ev d 59 57 L (.long (w + z) :: st) μ Q := e_ladd (by decide +kernel : decode (bOf 59) 56 = .ok (.ladd, 1))
theorem x_59_57 (h : a1.category = 1) (h2 : b0.category = 1) : Ev d 59 57 (a0 :: a1 :: a2 :: b0 :: L) (.long w :: st) μ Q = Ev d 59 58 (a0 :: a1 :: .long w :: .null :: L) st μ Q := e_lstore_n (by decide +kernel : decode (bOf 59) 57 = .ok (.lstore_n 2, 1)) (by show stOK _ 2 = true ∧ 2 + 1 < _ ∧ (List.getD _ (2 + 1) Value.null).category = 1; simp [stOK, h, h2])
theorem x_59_58 (h : a3.category = 1) : Ev d 59 58 (a0 :: a1 :: a2 :: a3 :: .int x :: L) st μ Q = Ev d 59 61 (a0 :: a1 :: a2 :: a3 :: .int (x + (iI 1)) :: L) st μ Q := e_iinc (by decide +kernel : decode (bOf 59) 58 = .ok (.iinc 4 1, 3)) rfl (by simp [stOK, h])
theorem x_59_61 : Ev d 59 61 L st μ Q = Ev d 59 13 L st μ Q := e_goto (by decide +kernel : decode (bOf 59) 61 = .ok (.goto (-48), 3)) (by omega)
theorem x_59_64 : Ev d 59 64 (a0 :: a1 :: .long w :: L) st μ Q = Ev d 59 65 (a0 :: a1 :: .long w :: L) (.long w :: st) μ Q := e_lload_n (by decide +kernel : decode (bOf 59) 64 = .ok (.lload_n 2, 1)) rfl
theorem x_59_65 : Ev d 59 65 (a0 :: .int x :: L) st μ Q = Ev d 59 66 (a0 :: .int x :: L) (.int x :: st) μ Q := e_iload_n (by decide +kernel : decode (bOf 59) 65 = .ok (.iload_n 1, 1)) rfl
theorem x_59_66 : Ev d 59 66 L (.int x :: st) μ Q = Ev d 59 67 L (.long x.toInt64 :: st) μ Q := e_i2l (by decide +kernel : decode (bOf 59) 66 = .ok (.i2l, 1))
theorem x_59_67 : Ev d 59 67 L (.long z :: .long w :: st) μ Q = Ev d 59 68 L (.long (w * z) :: st) μ Q := e_lmul (by decide +kernel : decode (bOf 59) 67 = .ok (.lmul, 1))
theorem x_59_68 (h : a3.category = 1) (h2 : b0.category = 1) : Ev d 59 68 (a0 :: a1 :: a2 :: a3 :: a4 :: b0 :: L) (.long w :: st) μ Q = Ev d 59 70 (a0 :: a1 :: a2 :: a3 :: .long w :: .null :: L) st μ Q := e_lstore (by decide +kernel : decode (bOf 59) 68 = .ok (.lstore 4, 2)) (by show stOK _ 4 = true ∧ 4 + 1 < _ ∧ (List.getD _ (4 + 1) Value.null).category = 1; simp [stOK, h, h2])
theorem x_59_70 : Ev d 59 70 (a0 :: a1 :: a2 :: a3 :: .long w :: L) st μ Q = Ev d 59 72 (a0 :: a1 :: a2 :: a3 :: .long w :: L) (.long w :: st) μ Q := e_lload (by decide +kernel : decode (bOf 59) 70 = .ok (.lload 4, 2)) rfl
theorem x_59_72 : Ev d 59 72 L st μ Q = Ev d 59 75 L (.long (Int64.ofInt (-999999)) :: st) μ Q := e_ldc2_w (by decide +kernel : decode (bOf 59) 72 = .ok (.ldc2_w 195, 3)) (by decide +kernel)
theorem x_59_75 : Ev d 59 75 L (.long z :: .long w :: st) μ Q = Ev d 59 76 L (.int (lg_cmp w z) :: st) μ Q := e_lcmp (by decide +kernel : decode (bOf 59) 75 = .ok (.lcmp, 1))
theorem x_59_76 : Ev d 59 76 L (.int x :: st) μ Q = if x < iI 0 then Ev d 59 88 L st μ Q else Ev d 59 79 L st μ Q := e_if_lt (by decide +kernel : decode (bOf 59) 76 = .ok (.ifCond .lt 12, 3)) (by omega)
theorem x_59_79 : Ev d 59 79 (a0 :: a1 :: a2 :: a3 :: .long w :: L) st μ Q = Ev d 59 81 (a0 :: a1 :: a2 :: a3 :: .long w :: L) (.long w :: st) μ Q := e_lload (by decide +kernel : decode (bOf 59) 79 = .ok (.lload 4, 2)) rfl
theorem x_59_81 : Ev d 59 81 L st μ Q = Ev d 59 84 L (.long (Int64.ofInt (999999)) :: st) μ Q := e_ldc2_w (by decide +kernel : decode (bOf 59) 81 = .ok (.ldc2_w 197, 3)) (by decide +kernel)
theorem x_59_84 : Ev d 59 84 L (.long z :: .long w :: st) μ Q = Ev d 59 85 L (.int (lg_cmp w z) :: st) μ Q := e_lcmp (by decide +kernel : decode (bOf 59) 84 = .ok (.lcmp, 1))
theorem x_59_85 : Ev d 59 85 L (.int x :: st) μ Q = if iI 0 < x then Ev d 59 88 L st μ Q else Ev d 59 93 L st μ Q := e_if_le (by decide +kernel : decode (bOf 59) 85 = .ok (.ifCond .le 8, 3)) (by omega)
theorem x_59_88 : Ev d 59 88 L st μ Q = Ev d 59 90 L (.int (iI (-1000000)) :: st) μ Q := e_ldc (by decide +kernel : decode (bOf 59) 88 = .ok (.ldc 150, 2)) (by decide +kernel)
theorem x_59_90 : Ev d 59 90 L st μ Q = Ev d 59 96 L st μ Q := e_goto (by decide +kernel : decode (bOf 59) 90 = .ok (.goto 6, 3)) (by omega)
theorem x_59_93 : Ev d 59 93 (a0 :: a1 :: a2 :: a3 :: .long w :: L) st μ Q = Ev d 59 95 (a0 :: a1 :: a2 :: a3 :: .long w :: L) (.long w :: st) μ Q := e_lload (by decide +kernel : decode (bOf 59) 93 = .ok (.lload 4, 2)) rfl
theorem x_59_95 : Ev d 59 95 L (.long w :: st) μ Q = Ev d 59 96 L (.int w.toInt32 :: st) μ Q := e_l2i (by decide +kernel : decode (bOf 59) 95 = .ok (.l2i, 1))
theorem x_59_96 : Ev d 59 96 L [.int x] μ Q = Q (some (.int x)) μ := e_iret (by decide +kernel : decode (bOf 59) 96 = .ok (.ireturn, 1)) (by decide +kernel)
theorem c_60 : Call (d + 1) 60 [.ref r0, .int i1] μ Q = Ev d 60 0 [.ref r0, .int i1] [] μ Q := call_ev rfl rfl
theorem x_60_0 : Ev d 60 0 (a0 :: .int x :: L) st μ Q = Ev d 60 1 (a0 :: .int x :: L) (.int x :: st) μ Q := e_iload_n (by decide +kernel : decode (bOf 60) 0 = .ok (.iload_n 1, 1)) rfl
theorem x_60_1 : Ev d 60 1 L (.int x :: st) μ Q = if x < iI 0 then Ev d 60 9 L st μ Q else Ev d 60 4 L st μ Q := e_if_lt (by decide +kernel : decode (bOf 60) 1 = .ok (.ifCond .lt 8, 3)) (by omega)
theorem x_60_4 : Ev d 60 4 (a0 :: .int x :: L) st μ Q = Ev d 60 5 (a0 :: .int x :: L) (.int x :: st) μ Q := e_iload_n (by decide +kernel : decode (bOf 60) 4 = .ok (.iload_n 1, 1)) rfl
theorem x_60_5 : Ev d 60 5 L st μ Q = Ev d 60 6 L (.int (iI 2) :: st) μ Q := e_iconst (by decide +kernel : decode (bOf 60) 5 = .ok (.iconst 2, 1))
theorem x_60_6 : Ev d 60 6 L (.int y :: .int x :: st) μ Q = if x < y then Ev d 60 11 L st μ Q else Ev d 60 9 L st μ Q := e_icmp_lt (by decide +kernel : decode (bOf 60) 6 = .ok (.if_icmp .lt 5, 3)) (by omega)
theorem x_60_9 : Ev d 60 9 L st μ Q = Ev d 60 10 L (.int (iI (-1)) :: st) μ Q := e_iconst (by decide +kernel : decode (bOf 60) 9 = .ok (.iconst (-1), 1))
theorem x_60_10 : Ev d 60 10 L [.int x] μ Q = Q (some (.int x)) μ := e_iret (by decide +kernel : decode (bOf 60) 10 = .ok (.ireturn, 1)) (by decide +kernel)
theorem x_60_11 : Ev d 60 11 (.ref r :: L) st μ Q = Ev d 60 12 (.ref r :: L) (.ref r :: st) μ Q := e_aload_n (by decide +kernel : decode (bOf 60) 11 = .ok (.aload_n 0, 1)) rfl
theorem x_60_12 (h : kd t r = 4) : Ev d 60 12 L (.ref r :: st) (t, V, A, P) Q = Ev d 60 15 L (V r 0 :: st) (t, V, A, P) Q := e_getf (by decide +kernel : decode (bOf 60) 12 = .ok (.getfield 12, 3)) (by decide +kernel) (by decide +kernel) h
theorem x_60_15 : Ev d 60 15 (.ref r :: L) st μ Q = Ev d 60 16 (.ref r :: L) (.ref r :: st) μ Q := e_aload_n (by decide +kernel : decode (bOf 60) 15 = .ok (.aload_n 0, 1)) rfl
theorem x_60_16 (h : kd t r = 4) : Ev d 60 16 L (.ref r :: st) (t, V, A, P) Q = Ev d 60 19 L (V r 2 :: st) (t, V, A, P) Q := e_getf (by decide +kernel : decode (bOf 60) 16 = .ok (.getfield 20, 3)) (by decide +kernel) (by decide +kernel) h
theorem x_60_19 : Ev d 60 19 (a0 :: .int x :: L) st μ Q = Ev d 60 20 (a0 :: .int x :: L) (.int x :: st) μ Q := e_iload_n (by decide +kernel : decode (bOf 60) 19 = .ok (.iload_n 1, 1)) rfl
theorem x_60_20 (h : kd t r = 9) (hi : inB x (ln t r) = true) : Ev d 60 20 L (.int x :: .ref r :: st) (t, V, A, P) Q = Ev d 60 21 L (va_rf (P r x.toNatClampNeg) :: st) (t, V, A, P) Q := e_aald 9 (by omega) (by decide +kernel : decode (bOf 60) 20 = .ok (.aaload, 1)) h hi
theorem x_60_21 : Ev d 60 21 L [b1, b0] μ Q = Call d 29 [b0, b1] μ (fun v μ1 => Ev d 60 24 L (v.toList ++ []) μ1 Q) := e_callS (a := [b0, b1]) (r := []) (by decide +kernel : decode (bOf 60) 21 = .ok (.invokestatic 96, 3)) (by decide +kernel) (by decide +kernel) (by omega) rfl (by simp)
theorem x_60_24 : Ev d 60 24 (.ref r :: L) st μ Q = Ev d 60 25 (.ref r :: L) (.ref r :: st) μ Q := e_aload_n (by decide +kernel : decode (bOf 60) 24 = .ok (.aload_n 0, 1)) rfl
theorem x_60_25 (h : kd t r = 4) : Ev d 60 25 L (.ref r :: st) (t, V, A, P) Q = Ev d 60 28 L (V r 3 :: st) (t, V, A, P) Q := e_getf (by decide +kernel : decode (bOf 60) 25 = .ok (.getfield 23, 3)) (by decide +kernel) (by decide +kernel) h
theorem x_60_28 : Ev d 60 28 (a0 :: .int x :: L) st μ Q = Ev d 60 29 (a0 :: .int x :: L) (.int x :: st) μ Q := e_iload_n (by decide +kernel : decode (bOf 60) 28 = .ok (.iload_n 1, 1)) rfl
theorem x_60_29 : Ev d 60 29 L st μ Q = Ev d 60 30 L (.int (iI 1) :: st) μ Q := e_iconst (by decide +kernel : decode (bOf 60) 29 = .ok (.iconst 1, 1))
theorem x_60_30 (h : kd t r = 7) (hi : inB x (ln t r) = true) (hx : isB y) : Ev d 60 30 L (.int y :: .int x :: .ref r :: st) (t, V, A, P) Q = Ev d 60 31 L st (t, V, up1 A r (upd (A r) x.toNatClampNeg y), P) Q := e_bast (by decide +kernel : decode (bOf 60) 30 = .ok (.bastore, 1)) h hi hx
theorem x_60_31 : Ev d 60 31 (.ref r :: L) st μ Q = Ev d 60 32 (.ref r :: L) (.ref r :: st) μ Q := e_aload_n (by decide +kernel : decode (bOf 60) 31 = .ok (.aload_n 0, 1)) rfl
theorem x_60_32 (h : kd t r = 4) : Ev d 60 32 L (.ref r :: st) (t, V, A, P) Q = Ev d 60 35 L (V r 0 :: st) (t, V, A, P) Q := e_getf (by decide +kernel : decode (bOf 60) 32 = .ok (.getfield 12, 3)) (by decide +kernel) (by decide +kernel) h
theorem x_60_35 (h : kd t r = 3) : Ev d 60 35 L (.ref r :: st) (t, V, A, P) Q = Ev d 60 38 L (V r 3 :: st) (t, V, A, P) Q := e_getf (by decide +kernel : decode (bOf 60) 35 = .ok (.getfield 63, 3)) (by decide +kernel) (by decide +kernel) h
theorem x_60_38 : Ev d 60 38 L [.int x] μ Q = Q (some (.int x)) μ := e_iret (by decide +kernel : decode (bOf 60) 38 = .ok (.ireturn, 1)) (by decide +kernel)
theorem c_61 : Call (d + 1) 61 [.ref r0, .int i1] μ Q = Ev d 61 0 [.ref r0, .int i1] [] μ Q := call_ev rfl rfl
theorem x_61_0 : Ev d 61 0 (a0 :: .int x :: L) st μ Q = Ev d 61 1 (a0 :: .int x :: L) (.int x :: st) μ Q := e_iload_n (by decide +kernel : decode (bOf 61) 0 = .ok (.iload_n 1, 1)) rfl
theorem x_61_1 : Ev d 61 1 L (.int x :: st) μ Q = if x < iI 0 then Ev d 61 9 L st μ Q else Ev d 61 4 L st μ Q := e_if_lt (by decide +kernel : decode (bOf 61) 1 = .ok (.ifCond .lt 8, 3)) (by omega)
theorem x_61_4 : Ev d 61 4 (a0 :: .int x :: L) st μ Q = Ev d 61 5 (a0 :: .int x :: L) (.int x :: st) μ Q := e_iload_n (by decide +kernel : decode (bOf 61) 4 = .ok (.iload_n 1, 1)) rfl
theorem x_61_5 : Ev d 61 5 L st μ Q = Ev d 61 6 L (.int (iI 2) :: st) μ Q := e_iconst (by decide +kernel : decode (bOf 61) 5 = .ok (.iconst 2, 1))
theorem x_61_6 : Ev d 61 6 L (.int y :: .int x :: st) μ Q = if x < y then Ev d 61 11 L st μ Q else Ev d 61 9 L st μ Q := e_icmp_lt (by decide +kernel : decode (bOf 61) 6 = .ok (.if_icmp .lt 5, 3)) (by omega)
theorem x_61_9 : Ev d 61 9 L st μ Q = Ev d 61 10 L (.int (iI (-1)) :: st) μ Q := e_iconst (by decide +kernel : decode (bOf 61) 9 = .ok (.iconst (-1), 1))
theorem x_61_10 : Ev d 61 10 L [.int x] μ Q = Q (some (.int x)) μ := e_iret (by decide +kernel : decode (bOf 61) 10 = .ok (.ireturn, 1)) (by decide +kernel)
theorem x_61_11 : Ev d 61 11 (.ref r :: L) st μ Q = Ev d 61 12 (.ref r :: L) (.ref r :: st) μ Q := e_aload_n (by decide +kernel : decode (bOf 61) 11 = .ok (.aload_n 0, 1)) rfl
theorem x_61_12 (h : kd t r = 4) : Ev d 61 12 L (.ref r :: st) (t, V, A, P) Q = Ev d 61 15 L (V r 3 :: st) (t, V, A, P) Q := e_getf (by decide +kernel : decode (bOf 61) 12 = .ok (.getfield 23, 3)) (by decide +kernel) (by decide +kernel) h
theorem x_61_15 : Ev d 61 15 (a0 :: .int x :: L) st μ Q = Ev d 61 16 (a0 :: .int x :: L) (.int x :: st) μ Q := e_iload_n (by decide +kernel : decode (bOf 61) 15 = .ok (.iload_n 1, 1)) rfl
theorem x_61_16 (h : kd t r = 7) (hi : inB x (ln t r) = true) : Ev d 61 16 L (.int x :: .ref r :: st) (t, V, A, P) Q = Ev d 61 17 L (.int (A r x.toNatClampNeg) :: st) (t, V, A, P) Q := e_bald (by decide +kernel : decode (bOf 61) 16 = .ok (.baload, 1)) h hi
theorem x_61_17 : Ev d 61 17 L (.int x :: st) μ Q = if x = iI 0 then Ev d 61 20 L st μ Q else Ev d 61 23 L st μ Q := e_if_ne (by decide +kernel : decode (bOf 61) 17 = .ok (.ifCond .ne 6, 3)) (by omega)
theorem x_61_20 : Ev d 61 20 L st μ Q = Ev d 61 22 L (.int (iI (-2)) :: st) μ Q := e_bipush (by decide +kernel : decode (bOf 61) 20 = .ok (.bipush (-2), 2)) (by decide +kernel)
theorem x_61_22 : Ev d 61 22 L [.int x] μ Q = Q (some (.int x)) μ := e_iret (by decide +kernel : decode (bOf 61) 22 = .ok (.ireturn, 1)) (by decide +kernel)
theorem x_61_23 : Ev d 61 23 (.ref r :: L) st μ Q = Ev d 61 24 (.ref r :: L) (.ref r :: st) μ Q := e_aload_n (by decide +kernel : decode (bOf 61) 23 = .ok (.aload_n 0, 1)) rfl
theorem x_61_24 (h : kd t r = 4) : Ev d 61 24 L (.ref r :: st) (t, V, A, P) Q = Ev d 61 27 L (V r 2 :: st) (t, V, A, P) Q := e_getf (by decide +kernel : decode (bOf 61) 24 = .ok (.getfield 20, 3)) (by decide +kernel) (by decide +kernel) h
theorem x_61_27 : Ev d 61 27 (a0 :: .int x :: L) st μ Q = Ev d 61 28 (a0 :: .int x :: L) (.int x :: st) μ Q := e_iload_n (by decide +kernel : decode (bOf 61) 27 = .ok (.iload_n 1, 1)) rfl
theorem x_61_28 (h : kd t r = 9) (hi : inB x (ln t r) = true) : Ev d 61 28 L (.int x :: .ref r :: st) (t, V, A, P) Q = Ev d 61 29 L (va_rf (P r x.toNatClampNeg) :: st) (t, V, A, P) Q := e_aald 9 (by omega) (by decide +kernel : decode (bOf 61) 28 = .ok (.aaload, 1)) h hi
theorem x_61_29 : Ev d 61 29 (.ref r :: L) st μ Q = Ev d 61 30 (.ref r :: L) (.ref r :: st) μ Q := e_aload_n (by decide +kernel : decode (bOf 61) 29 = .ok (.aload_n 0, 1)) rfl
theorem x_61_30 (h : kd t r = 4) : Ev d 61 30 L (.ref r :: st) (t, V, A, P) Q = Ev d 61 33 L (V r 0 :: st) (t, V, A, P) Q := e_getf (by decide +kernel : decode (bOf 61) 30 = .ok (.getfield 12, 3)) (by decide +kernel) (by decide +kernel) h
theorem x_61_33 : Ev d 61 33 L [b1, b0] μ Q = Call d 29 [b0, b1] μ (fun v μ1 => Ev d 61 36 L (v.toList ++ []) μ1 Q) := e_callS (a := [b0, b1]) (r := []) (by decide +kernel : decode (bOf 61) 33 = .ok (.invokestatic 96, 3)) (by decide +kernel) (by decide +kernel) (by omega) rfl (by simp)
theorem x_61_36 : Ev d 61 36 (.ref r :: L) st μ Q = Ev d 61 37 (.ref r :: L) (.ref r :: st) μ Q := e_aload_n (by decide +kernel : decode (bOf 61) 36 = .ok (.aload_n 0, 1)) rfl
theorem x_61_37 : Ev d 61 37 L st μ Q = Ev d 61 38 L (.int (iI 0) :: st) μ Q := e_iconst (by decide +kernel : decode (bOf 61) 37 = .ok (.iconst 0, 1))
theorem x_61_38 (h : kd t r = 4) : Ev d 61 38 L (.int x :: .ref r :: st) (t, V, A, P) Q = Ev d 61 41 L st (t, up1 V r (up1 (V r) 11 (.int x)), A, P) Q := e_putf (by decide +kernel : decode (bOf 61) 38 = .ok (.putfield 93, 3)) (by decide +kernel) (by decide +kernel) rfl h
theorem x_61_41 : Ev d 61 41 (.ref r :: L) st μ Q = Ev d 61 42 (.ref r :: L) (.ref r :: st) μ Q := e_aload_n (by decide +kernel : decode (bOf 61) 41 = .ok (.aload_n 0, 1)) rfl
theorem x_61_42 (h : kd t r = 4) : Ev d 61 42 L (.ref r :: st) (t, V, A, P) Q = Ev d 61 45 L (V r 0 :: st) (t, V, A, P) Q := e_getf (by decide +kernel : decode (bOf 61) 42 = .ok (.getfield 12, 3)) (by decide +kernel) (by decide +kernel) h
theorem x_61_45 (h : kd t r = 3) : Ev d 61 45 L (.ref r :: st) (t, V, A, P) Q = Ev d 61 48 L (V r 3 :: st) (t, V, A, P) Q := e_getf (by decide +kernel : decode (bOf 61) 45 = .ok (.getfield 63, 3)) (by decide +kernel) (by decide +kernel) h
theorem x_61_48 : Ev d 61 48 L [.int x] μ Q = Q (some (.int x)) μ := e_iret (by decide +kernel : decode (bOf 61) 48 = .ok (.ireturn, 1)) (by decide +kernel)
theorem c_62 : Call (d + 1) 62 [.ref r0, .int i1] μ Q = Ev d 62 0 [.ref r0, .int i1] [] μ Q := call_ev rfl rfl
theorem x_62_0 : Ev d 62 0 (a0 :: .int x :: L) st μ Q = Ev d 62 1 (a0 :: .int x :: L) (.int x :: st) μ Q := e_iload_n (by decide +kernel : decode (bOf 62) 0 = .ok (.iload_n 1, 1)) rfl
theorem x_62_1 : Ev d 62 1 L (.int x :: st) μ Q = if x = iI 0 then Ev d 62 48 L st μ Q else if x = iI 1 then Ev d 62 56 L st μ Q else if x = iI 2 then Ev d 62 67 L st μ Q else if x = iI 3 then Ev d 62 75 L st μ Q else if x = iI 4 then Ev d 62 83 L st μ Q else if x = iI 5 then Ev d 62 88 L st μ Q else if x = iI 6 then Ev d 62 96 L st μ Q else if x = iI 7 then Ev d 62 101 L st μ Q else Ev d 62 106 L st μ Q := by
  have hd : decode (bOf 62) 1 = .ok (.tableswitch 105 0 7 #[47, 55, 66, 74, 82, 87, 95, 100], 47) := by decide +kernel
  by_cases h0 : x = iI 0
  · rw [if_pos h0]; exact e_sw hd (sw_in (off := 47) h0 (by omega) (by omega) (by omega) rfl (by omega))
  rw [if_neg h0]
  by_cases h1 : x = iI 1
  · rw [if_pos h1]; exact e_sw hd (sw_in (off := 55) h1 (by omega) (by omega) (by omega) rfl (by omega))
  rw [if_neg h1]
  by_cases h2 : x = iI 2
  · rw [if_pos h2]; exact e_sw hd (sw_in (off := 66) h2 (by omega) (by omega) (by omega) rfl (by omega))
  rw [if_neg h2]
  by_cases h3 : x = iI 3
  · rw [if_pos h3]; exact e_sw hd (sw_in (off := 74) h3 (by omega) (by omega) (by omega) rfl (by omega))
  rw [if_neg h3]
  by_cases h4 : x = iI 4
  · rw [if_pos h4]; exact e_sw hd (sw_in (off := 82) h4 (by omega) (by omega) (by omega) rfl (by omega))
  rw [if_neg h4]
  by_cases h5 : x = iI 5
  · rw [if_pos h5]; exact e_sw hd (sw_in (off := 87) h5 (by omega) (by omega) (by omega) rfl (by omega))
  rw [if_neg h5]
  by_cases h6 : x = iI 6
  · rw [if_pos h6]; exact e_sw hd (sw_in (off := 95) h6 (by omega) (by omega) (by omega) rfl (by omega))
  rw [if_neg h6]
  by_cases h7 : x = iI 7
  · rw [if_pos h7]; exact e_sw hd (sw_in (off := 100) h7 (by omega) (by omega) (by omega) rfl (by omega))
  rw [if_neg h7]
  have g0 := ne_toInt h0
  have g1 := ne_toInt h1
  have g2 := ne_toInt h2
  have g3 := ne_toInt h3
  have g4 := ne_toInt h4
  have g5 := ne_toInt h5
  have g6 := ne_toInt h6
  have g7 := ne_toInt h7
  exact e_sw hd (sw_out (by omega) (by omega))
theorem x_62_48 : Ev d 62 48 (.ref r :: L) st μ Q = Ev d 62 49 (.ref r :: L) (.ref r :: st) μ Q := e_aload_n (by decide +kernel : decode (bOf 62) 48 = .ok (.aload_n 0, 1)) rfl
theorem x_62_49 (h : kd t r = 4) : Ev d 62 49 L (.ref r :: st) (t, V, A, P) Q = Ev d 62 52 L (V r 0 :: st) (t, V, A, P) Q := e_getf (by decide +kernel : decode (bOf 62) 49 = .ok (.getfield 12, 3)) (by decide +kernel) (by decide +kernel) h
theorem x_62_52 (h : kd t r = 3) : Ev d 62 52 L (.ref r :: st) (t, V, A, P) Q = Ev d 62 55 L (V r 3 :: st) (t, V, A, P) Q := e_getf (by decide +kernel : decode (bOf 62) 52 = .ok (.getfield 63, 3)) (by decide +kernel) (by decide +kernel) h
theorem x_62_55 : Ev d 62 55 L [.int x] μ Q = Q (some (.int x)) μ := e_iret (by decide +kernel : decode (bOf 62) 55 = .ok (.ireturn, 1)) (by decide +kernel)
theorem x_62_56 : Ev d 62 56 (.ref r :: L) st μ Q = Ev d 62 57 (.ref r :: L) (.ref r :: st) μ Q := e_aload_n (by decide +kernel : decode (bOf 62) 56 = .ok (.aload_n 0, 1)) rfl
theorem x_62_57 (h : kd t r = 4) : Ev d 62 57 L (.ref r :: st) (t, V, A, P) Q = Ev d 62 60 L (V r 0 :: st) (t, V, A, P) Q := e_getf (by decide +kernel : decode (bOf 62) 57 = .ok (.getfield 12, 3)) (by decide +kernel) (by decide +kernel) h
theorem x_62_60 (h : kd t r = 3) : Ev d 62 60 L (.ref r :: st) (t, V, A, P) Q = Ev d 62 63 L (V r 4 :: st) (t, V, A, P) Q := e_getf (by decide +kernel : decode (bOf 62) 60 = .ok (.getfield 199, 3)) (by decide +kernel) (by decide +kernel) h
theorem x_62_63 : Ev d 62 63 L [b0] μ Q = Call d 76 [b0] μ (fun v μ1 => Ev d 62 66 L (v.toList ++ []) μ1 Q) := e_callS (a := [b0]) (r := []) (by decide +kernel : decode (bOf 62) 63 = .ok (.invokestatic 147, 3)) (by decide +kernel) (by decide +kernel) (by omega) rfl (by simp)
theorem x_62_66 : Ev d 62 66 L [.int x] μ Q = Q (some (.int x)) μ := e_iret (by decide +kernel : decode (bOf 62) 66 = .ok (.ireturn, 1)) (by decide +kernel)
theorem x_62_67 : Ev d 62 67 (.ref r :: L) st μ Q = Ev d 62 68 (.ref r :: L) (.ref r :: st) μ Q := e_aload_n (by decide +kernel : decode (bOf 62) 67 = .ok (.aload_n 0, 1)) rfl
theorem x_62_68 (h : kd t r = 4) : Ev d 62 68 L (.ref r :: st) (t, V, A, P) Q = Ev d 62 71 L (V r 0 :: st) (t, V, A, P) Q := e_getf (by decide +kernel : decode (bOf 62) 68 = .ok (.getfield 12, 3)) (by decide +kernel) (by decide +kernel) h
theorem x_62_71 (h : kd t r = 3) : Ev d 62 71 L [.ref r] (t, V, A, P) Q = Call d 38 [.ref r] (t, V, A, P) (fun v μ1 => Ev d 62 74 L (v.toList ++ []) μ1 Q) := e_callV (a := []) (r := []) (by decide +kernel : decode (bOf 62) 71 = .ok (.invokevirtual 202, 3)) (by decide +kernel) (by decide +kernel) (by decide +kernel) (by omega) rfl (by simp) (by decide +kernel) h
theorem x_62_74 : Ev d 62 74 L [.int x] μ Q = Q (some (.int x)) μ := e_iret (by decide +kernel : decode (bOf 62) 74 = .ok (.ireturn, 1)) (by decide +kernel)
theorem x_62_75 : Ev d 62 75 (.ref r :: L) st μ Q = Ev d 62 76 (.ref r :: L) (.ref r :: st) μ Q := e_aload_n (by decide +kernel : decode (bOf 62) 75 = .ok (.aload_n 0, 1)) rfl
theorem x_62_76 (h : kd t r = 4) : Ev d 62 76 L (.ref r :: st) (t, V, A, P) Q = Ev d 62 79 L (V r 0 :: st) (t, V, A, P) Q := e_getf (by decide +kernel : decode (bOf 62) 76 = .ok (.getfield 12, 3)) (by decide +kernel) (by decide +kernel) h
theorem x_62_79 (h : kd t r = 3) : Ev d 62 79 L [.ref r] (t, V, A, P) Q = Call d 39 [.ref r] (t, V, A, P) (fun v μ1 => Ev d 62 82 L (v.toList ++ []) μ1 Q) := e_callV (a := []) (r := []) (by decide +kernel : decode (bOf 62) 79 = .ok (.invokevirtual 205, 3)) (by decide +kernel) (by decide +kernel) (by decide +kernel) (by omega) rfl (by simp) (by decide +kernel) h
theorem x_62_82 : Ev d 62 82 L [.int x] μ Q = Q (some (.int x)) μ := e_iret (by decide +kernel : decode (bOf 62) 82 = .ok (.ireturn, 1)) (by decide +kernel)
theorem x_62_83 : Ev d 62 83 (.ref r :: L) st μ Q = Ev d 62 84 (.ref r :: L) (.ref r :: st) μ Q := e_aload_n (by decide +kernel : decode (bOf 62) 83 = .ok (.aload_n 0, 1)) rfl
theorem x_62_84 (h : kd t r = 4) : Ev d 62 84 L [.ref r] (t, V, A, P) Q = Call d 66 [.ref r] (t, V, A, P) (fun v μ1 => Ev d 62 87 L (v.toList ++ []) μ1 Q) := e_callV (a := []) (r := []) (by decide +kernel : decode (bOf 62) 84 = .ok (.invokevirtual 208, 3)) (by decide +kernel) (by decide +kernel) (by decide +kernel) (by omega) rfl (by simp) (by decide +kernel) h
theorem x_62_87 : Ev d 62 87 L [.int x] μ Q = Q (some (.int x)) μ := e_iret (by decide +kernel : decode (bOf 62) 87 = .ok (.ireturn, 1)) (by decide +kernel)
theorem x_62_88 : Ev d 62 88 (.ref r :: L) st μ Q = Ev d 62 89 (.ref r :: L) (.ref r :: st) μ Q := e_aload_n (by decide +kernel : decode (bOf 62) 88 = .ok (.aload_n 0, 1)) rfl
theorem x_62_89 (h : kd t r = 4) : Ev d 62 89 L (.ref r :: st) (t, V, A, P) Q = Ev d 62 92 L (V r 0 :: st) (t, V, A, P) Q := e_getf (by decide +kernel : decode (bOf 62) 89 = .ok (.getfield 12, 3)) (by decide +kernel) (by decide +kernel) h
theorem x_62_92 (h : kd t r = 3) : Ev d 62 92 L [.ref r] (t, V, A, P) Q = Call d 40 [.ref r] (t, V, A, P) (fun v μ1 => Ev d 62 95 L (v.toList ++ []) μ1 Q) := e_callV (a := []) (r := []) (by decide +kernel : decode (bOf 62) 92 = .ok (.invokevirtual 211, 3)) (by decide +kernel) (by decide +kernel) (by decide +kernel) (by omega) rfl (by simp) (by decide +kernel) h
theorem x_62_95 : Ev d 62 95 L [.int x] μ Q = Q (some (.int x)) μ := e_iret (by decide +kernel : decode (bOf 62) 95 = .ok (.ireturn, 1)) (by decide +kernel)
theorem x_62_96 : Ev d 62 96 (.ref r :: L) st μ Q = Ev d 62 97 (.ref r :: L) (.ref r :: st) μ Q := e_aload_n (by decide +kernel : decode (bOf 62) 96 = .ok (.aload_n 0, 1)) rfl
theorem x_62_97 (h : kd t r = 4) : Ev d 62 97 L (.ref r :: st) (t, V, A, P) Q = Ev d 62 100 L (V r 9 :: st) (t, V, A, P) Q := e_getf (by decide +kernel : decode (bOf 62) 97 = .ok (.getfield 55, 3)) (by decide +kernel) (by decide +kernel) h
theorem x_62_100 : Ev d 62 100 L [.int x] μ Q = Q (some (.int x)) μ := e_iret (by decide +kernel : decode (bOf 62) 100 = .ok (.ireturn, 1)) (by decide +kernel)
theorem x_62_101 : Ev d 62 101 (.ref r :: L) st μ Q = Ev d 62 102 (.ref r :: L) (.ref r :: st) μ Q := e_aload_n (by decide +kernel : decode (bOf 62) 101 = .ok (.aload_n 0, 1)) rfl
theorem x_62_102 (h : kd t r = 4) : Ev d 62 102 L (.ref r :: st) (t, V, A, P) Q = Ev d 62 105 L (V r 11 :: st) (t, V, A, P) Q := e_getf (by decide +kernel : decode (bOf 62) 102 = .ok (.getfield 93, 3)) (by decide +kernel) (by decide +kernel) h
theorem x_62_105 : Ev d 62 105 L [.int x] μ Q = Q (some (.int x)) μ := e_iret (by decide +kernel : decode (bOf 62) 105 = .ok (.ireturn, 1)) (by decide +kernel)
theorem x_62_106 : Ev d 62 106 L st μ Q = Ev d 62 107 L (.int (iI (-1)) :: st) μ Q := e_iconst (by decide +kernel : decode (bOf 62) 106 = .ok (.iconst (-1), 1))
theorem x_62_107 : Ev d 62 107 L [.int x] μ Q = Q (some (.int x)) μ := e_iret (by decide +kernel : decode (bOf 62) 107 = .ok (.ireturn, 1)) (by decide +kernel)
theorem c_63 : Call (d + 1) 63 [.ref r0, .int i1] μ Q = Ev d 63 0 [.ref r0, .int i1] [] μ Q := call_ev rfl rfl
theorem x_63_0 : Ev d 63 0 (.ref r :: L) st μ Q = Ev d 63 1 (.ref r :: L) (.ref r :: st) μ Q := e_aload_n (by decide +kernel : decode (bOf 63) 0 = .ok (.aload_n 0, 1)) rfl
theorem x_63_1 (h : kd t r = 4) : Ev d 63 1 L (.ref r :: st) (t, V, A, P) Q = Ev d 63 4 L (V r 0 :: st) (t, V, A, P) Q := e_getf (by decide +kernel : decode (bOf 63) 1 = .ok (.getfield 12, 3)) (by decide +kernel) (by decide +kernel) h
theorem x_63_4 (h : kd t r = 3) : Ev d 63 4 L (.ref r :: st) (t, V, A, P) Q = Ev d 63 7 L (V r 3 :: st) (t, V, A, P) Q := e_getf (by decide +kernel : decode (bOf 63) 4 = .ok (.getfield 63, 3)) (by decide +kernel) (by decide +kernel) h
theorem x_63_7 : Ev d 63 7 L st μ Q = Ev d 63 9 L (.int (iI 32) :: st) μ Q := e_bipush (by decide +kernel : decode (bOf 63) 7 = .ok (.bipush 32, 2)) (by decide +kernel)
theorem x_63_9 : Ev d 63 9 L (.int y :: .int x :: st) μ Q = if x < y then Ev d 63 15 L st μ Q else Ev d 63 12 L st μ Q := e_icmp_lt (by decide +kernel : decode (bOf 63) 9 = .ok (.if_icmp .lt 6, 3)) (by omega)
theorem x_63_12 : Ev d 63 12 L st μ Q = Ev d 63 14 L (.int (iI (-3)) :: st) μ Q := e_bipush (by decide +kernel : decode (bOf 63) 12 = .ok (.bipush (-3), 2)) (by decide +kernel)
theorem x_63_14 : Ev d 63 14 L [.int x] μ Q = Q (some (.int x)) μ := e_iret (by decide +kernel : decode (bOf 63) 14 = .ok (.ireturn, 1)) (by decide +kernel)
theorem x_63_15 : Ev d 63 15 (.ref r :: L) st μ Q = Ev d 63 16 (.ref r :: L) (.ref r :: st) μ Q := e_aload_n (by decide +kernel : decode (bOf 63) 15 = .ok (.aload_n 0, 1)) rfl
theorem x_63_16 (h : kd t r = 4) : Ev d 63 16 L [.ref r] (t, V, A, P) Q = Call d 64 [.ref r] (t, V, A, P) (fun v μ1 => Ev d 63 19 L (v.toList ++ []) μ1 Q) := e_callV (a := []) (r := []) (by decide +kernel : decode (bOf 63) 16 = .ok (.invokevirtual 69, 3)) (by decide +kernel) (by decide +kernel) (by decide +kernel) (by omega) rfl (by simp) (by decide +kernel) h
theorem x_63_19 : Ev d 63 19 (.ref r :: L) st μ Q = Ev d 63 20 (.ref r :: L) (.ref r :: st) μ Q := e_aload_n (by decide +kernel : decode (bOf 63) 19 = .ok (.aload_n 0, 1)) rfl
theorem x_63_20 (h : kd t r = 4) : Ev d 63 20 L (.ref r :: st) (t, V, A, P) Q = Ev d 63 23 L (V r 0 :: st) (t, V, A, P) Q := e_getf (by decide +kernel : decode (bOf 63) 20 = .ok (.getfield 12, 3)) (by decide +kernel) (by decide +kernel) h
theorem x_63_23 : Ev d 63 23 (a0 :: .int x :: L) st μ Q = Ev d 63 24 (a0 :: .int x :: L) (.int x :: st) μ Q := e_iload_n (by decide +kernel : decode (bOf 63) 23 = .ok (.iload_n 1, 1)) rfl
theorem x_63_24 (h : kd t r = 3) : Ev d 63 24 L [b0, .ref r] (t, V, A, P) Q = Call d 30 [.ref r, b0] (t, V, A, P) (fun v μ1 => Ev d 63 27 L (v.toList ++ []) μ1 Q) := e_callV (a := [b0]) (r := []) (by decide +kernel : decode (bOf 63) 24 = .ok (.invokevirtual 72, 3)) (by decide +kernel) (by decide +kernel) (by decide +kernel) (by omega) rfl (by simp) (by decide +kernel) h
theorem x_63_27 : Ev d 63 27 L [.int x] μ Q = Q (some (.int x)) μ := e_iret (by decide +kernel : decode (bOf 63) 27 = .ok (.ireturn, 1)) (by decide +kernel)
theorem c_64 : Call (d + 1) 64 [.ref r0] μ Q = Ev d 64 0 [.ref r0] [] μ Q := call_ev rfl rfl
theorem x_64_0 : Ev d 64 0 (.ref r :: L) st μ Q = Ev d 64 1 (.ref r :: L) (.ref r :: st) μ Q := e_aload_n (by decide +kernel : decode (bOf 64) 0 = .ok (.aload_n 0, 1)) rfl
theorem x_64_1 (h : kd t r = 4) : Ev d 64 1 L (.ref r :: st) (t, V, A, P) Q = Ev d 64 4 L (V r 11 :: st) (t, V, A, P) Q := e_getf (by decide +kernel : decode (bOf 64) 1 = .ok (.getfield 93, 3)) (by decide +kernel) (by decide +kernel) h
theorem x_64_4 : Ev d 64 4 L st μ Q = Ev d 64 6 L (.int (iI 6) :: st) μ Q := e_bipush (by decide +kernel : decode (bOf 64) 4 = .ok (.bipush 6, 2)) (by decide +kernel)
theorem x_64_6 : Ev d 64 6 L (.int y :: .int x :: st) μ Q = if x < y then Ev d 64 13 L st μ Q else Ev d 64 9 L st μ Q := e_icmp_lt (by decide +kernel : decode (bOf 64) 6 = .ok (.if_icmp .lt 7, 3)) (by omega)
theorem x_64_9 : Ev d 64 9 (.ref r :: L) st μ Q = Ev d 64 10 (.ref r :: L) (.ref r :: st) μ Q := e_aload_n (by decide +kernel : decode (bOf 64) 9 = .ok (.aload_n 0, 1)) rfl
theorem x_64_10 (h : kd t r = 4) : Ev d 64 10 L [.ref r] (t, V, A, P) Q = Call d 65 [.ref r] (t, V, A, P) (fun v μ1 => Ev d 64 13 L (v.toList ++ []) μ1 Q) := e_callV (a := []) (r := []) (by decide +kernel : decode (bOf 64) 10 = .ok (.invokevirtual 214, 3)) (by decide +kernel) (by decide +kernel) (by decide +kernel) (by omega) rfl (by simp) (by decide +kernel) h
theorem x_64_13 : Ev d 64 13 (.ref r :: L) st μ Q = Ev d 64 14 (.ref r :: L) (.ref r :: st) μ Q := e_aload_n (by decide +kernel : decode (bOf 64) 13 = .ok (.aload_n 0, 1)) rfl
theorem x_64_14 (h : kd t r = 4) : Ev d 64 14 L (.ref r :: st) (t, V, A, P) Q = Ev d 64 17 L (V r 11 :: st) (t, V, A, P) Q := e_getf (by decide +kernel : decode (bOf 64) 14 = .ok (.getfield 93, 3)) (by decide +kernel) (by decide +kernel) h
theorem x_64_17 : Ev d 64 17 L (.int x :: st) μ Q = if x < iI 0 then Ev d 64 29 L st μ Q else Ev d 64 20 L st μ Q := e_if_lt (by decide +kernel : decode (bOf 64) 17 = .ok (.ifCond .lt 12, 3)) (by omega)
theorem x_64_20 : Ev d 64 20 (.ref r :: L) st μ Q = Ev d 64 21 (.ref r :: L) (.ref r :: st) μ Q := e_aload_n (by decide +kernel : decode (bOf 64) 20 = .ok (.aload_n 0, 1)) rfl
theorem x_64_21 (h : kd t r = 4) : Ev d 64 21 L (.ref r :: st) (t, V, A, P) Q = Ev d 64 24 L (V r 11 :: st) (t, V, A, P) Q := e_getf (by decide +kernel : decode (bOf 64) 21 = .ok (.getfield 93, 3)) (by decide +kernel) (by decide +kernel) h
theorem x_64_24 : Ev d 64 24 L st μ Q = Ev d 64 26 L (.int (iI 6) :: st) μ Q := e_bipush (by decide +kernel : decode (bOf 64) 24 = .ok (.bipush 6, 2)) (by decide +kernel)
theorem x_64_26 : Ev d 64 26 L (.int y :: .int x :: st) μ Q = if x < y then Ev d 64 30 L st μ Q else Ev d 64 29 L st μ Q := e_icmp_lt (by decide +kernel : decode (bOf 64) 26 = .ok (.if_icmp .lt 4, 3)) (by omega)
theorem x_64_29 : Ev d 64 29 L [] μ Q = Q none μ := e_ret (by decide +kernel : decode (bOf 64) 29 = .ok (.return_, 1)) (by decide +kernel)
theorem x_64_30 : Ev d 64 30 (.ref r :: L) st μ Q = Ev d 64 31 (.ref r :: L) (.ref r :: st) μ Q := e_aload_n (by decide +kernel : decode (bOf 64) 30 = .ok (.aload_n 0, 1)) rfl
theorem x_64_31 (h : kd t r = 4) : Ev d 64 31 L (.ref r :: st) (t, V, A, P) Q = Ev d 64 34 L (V r 0 :: st) (t, V, A, P) Q := e_getf (by decide +kernel : decode (bOf 64) 31 = .ok (.getfield 12, 3)) (by decide +kernel) (by decide +kernel) h
theorem x_64_34 : Ev d 64 34 (.ref r :: L) st μ Q = Ev d 64 35 (.ref r :: L) (.ref r :: st) μ Q := e_aload_n (by decide +kernel : decode (bOf 64) 34 = .ok (.aload_n 0, 1)) rfl
theorem x_64_35 (h : kd t r = 4) : Ev d 64 35 L (.ref r :: st) (t, V, A, P) Q = Ev d 64 38 L (V r 1 :: st) (t, V, A, P) Q := e_getf (by decide +kernel : decode (bOf 64) 35 = .ok (.getfield 16, 3)) (by decide +kernel) (by decide +kernel) h
theorem x_64_38 : Ev d 64 38 (.ref r :: L) st μ Q = Ev d 64 39 (.ref r :: L) (.ref r :: st) μ Q := e_aload_n (by decide +kernel : decode (bOf 64) 38 = .ok (.aload_n 0, 1)) rfl
theorem x_64_39 (h : kd t r = 4) : Ev d 64 39 L (.ref r :: st) (t, V, A, P) Q = Ev d 64 42 L (V r 11 :: st) (t, V, A, P) Q := e_getf (by decide +kernel : decode (bOf 64) 39 = .ok (.getfield 93, 3)) (by decide +kernel) (by decide +kernel) h
theorem x_64_42 (h : kd t r = 9) (hi : inB x (ln t r) = true) : Ev d 64 42 L (.int x :: .ref r :: st) (t, V, A, P) Q = Ev d 64 43 L (va_rf (P r x.toNatClampNeg) :: st) (t, V, A, P) Q := e_aald 9 (by omega) (by decide +kernel : decode (bOf 64) 42 = .ok (.aaload, 1)) h hi
theorem x_64_43 : Ev d 64 43 L [b1, b0] μ Q = Call d 29 [b0, b1] μ (fun v μ1 => Ev d 64 46 L (v.toList ++ []) μ1 Q) := e_callS (a := [b0, b1]) (r := []) (by decide +kernel : decode (bOf 64) 43 = .ok (.invokestatic 96, 3)) (by decide +kernel) (by decide +kernel) (by omega) rfl (by simp)
theorem x_64_46 : Ev d 64 46 (.ref r :: L) st μ Q = Ev d 64 47 (.ref r :: L) (.ref r :: st) μ Q := e_aload_n (by decide +kernel : decode (bOf 64) 46 = .ok (.aload_n 0, 1)) rfl
theorem x_64_47 : Ev d 64 47 L (.ref r :: st) μ Q = Ev d 64 48 L (.ref r :: .ref r :: st) μ Q := e_dup_a (by decide +kernel : decode (bOf 64) 47 = .ok (.dup, 1))
theorem x_64_48 (h : kd t r = 4) : Ev d 64 48 L (.ref r :: st) (t, V, A, P) Q = Ev d 64 51 L (V r 11 :: st) (t, V, A, P) Q := e_getf (by decide +kernel : decode (bOf 64) 48 = .ok (.getfield 93, 3)) (by decide +kernel) (by decide +kernel) h
theorem x_64_51 : Ev d 64 51 L st μ Q = Ev d 64 52 L (.int (iI 1) :: st) μ Q := e_iconst (by decide +kernel : decode (bOf 64) 51 = .ok (.iconst 1, 1))
theorem x_64_52 : Ev d 64 52 L (.int y :: .int x :: st) μ Q = Ev d 64 53 L (.int (x + y) :: st) μ Q := e_iadd (by decide +kernel : decode (bOf 64) 52 = .ok (.iadd, 1))
theorem x_64_53 (h : kd t r = 4) : Ev d 64 53 L (.int x :: .ref r :: st) (t, V, A, P) Q = Ev d 64 56 L st (t, up1 V r (up1 (V r) 11 (.int x)), A, P) Q := e_putf (by decide +kernel : decode (bOf 64) 53 = .ok (.putfield 93, 3)) (by decide +kernel) (by decide +kernel) rfl h
theorem x_64_56 : Ev d 64 56 L [] μ Q = Q none μ := e_ret (by decide +kernel : decode (bOf 64) 56 = .ok (.return_, 1)) (by decide +kernel)
theorem c_65 : Call (d + 1) 65 [.ref r0] μ Q = Ev d 65 0 [.ref r0, .null, .null] [] μ Q := call_ev rfl rfl
theorem x_65_0 : Ev d 65 0 (.ref r :: L) st μ Q = Ev d 65 1 (.ref r :: L) (.ref r :: st) μ Q := e_aload_n (by decide +kernel : decode (bOf 65) 0 = .ok (.aload_n 0, 1)) rfl
theorem x_65_1 (h : kd t r = 4) : Ev d 65 1 L (.ref r :: st) (t, V, A, P) Q = Ev d 65 4 L (V r 1 :: st) (t, V, A, P) Q := e_getf (by decide +kernel : decode (bOf 65) 1 = .ok (.getfield 16, 3)) (by decide +kernel) (by decide +kernel) h
theorem x_65_4 : Ev d 65 4 L st μ Q = Ev d 65 5 L (.int (iI 0) :: st) μ Q := e_iconst (by decide +kernel : decode (bOf 65) 4 = .ok (.iconst 0, 1))
theorem x_65_5 (h : kd t r = 9) (hi : inB x (ln t r) = true) : Ev d 65 5 L (.int x :: .ref r :: st) (t, V, A, P) Q = Ev d 65 6 L (va_rf (P r x.toNatClampNeg) :: st) (t, V, A, P) Q := e_aald 9 (by omega) (by decide +kernel : decode (bOf 65) 5 = .ok (.aaload, 1)) h hi
theorem x_65_6 (h : a0.category = 1) : Ev d 65 6 (a0 :: a1 :: L) (.ref r :: st) μ Q = Ev d 65 7 (a0 :: .ref r :: L) st μ Q := e_astore_n (by decide +kernel : decode (bOf 65) 6 = .ok (.astore_n 1, 1)) (by show stOK _ 1 = true; simp [stOK, h])
theorem x_65_7 : Ev d 65 7 L st μ Q = Ev d 65 8 L (.int (iI 1) :: st) μ Q := e_iconst (by decide +kernel : decode (bOf 65) 7 = .ok (.iconst 1, 1))
theorem x_65_8 (h : a1.category = 1) : Ev d 65 8 (a0 :: a1 :: a2 :: L) (.int x :: st) μ Q = Ev d 65 9 (a0 :: a1 :: .int x :: L) st μ Q := e_istore_n (by decide +kernel : decode (bOf 65) 8 = .ok (.istore_n 2, 1)) (by show stOK _ 2 = true; simp [stOK, h])
theorem x_65_9 : Ev d 65 9 (a0 :: a1 :: .int x :: L) st μ Q = Ev d 65 10 (a0 :: a1 :: .int x :: L) (.int x :: st) μ Q := e_iload_n (by decide +kernel : decode (bOf 65) 9 = .ok (.iload_n 2, 1)) rfl
theorem x_65_10 : Ev d 65 10 L st μ Q = Ev d 65 12 L (.int (iI 6) :: st) μ Q := e_bipush (by decide +kernel : decode (bOf 65) 10 = .ok (.bipush 6, 2)) (by decide +kernel)
theorem x_65_12 : Ev d 65 12 L (.int y :: .int x :: st) μ Q = if x < y then Ev d 65 15 L st μ Q else Ev d 65 35 L st μ Q := e_icmp_ge (by decide +kernel : decode (bOf 65) 12 = .ok (.if_icmp .ge 23, 3)) (by omega)
theorem x_65_15 : Ev d 65 15 (.ref r :: L) st μ Q = Ev d 65 16 (.ref r :: L) (.ref r :: st) μ Q := e_aload_n (by decide +kernel : decode (bOf 65) 15 = .ok (.aload_n 0, 1)) rfl
theorem x_65_16 (h : kd t r = 4) : Ev d 65 16 L (.ref r :: st) (t, V, A, P) Q = Ev d 65 19 L (V r 1 :: st) (t, V, A, P) Q := e_getf (by decide +kernel : decode (bOf 65) 16 = .ok (.getfield 16, 3)) (by decide +kernel) (by decide +kernel) h
theorem x_65_19 : Ev d 65 19 (a0 :: a1 :: .int x :: L) st μ Q = Ev d 65 20 (a0 :: a1 :: .int x :: L) (.int x :: st) μ Q := e_iload_n (by decide +kernel : decode (bOf 65) 19 = .ok (.iload_n 2, 1)) rfl
theorem x_65_20 : Ev d 65 20 L st μ Q = Ev d 65 21 L (.int (iI 1) :: st) μ Q := e_iconst (by decide +kernel : decode (bOf 65) 20 = .ok (.iconst 1, 1))
theorem x_65_21 : Ev d 65 21 L (.int y :: .int x :: st) μ Q = Ev d 65 22 L (.int (x - y) :: st) μ Q := e_isub (by decide +kernel : decode (bOf 65) 21 = .ok (.isub, 1))
theorem x_65_22 : Ev d 65 22 (.ref r :: L) st μ Q = Ev d 65 23 (.ref r :: L) (.ref r :: st) μ Q := e_aload_n (by decide +kernel : decode (bOf 65) 22 = .ok (.aload_n 0, 1)) rfl
theorem x_65_23 (h : kd t r = 4) : Ev d 65 23 L (.ref r :: st) (t, V, A, P) Q = Ev d 65 26 L (V r 1 :: st) (t, V, A, P) Q := e_getf (by decide +kernel : decode (bOf 65) 23 = .ok (.getfield 16, 3)) (by decide +kernel) (by decide +kernel) h
theorem x_65_26 : Ev d 65 26 (a0 :: a1 :: .int x :: L) st μ Q = Ev d 65 27 (a0 :: a1 :: .int x :: L) (.int x :: st) μ Q := e_iload_n (by decide +kernel : decode (bOf 65) 26 = .ok (.iload_n 2, 1)) rfl
theorem x_65_27 (h : kd t r = 9) (hi : inB x (ln t r) = true) : Ev d 65 27 L (.int x :: .ref r :: st) (t, V, A, P) Q = Ev d 65 28 L (va_rf (P r x.toNatClampNeg) :: st) (t, V, A, P) Q := e_aald 9 (by omega) (by decide +kernel : decode (bOf 65) 27 = .ok (.aaload, 1)) h hi
theorem x_65_28 (h : kd t r = 9) (hv : kd t q = 3) (hi : inB x (ln t r) = true) : Ev d 65 28 L (.ref q :: .int x :: .ref r :: st) (t, V, A, P) Q = Ev d 65 29 L st (t, V, A, up1 P r (up1 (P r) x.toNatClampNeg (some q))) Q := e_aast9 (by decide +kernel : decode (bOf 65) 28 = .ok (.aastore, 1)) h hv hi
theorem x_65_29 (h : a1.category = 1) : Ev d 65 29 (a0 :: a1 :: .int x :: L) st μ Q = Ev d 65 32 (a0 :: a1 :: .int (x + (iI 1)) :: L) st μ Q := e_iinc (by decide +kernel : decode (bOf 65) 29 = .ok (.iinc 2 1, 3)) rfl (by simp [stOK, h])
theorem x_65_32 : Ev d 65 32 L st μ Q = Ev d 65 9 L st μ Q := e_goto (by decide +kernel : decode (bOf 65) 32 = .ok (.goto (-23), 3)) (by omega)
theorem x_65_35 : Ev d 65 35 (.ref r :: L) st μ Q = Ev d 65 36 (.ref r :: L) (.ref r :: st) μ Q := e_aload_n (by decide +kernel : decode (bOf 65) 35 = .ok (.aload_n 0, 1)) rfl
theorem x_65_36 (h : kd t r = 4) : Ev d 65 36 L (.ref r :: st) (t, V, A, P) Q = Ev d 65 39 L (V r 1 :: st) (t, V, A, P) Q := e_getf (by decide +kernel : decode (bOf 65) 36 = .ok (.getfield 16, 3)) (by decide +kernel) (by decide +kernel) h
theorem x_65_39 : Ev d 65 39 L st μ Q = Ev d 65 40 L (.int (iI 5) :: st) μ Q := e_iconst (by decide +kernel : decode (bOf 65) 39 = .ok (.iconst 5, 1))
theorem x_65_40 : Ev d 65 40 (a0 :: .ref r :: L) st μ Q = Ev d 65 41 (a0 :: .ref r :: L) (.ref r :: st) μ Q := e_aload_n (by decide +kernel : decode (bOf 65) 40 = .ok (.aload_n 1, 1)) rfl
theorem x_65_41 (h : kd t r = 9) (hv : kd t q = 3) (hi : inB x (ln t r) = true) : Ev d 65 41 L (.ref q :: .int x :: .ref r :: st) (t, V, A, P) Q = Ev d 65 42 L st (t, V, A, up1 P r (up1 (P r) x.toNatClampNeg (some q))) Q := e_aast9 (by decide +kernel : decode (bOf 65) 41 = .ok (.aastore, 1)) h hv hi
theorem x_65_42 : Ev d 65 42 (.ref r :: L) st μ Q = Ev d 65 43 (.ref r :: L) (.ref r :: st) μ Q := e_aload_n (by decide +kernel : decode (bOf 65) 42 = .ok (.aload_n 0, 1)) rfl
theorem x_65_43 : Ev d 65 43 L st μ Q = Ev d 65 44 L (.int (iI 5) :: st) μ Q := e_iconst (by decide +kernel : decode (bOf 65) 43 = .ok (.iconst 5, 1))
theorem x_65_44 (h : kd t r = 4) : Ev d 65 44 L (.int x :: .ref r :: st) (t, V, A, P) Q = Ev d 65 47 L st (t, up1 V r (up1 (V r) 11 (.int x)), A, P) Q := e_putf (by decide +kernel : decode (bOf 65) 44 = .ok (.putfield 93, 3)) (by decide +kernel) (by decide +kernel) rfl h
theorem x_65_47 : Ev d 65 47 L [] μ Q = Q none μ := e_ret (by decide +kernel : decode (bOf 65) 47 = .ok (.return_, 1)) (by decide +kernel)
theorem c_66 : Call (d + 1) 66 [.ref r0] μ Q = Ev d 66 0 [.ref r0, .null] [] μ Q := call_ev rfl rfl
theorem x_66_0 : Ev d 66 0 (.ref r :: L) st μ Q = Ev d 66 1 (.ref r :: L) (.ref r :: st) μ Q := e_aload_n (by decide +kernel : decode (bOf 66) 0 = .ok (.aload_n 0, 1)) rfl
theorem x_66_1 (h : kd t r = 4) : Ev d 66 1 L (.ref r :: st) (t, V, A, P) Q = Ev d 66 4 L (V r 8 :: st) (t, V, A, P) Q := e_getf (by decide +kernel : decode (bOf 66) 1 = .ok (.getfield 51, 3)) (by decide +kernel) (by decide +kernel) h
theorem x_66_4 : Ev d 66 4 L st μ Q = Ev d 66 5 L (.int (iI (-1)) :: st) μ Q := e_iconst (by decide +kernel : decode (bOf 66) 4 = .ok (.iconst (-1), 1))
theorem x_66_5 (h : kd t r = 2) : Ev d 66 5 L [b0, .ref r] (t, V, A, P) Q = Call d 22 [.ref r, b0] (t, V, A, P) (fun v μ1 => Ev d 66 8 L (v.toList ++ []) μ1 Q) := e_callV (a := [b0]) (r := []) (by decide +kernel : decode (bOf 66) 5 = .ok (.invokevirtual 173, 3)) (by decide +kernel) (by decide +kernel) (by decide +kernel) (by omega) rfl (by simp) (by decide +kernel) h
theorem x_66_8 : Ev d 66 8 L st μ Q = Ev d 66 9 L (.int (iI 0) :: st) μ Q := e_iconst (by decide +kernel : decode (bOf 66) 8 = .ok (.iconst 0, 1))
theorem x_66_9 (h : a0.category = 1) : Ev d 66 9 (a0 :: a1 :: L) (.int x :: st) μ Q = Ev d 66 10 (a0 :: .int x :: L) st μ Q := e_istore_n (by decide +kernel : decode (bOf 66) 9 = .ok (.istore_n 1, 1)) (by show stOK _ 1 = true; simp [stOK, h])
theorem x_66_10 : Ev d 66 10 (a0 :: .int x :: L) st μ Q = Ev d 66 11 (a0 :: .int x :: L) (.int x :: st) μ Q := e_iload_n (by decide +kernel : decode (bOf 66) 10 = .ok (.iload_n 1, 1)) rfl
theorem x_66_11 : Ev d 66 11 (.ref r :: L) st μ Q = Ev d 66 12 (.ref r :: L) (.ref r :: st) μ Q := e_aload_n (by decide +kernel : decode (bOf 66) 11 = .ok (.aload_n 0, 1)) rfl
theorem x_66_12 (h : kd t r = 4) : Ev d 66 12 L (.ref r :: st) (t, V, A, P) Q = Ev d 66 15 L (V r 0 :: st) (t, V, A, P) Q := e_getf (by decide +kernel : decode (bOf 66) 12 = .ok (.getfield 12, 3)) (by decide +kernel) (by decide +kernel) h
theorem x_66_15 (h : kd t r = 3) : Ev d 66 15 L [.ref r, s0] (t, V, A, P) Q = Call d 33 [.ref r] (t, V, A, P) (fun v μ1 => Ev d 66 18 L (v.toList ++ [s0]) μ1 Q) := e_callV (a := []) (r := [s0]) (by decide +kernel : decode (bOf 66) 15 = .ok (.invokevirtual 176, 3)) (by decide +kernel) (by decide +kernel) (by decide +kernel) (by omega) rfl (by simp) (by decide +kernel) h
theorem x_66_18 : Ev d 66 18 L (.int y :: .int x :: st) μ Q = if x < y then Ev d 66 21 L st μ Q else Ev d 66 42 L st μ Q := e_icmp_ge (by decide +kernel : decode (bOf 66) 18 = .ok (.if_icmp .ge 24, 3)) (by omega)
theorem x_66_21 : Ev d 66 21 (.ref r :: L) st μ Q = Ev d 66 22 (.ref r :: L) (.ref r :: st) μ Q := e_aload_n (by decide +kernel : decode (bOf 66) 21 = .ok (.aload_n 0, 1)) rfl
theorem x_66_22 (h : kd t r = 4) : Ev d 66 22 L (.ref r :: st) (t, V, A, P) Q = Ev d 66 25 L (V r 8 :: st) (t, V, A, P) Q := e_getf (by decide +kernel : decode (bOf 66) 22 = .ok (.getfield 51, 3)) (by decide +kernel) (by decide +kernel) h
theorem x_66_25 : Ev d 66 25 (.ref r :: L) st μ Q = Ev d 66 26 (.ref r :: L) (.ref r :: st) μ Q := e_aload_n (by decide +kernel : decode (bOf 66) 25 = .ok (.aload_n 0, 1)) rfl
theorem x_66_26 (h : kd t r = 4) : Ev d 66 26 L (.ref r :: st) (t, V, A, P) Q = Ev d 66 29 L (V r 0 :: st) (t, V, A, P) Q := e_getf (by decide +kernel : decode (bOf 66) 26 = .ok (.getfield 12, 3)) (by decide +kernel) (by decide +kernel) h
theorem x_66_29 : Ev d 66 29 (a0 :: .int x :: L) st μ Q = Ev d 66 30 (a0 :: .int x :: L) (.int x :: st) μ Q := e_iload_n (by decide +kernel : decode (bOf 66) 29 = .ok (.iload_n 1, 1)) rfl
theorem x_66_30 (h : kd t r = 3) : Ev d 66 30 L [b0, .ref r, s0] (t, V, A, P) Q = Call d 35 [.ref r, b0] (t, V, A, P) (fun v μ1 => Ev d 66 33 L (v.toList ++ [s0]) μ1 Q) := e_callV (a := [b0]) (r := [s0]) (by decide +kernel : decode (bOf 66) 30 = .ok (.invokevirtual 87, 3)) (by decide +kernel) (by decide +kernel) (by decide +kernel) (by omega) rfl (by simp) (by decide +kernel) h
theorem x_66_33 (h : kd t r = 2) : Ev d 66 33 L [b0, .ref r] (t, V, A, P) Q = Call d 24 [.ref r, b0] (t, V, A, P) (fun v μ1 => Ev d 66 36 L (v.toList ++ []) μ1 Q) := e_callV (a := [b0]) (r := []) (by decide +kernel : decode (bOf 66) 33 = .ok (.invokevirtual 179, 3)) (by decide +kernel) (by decide +kernel) (by decide +kernel) (by omega) rfl (by simp) (by decide +kernel) h
theorem x_66_36 (h : a0.category = 1) : Ev d 66 36 (a0 :: .int x :: L) st μ Q = Ev d 66 39 (a0 :: .int (x + (iI 1)) :: L) st μ Q := e_iinc (by decide +kernel : decode (bOf 66) 36 = .ok (.iinc 1 1, 3)) rfl (by simp [stOK, h])
theorem x_66_39 : Ev d 66 39 L st μ Q = Ev d 66 10 L st μ Q := e_goto (by decide +kernel : decode (bOf 66) 39 = .ok (.goto (-29), 3)) (by omega)
theorem x_66_42 : Ev d 66 42 (.ref r :: L) st μ Q = Ev d 66 43 (.ref r :: L) (.ref r :: st) μ Q := e_aload_n (by decide +kernel : decode (bOf 66) 42 = .ok (.aload_n 0, 1)) rfl
theorem x_66_43 (h : kd t r = 4) : Ev d 66 43 L (.ref r :: st) (t, V, A, P) Q = Ev d 66 46 L (V r 8 :: st) (t, V, A, P) Q := e_getf (by decide +kernel : decode (bOf 66) 43 = .ok (.getfield 51, 3)) (by decide +kernel) (by decide +kernel) h
theorem x_66_46 (h : kd t r = 2) : Ev d 66 46 L (.ref r :: st) (t, V, A, P) Q = Ev d 66 49 L (V r 4 :: st) (t, V, A, P) Q := e_getf (by decide +kernel : decode (bOf 66) 46 = .ok (.getfield 217, 3)) (by decide +kernel) (by decide +kernel) h
theorem x_66_49 : Ev d 66 49 L [.int x] μ Q = Q (some (.int x)) μ := e_iret (by decide +kernel : decode (bOf 66) 49 = .ok (.ireturn, 1)) (by decide +kernel)
theorem c_67 : Call (d + 1) 67 [.ref r0] μ Q = Ev d 67 0 [.ref r0, .null, .null] [] μ Q := call_ev rfl rfl
theorem x_67_0 : Ev d 67 0 L st μ Q = Ev d 67 1 L (.int (iI 0) :: st) μ Q := e_iconst (by decide +kernel : decode (bOf 67) 0 = .ok (.iconst 0, 1))
theorem x_67_1 (h : a0.category = 1) : Ev d 67 1 (a0 :: a1 :: L) (.int x :: st) μ Q = Ev d 67 2 (a0 :: .int x :: L) st μ Q := e_istore_n (by decide +kernel : decode (bOf 67) 1 = .ok (.istore_n 1, 1)) (by show stOK _ 1 = true; simp [stOK, h])
theorem x_67_2 : Ev d 67 2 (.ref r :: L) st μ Q = Ev d 67 3 (.ref r :: L) (.ref r :: st) μ Q := e_aload_n (by decide +kernel : decode (bOf 67) 2 = .ok (.aload_n 0, 1)) rfl
theorem x_67_3 : Ev d 67 3 L st μ Q = Ev d 67 4 L (.int (iI 0) :: st) μ Q := e_iconst (by decide +kernel : decode (bOf 67) 3 = .ok (.iconst 0, 1))
theorem x_67_4 (h : kd t r = 4) : Ev d 67 4 L (.int x :: .ref r :: st) (t, V, A, P) Q = Ev d 67 7 L st (t, up1 V r (up1 (V r) 10 (.int x)), A, P) Q := e_putf (by decide +kernel : decode (bOf 67) 4 = .ok (.putfield 66, 3)) (by decide +kernel) (by decide +kernel) rfl h
theorem x_67_7 : Ev d 67 7 L st μ Q = Ev d 67 8 L (.int (iI 0) :: st) μ Q := e_iconst (by decide +kernel : decode (bOf 67) 7 = .ok (.iconst 0, 1))
theorem x_67_8 (h : a1.category = 1) : Ev d 67 8 (a0 :: a1 :: a2 :: L) (.int x :: st) μ Q = Ev d 67 9 (a0 :: a1 :: .int x :: L) st μ Q := e_istore_n (by decide +kernel : decode (bOf 67) 8 = .ok (.istore_n 2, 1)) (by show stOK _ 2 = true; simp [stOK, h])
theorem x_67_9 : Ev d 67 9 (a0 :: a1 :: .int x :: L) st μ Q = Ev d 67 10 (a0 :: a1 :: .int x :: L) (.int x :: st) μ Q := e_iload_n (by decide +kernel : decode (bOf 67) 9 = .ok (.iload_n 2, 1)) rfl
theorem x_67_10 : Ev d 67 10 (.ref r :: L) st μ Q = Ev d 67 11 (.ref r :: L) (.ref r :: st) μ Q := e_aload_n (by decide +kernel : decode (bOf 67) 10 = .ok (.aload_n 0, 1)) rfl
theorem x_67_11 (h : kd t r = 4) : Ev d 67 11 L (.ref r :: st) (t, V, A, P) Q = Ev d 67 14 L (V r 9 :: st) (t, V, A, P) Q := e_getf (by decide +kernel : decode (bOf 67) 11 = .ok (.getfield 55, 3)) (by decide +kernel) (by decide +kernel) h
theorem x_67_14 : Ev d 67 14 L (.int y :: .int x :: st) μ Q = if x < y then Ev d 67 17 L st μ Q else Ev d 67 45 L st μ Q := e_icmp_ge (by decide +kernel : decode (bOf 67) 14 = .ok (.if_icmp .ge 31, 3)) (by omega)
theorem x_67_17 : Ev d 67 17 (.ref r :: L) st μ Q = Ev d 67 18 (.ref r :: L) (.ref r :: st) μ Q := e_aload_n (by decide +kernel : decode (bOf 67) 17 = .ok (.aload_n 0, 1)) rfl
theorem x_67_18 : Ev d 67 18 (a0 :: a1 :: .int x :: L) st μ Q = Ev d 67 19 (a0 :: a1 :: .int x :: L) (.int x :: st) μ Q := e_iload_n (by decide +kernel : decode (bOf 67) 18 = .ok (.iload_n 2, 1)) rfl
theorem x_67_19 (h : kd t r = 4) : Ev d 67 19 L [b0, .ref r] (t, V, A, P) Q = Call d 68 [.ref r, b0] (t, V, A, P) (fun v μ1 => Ev d 67 22 L (v.toList ++ []) μ1 Q) := e_callV (a := [b0]) (r := []) (by decide +kernel : decode (bOf 67) 19 = .ok (.invokevirtual 220, 3)) (by decide +kernel) (by decide +kernel) (by decide +kernel) (by omega) rfl (by simp) (by decide +kernel) h
theorem x_67_22 : Ev d 67 22 L (.int x :: st) μ Q = if x = iI 0 then Ev d 67 39 L st μ Q else Ev d 67 25 L st μ Q := e_if_eq (by decide +kernel : decode (bOf 67) 22 = .ok (.ifCond .eq 17, 3)) (by omega)
theorem x_67_25 : Ev d 67 25 (.ref r :: L) st μ Q = Ev d 67 26 (.ref r :: L) (.ref r :: st) μ Q := e_aload_n (by decide +kernel : decode (bOf 67) 25 = .ok (.aload_n 0, 1)) rfl
theorem x_67_26 : Ev d 67 26 (a0 :: .int x :: L) st μ Q = Ev d 67 27 (a0 :: .int x :: L) (.int x :: st) μ Q := e_iload_n (by decide +kernel : decode (bOf 67) 26 = .ok (.iload_n 1, 1)) rfl
theorem x_67_27 : Ev d 67 27 (a0 :: a1 :: .int x :: L) st μ Q = Ev d 67 28 (a0 :: a1 :: .int x :: L) (.int x :: st) μ Q := e_iload_n (by decide +kernel : decode (bOf 67) 27 = .ok (.iload_n 2, 1)) rfl
theorem x_67_28 (h : kd t r = 4) : Ev d 67 28 L [b1, b0, .ref r] (t, V, A, P) Q = Call d 69 [.ref r, b0, b1] (t, V, A, P) (fun v μ1 => Ev d 67 31 L (v.toList ++ []) μ1 Q) := e_callV (a := [b0, b1]) (r := []) (by decide +kernel : decode (bOf 67) 28 = .ok (.invokevirtual 223, 3)) (by decide +kernel) (by decide +kernel) (by decide +kernel) (by omega) rfl (by simp) (by decide +kernel) h
theorem x_67_31 (h : a0.category = 1) : Ev d 67 31 (a0 :: a1 :: L) (.int x :: st) μ Q = Ev d 67 32 (a0 :: .int x :: L) st μ Q := e_istore_n (by decide +kernel : decode (bOf 67) 31 = .ok (.istore_n 1, 1)) (by show stOK _ 1 = true; simp [stOK, h])
theorem x_67_32 : Ev d 67 32 (a0 :: .int x :: L) st μ Q = Ev d 67 33 (a0 :: .int x :: L) (.int x :: st) μ Q := e_iload_n (by decide +kernel : decode (bOf 67) 32 = .ok (.iload_n 1, 1)) rfl
theorem x_67_33 : Ev d 67 33 L st μ Q = Ev d 67 34 L (.int (iI (-1)) :: st) μ Q := e_iconst (by decide +kernel : decode (bOf 67) 33 = .ok (.iconst (-1), 1))
theorem x_67_34 : Ev d 67 34 L (.int y :: .int x :: st) μ Q = if x = y then Ev d 67 37 L st μ Q else Ev d 67 39 L st μ Q := e_icmp_ne (by decide +kernel : decode (bOf 67) 34 = .ok (.if_icmp .ne 5, 3)) (by omega)
theorem x_67_37 : Ev d 67 37 (a0 :: a1 :: .int x :: L) st μ Q = Ev d 67 38 (a0 :: a1 :: .int x :: L) (.int x :: st) μ Q := e_iload_n (by decide +kernel : decode (bOf 67) 37 = .ok (.iload_n 2, 1)) rfl
theorem x_67_38 : Ev d 67 38 L [.int x] μ Q = Q (some (.int x)) μ := e_iret (by decide +kernel : decode (bOf 67) 38 = .ok (.ireturn, 1)) (by decide +kernel)
theorem x_67_39 (h : a1.category = 1) : Ev d 67 39 (a0 :: a1 :: .int x :: L) st μ Q = Ev d 67 42 (a0 :: a1 :: .int (x + (iI 1)) :: L) st μ Q := e_iinc (by decide +kernel : decode (bOf 67) 39 = .ok (.iinc 2 1, 3)) rfl (by simp [stOK, h])
theorem x_67_42 : Ev d 67 42 L st μ Q = Ev d 67 9 L st μ Q := e_goto (by decide +kernel : decode (bOf 67) 42 = .ok (.goto (-33), 3)) (by omega)
theorem x_67_45 : Ev d 67 45 (a0 :: .int x :: L) st μ Q = Ev d 67 46 (a0 :: .int x :: L) (.int x :: st) μ Q := e_iload_n (by decide +kernel : decode (bOf 67) 45 = .ok (.iload_n 1, 1)) rfl
theorem x_67_46 : Ev d 67 46 L (.int x :: st) μ Q = if x = iI 0 then Ev d 67 49 L st μ Q else Ev d 67 60 L st μ Q := e_if_ne (by decide +kernel : decode (bOf 67) 46 = .ok (.ifCond .ne 14, 3)) (by omega)
theorem x_67_49 : Ev d 67 49 (.ref r :: L) st μ Q = Ev d 67 50 (.ref r :: L) (.ref r :: st) μ Q := e_aload_n (by decide +kernel : decode (bOf 67) 49 = .ok (.aload_n 0, 1)) rfl
theorem x_67_50 (h : kd t r = 4) : Ev d 67 50 L (.ref r :: st) (t, V, A, P) Q = Ev d 67 53 L (V r 10 :: st) (t, V, A, P) Q := e_getf (by decide +kernel : decode (bOf 67) 50 = .ok (.getfield 66, 3)) (by decide +kernel) (by decide +kernel) h
theorem x_67_53 : Ev d 67 53 L (.int x :: st) μ Q = if iI 0 < x then Ev d 67 56 L st μ Q else Ev d 67 60 L st μ Q := e_if_le (by decide +kernel : decode (bOf 67) 53 = .ok (.ifCond .le 7, 3)) (by omega)
theorem x_67_56 : Ev d 67 56 L st μ Q = Ev d 67 57 L (.int (iI (-1)) :: st) μ Q := e_iconst (by decide +kernel : decode (bOf 67) 56 = .ok (.iconst (-1), 1))
theorem x_67_57 : Ev d 67 57 L st μ Q = Ev d 67 64 L st μ Q := e_goto (by decide +kernel : decode (bOf 67) 57 = .ok (.goto 7, 3)) (by omega)
theorem x_67_60 : Ev d 67 60 (.ref r :: L) st μ Q = Ev d 67 61 (.ref r :: L) (.ref r :: st) μ Q := e_aload_n (by decide +kernel : decode (bOf 67) 60 = .ok (.aload_n 0, 1)) rfl
theorem x_67_61 (h : kd t r = 4) : Ev d 67 61 L (.ref r :: st) (t, V, A, P) Q = Ev d 67 64 L (V r 9 :: st) (t, V, A, P) Q := e_getf (by decide +kernel : decode (bOf 67) 61 = .ok (.getfield 55, 3)) (by decide +kernel) (by decide +kernel) h
theorem x_67_64 : Ev d 67 64 L [.int x] μ Q = Q (some (.int x)) μ := e_iret (by decide +kernel : decode (bOf 67) 64 = .ok (.ireturn, 1)) (by decide +kernel)
theorem c_68 : Call (d + 1) 68 [.ref r0, .int i1] μ Q = Ev d 68 0 [.ref r0, .int i1] [] μ Q := call_ev rfl rfl
theorem x_68_0 : Ev d 68 0 (.ref r :: L) st μ Q = Ev d 68 1 (.ref r :: L) (.ref r :: st) μ Q := e_aload_n (by decide +kernel : decode (bOf 68) 0 = .ok (.aload_n 0, 1)) rfl
theorem x_68_1 : Ev d 68 1 (a0 :: .int x :: L) st μ Q = Ev d 68 2 (a0 :: .int x :: L) (.int x :: st) μ Q := e_iload_n (by decide +kernel : decode (bOf 68) 1 = .ok (.iload_n 1, 1)) rfl
theorem x_68_2 (h : kd t r = 4) : Ev d 68 2 L [b0, .ref r] (t, V, A, P) Q = Call d 73 [.ref r, b0] (t, V, A, P) (fun v μ1 => Ev d 68 5 L (v.toList ++ []) μ1 Q) := e_callV (a := [b0]) (r := []) (by decide +kernel : decode (bOf 68) 2 = .ok (.invokevirtual 226, 3)) (by decide +kernel) (by decide +kernel) (by decide +kernel) (by omega) rfl (by simp) (by decide +kernel) h
theorem x_68_5 : Ev d 68 5 L st μ Q = Ev d 68 7 L (.int (iI 32) :: st) μ Q := e_bipush (by decide +kernel : decode (bOf 68) 5 = .ok (.bipush 32, 2)) (by decide +kernel)
theorem x_68_7 : Ev d 68 7 L (.int y :: .int x :: st) μ Q = if x = y then Ev d 68 32 L st μ Q else Ev d 68 10 L st μ Q := e_icmp_eq (by decide +kernel : decode (bOf 68) 7 = .ok (.if_icmp .eq 25, 3)) (by omega)
theorem x_68_10 : Ev d 68 10 (.ref r :: L) st μ Q = Ev d 68 11 (.ref r :: L) (.ref r :: st) μ Q := e_aload_n (by decide +kernel : decode (bOf 68) 10 = .ok (.aload_n 0, 1)) rfl
theorem x_68_11 : Ev d 68 11 (a0 :: .int x :: L) st μ Q = Ev d 68 12 (a0 :: .int x :: L) (.int x :: st) μ Q := e_iload_n (by decide +kernel : decode (bOf 68) 11 = .ok (.iload_n 1, 1)) rfl
theorem x_68_12 (h : kd t r = 4) : Ev d 68 12 L [b0, .ref r] (t, V, A, P) Q = Call d 72 [.ref r, b0] (t, V, A, P) (fun v μ1 => Ev d 68 15 L (v.toList ++ []) μ1 Q) := e_callV (a := [b0]) (r := []) (by decide +kernel : decode (bOf 68) 12 = .ok (.invokevirtual 229, 3)) (by decide +kernel) (by decide +kernel) (by decide +kernel) (by omega) rfl (by simp) (by decide +kernel) h
theorem x_68_15 : Ev d 68 15 L (.int x :: st) μ Q = if x < iI 0 then Ev d 68 28 L st μ Q else Ev d 68 18 L st μ Q := e_if_lt (by decide +kernel : decode (bOf 68) 15 = .ok (.ifCond .lt 13, 3)) (by omega)
theorem x_68_18 : Ev d 68 18 (.ref r :: L) st μ Q = Ev d 68 19 (.ref r :: L) (.ref r :: st) μ Q := e_aload_n (by decide +kernel : decode (bOf 68) 18 = .ok (.aload_n 0, 1)) rfl
theorem x_68_19 : Ev d 68 19 (a0 :: .int x :: L) st μ Q = Ev d 68 20 (a0 :: .int x :: L) (.int x :: st) μ Q := e_iload_n (by decide +kernel : decode (bOf 68) 19 = .ok (.iload_n 1, 1)) rfl
theorem x_68_20 : Ev d 68 20 L st μ Q = Ev d 68 21 L (.int (iI 1) :: st) μ Q := e_iconst (by decide +kernel : decode (bOf 68) 20 = .ok (.iconst 1, 1))
theorem x_68_21 : Ev d 68 21 L (.int y :: .int x :: st) μ Q = Ev d 68 22 L (.int (x - y) :: st) μ Q := e_isub (by decide +kernel : decode (bOf 68) 21 = .ok (.isub, 1))
theorem x_68_22 (h : kd t r = 4) : Ev d 68 22 L [b0, .ref r] (t, V, A, P) Q = Call d 72 [.ref r, b0] (t, V, A, P) (fun v μ1 => Ev d 68 25 L (v.toList ++ []) μ1 Q) := e_callV (a := [b0]) (r := []) (by decide +kernel : decode (bOf 68) 22 = .ok (.invokevirtual 229, 3)) (by decide +kernel) (by decide +kernel) (by decide +kernel) (by omega) rfl (by simp) (by decide +kernel) h
theorem x_68_25 : Ev d 68 25 L (.int x :: st) μ Q = if x < iI 0 then Ev d 68 28 L st μ Q else Ev d 68 32 L st μ Q := e_if_ge (by decide +kernel : decode (bOf 68) 25 = .ok (.ifCond .ge 7, 3)) (by omega)
theorem x_68_28 : Ev d 68 28 L st μ Q = Ev d 68 29 L (.int (iI 1) :: st) μ Q := e_iconst (by decide +kernel : decode (bOf 68) 28 = .ok (.iconst 1, 1))
theorem x_68_29 : Ev d 68 29 L st μ Q = Ev d 68 33 L st μ Q := e_goto (by decide +kernel : decode (bOf 68) 29 = .ok (.goto 4, 3)) (by omega)
theorem x_68_32 : Ev d 68 32 L st μ Q = Ev d 68 33 L (.int (iI 0) :: st) μ Q := e_iconst (by decide +kernel : decode (bOf 68) 32 = .ok (.iconst 0, 1))
theorem x_68_33 (hx : isB x) : Ev d 68 33 L [.int x] μ Q = Q (some (.int x)) μ := e_zret (by decide +kernel : decode (bOf 68) 33 = .ok (.ireturn, 1)) (by decide +kernel) hx
theorem c_69 : Call (d + 1) 69 [.ref r0, .int i1, .int i2] μ Q = Ev d 69 0 [.ref r0, .int i1, .int i2, .null] [] μ Q := call_ev rfl rfl
theorem x_69_0 : Ev d 69 0 (.ref r :: L) st μ Q = Ev d 69 1 (.ref r :: L) (.ref r :: st) μ Q := e_aload_n (by decide +kernel : decode (bOf 69) 0 = .ok (.aload_n 0, 1)) rfl
theorem x_69_1 : Ev d 69 1 (a0 :: a1 :: .int x :: L) st μ Q = Ev d 69 2 (a0 :: a1 :: .int x :: L) (.int x :: st) μ Q := e_iload_n (by decide +kernel : decode (bOf 69) 1 = .ok (.iload_n 2, 1)) rfl
theorem x_69_2 (h : kd t r = 4) : Ev d 69 2 L [b0, .ref r] (t, V, A, P) Q = Call d 73 [.ref r, b0] (t, V, A, P) (fun v μ1 => Ev d 69 5 L (v.toList ++ []) μ1 Q) := e_callV (a := [b0]) (r := []) (by decide +kernel : decode (bOf 69) 2 = .ok (.invokevirtual 226, 3)) (by decide +kernel) (by decide +kernel) (by decide +kernel) (by omega) rfl (by simp) (by decide +kernel) h
theorem x_69_5 (h : a2.category = 1) : Ev d 69 5 (a0 :: a1 :: a2 :: a3 :: L) (.int x :: st) μ Q = Ev d 69 6 (a0 :: a1 :: a2 :: .int x :: L) st μ Q := e_istore_n (by decide +kernel : decode (bOf 69) 5 = .ok (.istore_n 3, 1)) (by show stOK _ 3 = true; simp [stOK, h])
theorem x_69_6 : Ev d 69 6 (a0 :: .int x :: L) st μ Q = Ev d 69 7 (a0 :: .int x :: L) (.int x :: st) μ Q := e_iload_n (by decide +kernel : decode (bOf 69) 6 = .ok (.iload_n 1, 1)) rfl
theorem x_69_7 : Ev d 69 7 L (.int x :: st) μ Q = if x = iI 0 then Ev d 69 32 L st μ Q else if x = iI 1 then Ev d 69 52 L st μ Q else if x = iI 2 then Ev d 69 65 L st μ Q else Ev d 69 78 L st μ Q := by
  have hd : decode (bOf 69) 7 = .ok (.tableswitch 71 0 2 #[25, 45, 58], 25) := by decide +kernel
  by_cases h0 : x = iI 0
  · rw [if_pos h0]; exact e_sw hd (sw_in (off := 25) h0 (by omega) (by omega) (by omega) rfl (by omega))
  rw [if_neg h0]
  by_cases h1 : x = iI 1
  · rw [if_pos h1]; exact e_sw hd (sw_in (off := 45) h1 (by omega) (by omega) (by omega) rfl (by omega))
  rw [if_neg h1]
  by_cases h2 : x = iI 2
  · rw [if_pos h2]; exact e_sw hd (sw_in (off := 58) h2 (by omega) (by omega) (by omega) rfl (by omega))
  rw [if_neg h2]
  have g0 := ne_toInt h0
  have g1 := ne_toInt h1
  have g2 := ne_toInt h2
  exact e_sw hd (sw_out (by omega) (by omega))
theorem x_69_32 : Ev d 69 32 (a0 :: a1 :: a2 :: .int x :: L) st μ Q = Ev d 69 33 (a0 :: a1 :: a2 :: .int x :: L) (.int x :: st) μ Q := e_iload_n (by decide +kernel : decode (bOf 69) 32 = .ok (.iload_n 3, 1)) rfl
theorem x_69_33 : Ev d 69 33 L st μ Q = Ev d 69 35 L (.int (iI 100) :: st) μ Q := e_bipush (by decide +kernel : decode (bOf 69) 33 = .ok (.bipush 100, 2)) (by decide +kernel)
theorem x_69_35 : Ev d 69 35 L (.int y :: .int x :: st) μ Q = if x = y then Ev d 69 38 L st μ Q else Ev d 69 40 L st μ Q := e_icmp_ne (by decide +kernel : decode (bOf 69) 35 = .ok (.if_icmp .ne 5, 3)) (by omega)
theorem x_69_38 : Ev d 69 38 L st μ Q = Ev d 69 39 L (.int (iI 1) :: st) μ Q := e_iconst (by decide +kernel : decode (bOf 69) 38 = .ok (.iconst 1, 1))
theorem x_69_39 : Ev d 69 39 L [.int x] μ Q = Q (some (.int x)) μ := e_iret (by decide +kernel : decode (bOf 69) 39 = .ok (.ireturn, 1)) (by decide +kernel)
theorem x_69_40 : Ev d 69 40 (a0 :: a1 :: a2 :: .int x :: L) st μ Q = Ev d 69 41 (a0 :: a1 :: a2 :: .int x :: L) (.int x :: st) μ Q := e_iload_n (by decide +kernel : decode (bOf 69) 40 = .ok (.iload_n 3, 1)) rfl
theorem x_69_41 : Ev d 69 41 L st μ Q = Ev d 69 43 L (.int (iI 107) :: st) μ Q := e_bipush (by decide +kernel : decode (bOf 69) 41 = .ok (.bipush 107, 2)) (by decide +kernel)
theorem x_69_43 : Ev d 69 43 L (.int y :: .int x :: st) μ Q = if x = y then Ev d 69 46 L st μ Q else Ev d 69 50 L st μ Q := e_icmp_ne (by decide +kernel : decode (bOf 69) 43 = .ok (.if_icmp .ne 7, 3)) (by omega)
theorem x_69_46 : Ev d 69 46 L st μ Q = Ev d 69 47 L (.int (iI 2) :: st) μ Q := e_iconst (by decide +kernel : decode (bOf 69) 46 = .ok (.iconst 2, 1))
theorem x_69_47 : Ev d 69 47 L st μ Q = Ev d 69 51 L st μ Q := e_goto (by decide +kernel : decode (bOf 69) 47 = .ok (.goto 4, 3)) (by omega)
theorem x_69_50 : Ev d 69 50 L st μ Q = Ev d 69 51 L (.int (iI (-1)) :: st) μ Q := e_iconst (by decide +kernel : decode (bOf 69) 50 = .ok (.iconst (-1), 1))
theorem x_69_51 : Ev d 69 51 L [.int x] μ Q = Q (some (.int x)) μ := e_iret (by decide +kernel : decode (bOf 69) 51 = .ok (.ireturn, 1)) (by decide +kernel)
theorem x_69_52 : Ev d 69 52 (.ref r :: L) st μ Q = Ev d 69 53 (.ref r :: L) (.ref r :: st) μ Q := e_aload_n (by decide +kernel : decode (bOf 69) 52 = .ok (.aload_n 0, 1)) rfl
theorem x_69_53 : Ev d 69 53 (.ref r :: L) st μ Q = Ev d 69 54 (.ref r :: L) (.ref r :: st) μ Q := e_aload_n (by decide +kernel : decode (bOf 69) 53 = .ok (.aload_n 0, 1)) rfl
theorem x_69_54 : Ev d 69 54 (a0 :: a1 :: .int x :: L) st μ Q = Ev d 69 55 (a0 :: a1 :: .int x :: L) (.int x :: st) μ Q := e_iload_n (by decide +kernel : decode (bOf 69) 54 = .ok (.iload_n 2, 1)) rfl
theorem x_69_55 (h : kd t r = 4) : Ev d 69 55 L [b0, .ref r, s0] (t, V, A, P) Q = Call d 71 [.ref r, b0] (t, V, A, P) (fun v μ1 => Ev d 69 58 L (v.toList ++ [s0]) μ1 Q) := e_callV (a := [b0]) (r := [s0]) (by decide +kernel : decode (bOf 69) 55 = .ok (.invokevirtual 232, 3)) (by decide +kernel) (by decide +kernel) (by decide +kernel) (by omega) rfl (by simp) (by decide +kernel) h
theorem x_69_58 : Ev d 69 58 L st μ Q = Ev d 69 59 L (.int (iI 0) :: st) μ Q := e_iconst (by decide +kernel : decode (bOf 69) 58 = .ok (.iconst 0, 1))
theorem x_69_59 : Ev d 69 59 L st μ Q = Ev d 69 61 L (.int (iI 31) :: st) μ Q := e_bipush (by decide +kernel : decode (bOf 69) 59 = .ok (.bipush 31, 2)) (by decide +kernel)
theorem x_69_61 (h : kd t r = 4) : Ev d 69 61 L [b2, b1, b0, .ref r] (t, V, A, P) Q = Call d 70 [.ref r, b0, b1, b2] (t, V, A, P) (fun v μ1 => Ev d 69 64 L (v.toList ++ []) μ1 Q) := e_callV (a := [b0, b1, b2]) (r := []) (by decide +kernel : decode (bOf 69) 61 = .ok (.invokevirtual 235, 3)) (by decide +kernel) (by decide +kernel) (by decide +kernel) (by omega) rfl (by simp) (by decide +kernel) h
theorem x_69_64 : Ev d 69 64 L [.int x] μ Q = Q (some (.int x)) μ := e_iret (by decide +kernel : decode (bOf 69) 64 = .ok (.ireturn, 1)) (by decide +kernel)
theorem x_69_65 : Ev d 69 65 (.ref r :: L) st μ Q = Ev d 69 66 (.ref r :: L) (.ref r :: st) μ Q := e_aload_n (by decide +kernel : decode (bOf 69) 65 = .ok (.aload_n 0, 1)) rfl
theorem x_69_66 : Ev d 69 66 (.ref r :: L) st μ Q = Ev d 69 67 (.ref r :: L) (.ref r :: st) μ Q := e_aload_n (by decide +kernel : decode (bOf 69) 66 = .ok (.aload_n 0, 1)) rfl
theorem x_69_67 : Ev d 69 67 (a0 :: a1 :: .int x :: L) st μ Q = Ev d 69 68 (a0 :: a1 :: .int x :: L) (.int x :: st) μ Q := e_iload_n (by decide +kernel : decode (bOf 69) 67 = .ok (.iload_n 2, 1)) rfl
theorem x_69_68 (h : kd t r = 4) : Ev d 69 68 L [b0, .ref r, s0] (t, V, A, P) Q = Call d 71 [.ref r, b0] (t, V, A, P) (fun v μ1 => Ev d 69 71 L (v.toList ++ [s0]) μ1 Q) := e_callV (a := [b0]) (r := [s0]) (by decide +kernel : decode (bOf 69) 68 = .ok (.invokevirtual 232, 3)) (by decide +kernel) (by decide +kernel) (by decide +kernel) (by omega) rfl (by simp) (by decide +kernel) h
theorem x_69_71 : Ev d 69 71 L st μ Q = Ev d 69 73 L (.int (iI 31) :: st) μ Q := e_bipush (by decide +kernel : decode (bOf 69) 71 = .ok (.bipush 31, 2)) (by decide +kernel)
theorem x_69_73 : Ev d 69 73 L st μ Q = Ev d 69 74 L (.int (iI 3) :: st) μ Q := e_iconst (by decide +kernel : decode (bOf 69) 73 = .ok (.iconst 3, 1))
theorem x_69_74 (h : kd t r = 4) : Ev d 69 74 L [b2, b1, b0, .ref r] (t, V, A, P) Q = Call d 70 [.ref r, b0, b1, b2] (t, V, A, P) (fun v μ1 => Ev d 69 77 L (v.toList ++ []) μ1 Q) := e_callV (a := [b0, b1, b2]) (r := []) (by decide +kernel : decode (bOf 69) 74 = .ok (.invokevirtual 235, 3)) (by decide +kernel) (by decide +kernel) (by decide +kernel) (by omega) rfl (by simp) (by decide +kernel) h
theorem x_69_77 : Ev d 69 77 L [.int x] μ Q = Q (some (.int x)) μ := e_iret (by decide +kernel : decode (bOf 69) 77 = .ok (.ireturn, 1)) (by decide +kernel)
theorem x_69_78 : Ev d 69 78 (a0 :: a1 :: a2 :: .int x :: L) st μ Q = Ev d 69 79 (a0 :: a1 :: a2 :: .int x :: L) (.int x :: st) μ Q := e_iload_n (by decide +kernel : decode (bOf 69) 78 = .ok (.iload_n 3, 1)) rfl
theorem x_69_79 : Ev d 69 79 L st μ Q = Ev d 69 81 L (.int (iI 59) :: st) μ Q := e_bipush (by decide +kernel : decode (bOf 69) 79 = .ok (.bipush 59, 2)) (by decide +kernel)
theorem x_69_81 : Ev d 69 81 L (.int y :: .int x :: st) μ Q = if x = y then Ev d 69 84 L st μ Q else Ev d 69 88 L st μ Q := e_icmp_ne (by decide +kernel : decode (bOf 69) 81 = .ok (.if_icmp .ne 7, 3)) (by omega)
theorem x_69_84 : Ev d 69 84 L st μ Q = Ev d 69 85 L (.int (iI 0) :: st) μ Q := e_iconst (by decide +kernel : decode (bOf 69) 84 = .ok (.iconst 0, 1))
theorem x_69_85 : Ev d 69 85 L st μ Q = Ev d 69 89 L st μ Q := e_goto (by decide +kernel : decode (bOf 69) 85 = .ok (.goto 4, 3)) (by omega)
theorem x_69_88 : Ev d 69 88 L st μ Q = Ev d 69 89 L (.int (iI (-1)) :: st) μ Q := e_iconst (by decide +kernel : decode (bOf 69) 88 = .ok (.iconst (-1), 1))
theorem x_69_89 : Ev d 69 89 L [.int x] μ Q = Q (some (.int x)) μ := e_iret (by decide +kernel : decode (bOf 69) 89 = .ok (.ireturn, 1)) (by decide +kernel)
theorem c_70 : Call (d + 1) 70 [.ref r0, .int i1, .int i2, .int i3] μ Q = Ev d 70 0 [.ref r0, .int i1, .int i2, .int i3] [] μ Q := call_ev rfl rfl
theorem x_70_0 : Ev d 70 0 (a0 :: .int x :: L) st μ Q = Ev d 70 1 (a0 :: .int x :: L) (.int x :: st) μ Q := e_iload_n (by decide +kernel : decode (bOf 70) 0 = .ok (.iload_n 1, 1)) rfl
theorem x_70_1 : Ev d 70 1 L (.int x :: st) μ Q = if x < iI 0 then Ev d 70 25 L st μ Q else Ev d 70 4 L st μ Q := e_if_lt (by decide +kernel : decode (bOf 70) 1 = .ok (.ifCond .lt 24, 3)) (by omega)
theorem x_70_4 : Ev d 70 4 (a0 :: .int x :: L) st μ Q = Ev d 70 5 (a0 :: .int x :: L) (.int x :: st) μ Q := e_iload_n (by decide +kernel : decode (bOf 70) 4 = .ok (.iload_n 1, 1)) rfl
theorem x_70_5 : Ev d 70 5 (a0 :: a1 :: a2 :: .int x :: L) st μ Q = Ev d 70 6 (a0 :: a1 :: a2 :: .int x :: L) (.int x :: st) μ Q := e_iload_n (by decide +kernel : decode (bOf 70) 5 = .ok (.iload_n 3, 1)) rfl
theorem x_70_6 : Ev d 70 6 L (.int y :: .int x :: st) μ Q = if x < y then Ev d 70 9 L st μ Q else Ev d 70 25 L st μ Q := e_icmp_ge (by decide +kernel : decode (bOf 70) 6 = .ok (.if_icmp .ge 19, 3)) (by omega)
theorem x_70_9 : Ev d 70 9 (.ref r :: L) st μ Q = Ev d 70 10 (.ref r :: L) (.ref r :: st) μ Q := e_aload_n (by decide +kernel : decode (bOf 70) 9 = .ok (.aload_n 0, 1)) rfl
theorem x_70_10 (h : kd t r = 4) : Ev d 70 10 L (.ref r :: st) (t, V, A, P) Q = Ev d 70 13 L (V r 10 :: st) (t, V, A, P) Q := e_getf (by decide +kernel : decode (bOf 70) 10 = .ok (.getfield 66, 3)) (by decide +kernel) (by decide +kernel) h
theorem x_70_13 : Ev d 70 13 L (.int x :: st) μ Q = if x < iI 0 then Ev d 70 25 L st μ Q else Ev d 70 16 L st μ Q := e_if_lt (by decide +kernel : decode (bOf 70) 13 = .ok (.ifCond .lt 12, 3)) (by omega)
theorem x_70_16 : Ev d 70 16 (.ref r :: L) st μ Q = Ev d 70 17 (.ref r :: L) (.ref r :: st) μ Q := e_aload_n (by decide +kernel : decode (bOf 70) 16 = .ok (.aload_n 0, 1)) rfl
theorem x_70_17 (h : kd t r = 4) : Ev d 70 17 L (.ref r :: st) (t, V, A, P) Q = Ev d 70 20 L (V r 10 :: st) (t, V, A, P) Q := e_getf (by decide +kernel : decode (bOf 70) 17 = .ok (.getfield 66, 3)) (by decide +kernel) (by decide +kernel) h
theorem x_70_20 : Ev d 70 20 L st μ Q = Ev d 70 22 L (.int (iI 40) :: st) μ Q := e_bipush (by decide +kernel : decode (bOf 70) 20 = .ok (.bipush 40, 2)) (by decide +kernel)
theorem x_70_22 : Ev d 70 22 L (.int y :: .int x :: st) μ Q = if x < y then Ev d 70 27 L st μ Q else Ev d 70 25 L st μ Q := e_icmp_lt (by decide +kernel : decode (bOf 70) 22 = .ok (.if_icmp .lt 5, 3)) (by omega)
theorem x_70_25 : Ev d 70 25 L st μ Q = Ev d 70 26 L (.int (iI (-1)) :: st) μ Q := e_iconst (by decide +kernel : decode (bOf 70) 25 = .ok (.iconst (-1), 1))
theorem x_70_26 : Ev d 70 26 L [.int x] μ Q = Q (some (.int x)) μ := e_iret (by decide +kernel : decode (bOf 70) 26 = .ok (.ireturn, 1)) (by decide +kernel)
theorem x_70_27 : Ev d 70 27 (.ref r :: L) st μ Q = Ev d 70 28 (.ref r :: L) (.ref r :: st) μ Q := e_aload_n (by decide +kernel : decode (bOf 70) 27 = .ok (.aload_n 0, 1)) rfl
theorem x_70_28 (h : kd t r = 4) : Ev d 70 28 L (.ref r :: st) (t, V, A, P) Q = Ev d 70 31 L (V r 5 :: st) (t, V, A, P) Q := e_getf (by decide +kernel : decode (bOf 70) 28 = .ok (.getfield 31, 3)) (by decide +kernel) (by decide +kernel) h
theorem x_70_31 : Ev d 70 31 (.ref r :: L) st μ Q = Ev d 70 32 (.ref r :: L) (.ref r :: st) μ Q := e_aload_n (by decide +kernel : decode (bOf 70) 31 = .ok (.aload_n 0, 1)) rfl
theorem x_70_32 (h : kd t r = 4) : Ev d 70 32 L (.ref r :: st) (t, V, A, P) Q = Ev d 70 35 L (V r 10 :: st) (t, V, A, P) Q := e_getf (by decide +kernel : decode (bOf 70) 32 = .ok (.getfield 66, 3)) (by decide +kernel) (by decide +kernel) h
theorem x_70_35 : Ev d 70 35 (a0 :: a1 :: .int x :: L) st μ Q = Ev d 70 36 (a0 :: a1 :: .int x :: L) (.int x :: st) μ Q := e_iload_n (by decide +kernel : decode (bOf 70) 35 = .ok (.iload_n 2, 1)) rfl
theorem x_70_36 : Ev d 70 36 (a0 :: .int x :: L) st μ Q = Ev d 70 37 (a0 :: .int x :: L) (.int x :: st) μ Q := e_iload_n (by decide +kernel : decode (bOf 70) 36 = .ok (.iload_n 1, 1)) rfl
theorem x_70_37 : Ev d 70 37 L (.int y :: .int x :: st) μ Q = Ev d 70 38 L (.int (x + y) :: st) μ Q := e_iadd (by decide +kernel : decode (bOf 70) 37 = .ok (.iadd, 1))
theorem x_70_38 (h : kd t r = 6) (hi : inB x (ln t r) = true) : Ev d 70 38 L (.int y :: .int x :: .ref r :: st) (t, V, A, P) Q = Ev d 70 39 L st (t, V, up1 A r (upd (A r) x.toNatClampNeg y), P) Q := e_iast (by decide +kernel : decode (bOf 70) 38 = .ok (.iastore, 1)) h hi
theorem x_70_39 : Ev d 70 39 (.ref r :: L) st μ Q = Ev d 70 40 (.ref r :: L) (.ref r :: st) μ Q := e_aload_n (by decide +kernel : decode (bOf 70) 39 = .ok (.aload_n 0, 1)) rfl
theorem x_70_40 : Ev d 70 40 L (.ref r :: st) μ Q = Ev d 70 41 L (.ref r :: .ref r :: st) μ Q := e_dup_a (by decide +kernel : decode (bOf 70) 40 = .ok (.dup, 1))
theorem x_70_41 (h : kd t r = 4) : Ev d 70 41 L (.ref r :: st) (t, V, A, P) Q = Ev d 70 44 L (V r 10 :: st) (t, V, A, P) Q := e_getf (by decide +kernel : decode (bOf 70) 41 = .ok (.getfield 66, 3)) (by decide +kernel) (by decide +kernel) h
theorem x_70_44 : Ev d 70 44 L st μ Q = Ev d 70 45 L (.int (iI 1) :: st) μ Q := e_iconst (by decide +kernel : decode (bOf 70) 44 = .ok (.iconst 1, 1))
theorem x_70_45 : Ev d 70 45 L (.int y :: .int x :: st) μ Q = Ev d 70 46 L (.int (x + y) :: st) μ Q := e_iadd (by decide +kernel : decode (bOf 70) 45 = .ok (.iadd, 1))
theorem x_70_46 (h : kd t r = 4) : Ev d 70 46 L (.int x :: .ref r :: st) (t, V, A, P) Q = Ev d 70 49 L st (t, up1 V r (up1 (V r) 10 (.int x)), A, P) Q := e_putf (by decide +kernel : decode (bOf 70) 46 = .ok (.putfield 66, 3)) (by decide +kernel) (by decide +kernel) rfl h
theorem x_70_49 : Ev d 70 49 L st μ Q = Ev d 70 50 L (.int (iI 3) :: st) μ Q := e_iconst (by decide +kernel : decode (bOf 70) 49 = .ok (.iconst 3, 1))
theorem x_70_50 : Ev d 70 50 L [.int x] μ Q = Q (some (.int x)) μ := e_iret (by decide +kernel : decode (bOf 70) 50 = .ok (.ireturn, 1)) (by decide +kernel)
theorem c_71 : Call (d + 1) 71 [.ref r0, .int i1] μ Q = Ev d 71 0 [.ref r0, .int i1, .null, .null, .null] [] μ Q := call_ev rfl rfl
theorem x_71_0 : Ev d 71 0 (.ref r :: L) st μ Q = Ev d 71 1 (.ref r :: L) (.ref r :: st) μ Q := e_aload_n (by decide +kernel : decode (bOf 71) 0 = .ok (.aload_n 0, 1)) rfl
theorem x_71_1 : Ev d 71 1 (a0 :: .int x :: L) st μ Q = Ev d 71 2 (a0 :: .int x :: L) (.int x :: st) μ Q := e_iload_n (by decide +kernel : decode (bOf 71) 1 = .ok (.iload_n 1, 1)) rfl
theorem x_71_2 (h : kd t r = 4) : Ev d 71 2 L [b0, .ref r] (t, V, A, P) Q = Call d 72 [.ref r, b0] (t, V, A, P) (fun v μ1 => Ev d 71 5 L (v.toList ++ []) μ1 Q) := e_callV (a := [b0]) (r := []) (by decide +kernel : decode (bOf 71) 2 = .ok (.invokevirtual 229, 3)) (by decide +kernel) (by decide +kernel) (by decide +kernel) (by omega) rfl (by simp) (by decide +kernel) h
theorem x_71_5 (h : a1.category = 1) : Ev d 71 5 (a0 :: a1 :: a2 :: L) (.int x :: st) μ Q = Ev d 71 6 (a0 :: a1 :: .int x :: L) st μ Q := e_istore_n (by decide +kernel : decode (bOf 71) 5 = .ok (.istore_n 2, 1)) (by show stOK _ 2 = true; simp [stOK, h])
theorem x_71_6 : Ev d 71 6 (.ref r :: L) st μ Q = Ev d 71 7 (.ref r :: L) (.ref r :: st) μ Q := e_aload_n (by decide +kernel : decode (bOf 71) 6 = .ok (.aload_n 0, 1)) rfl
theorem x_71_7 : Ev d 71 7 (a0 :: .int x :: L) st μ Q = Ev d 71 8 (a0 :: .int x :: L) (.int x :: st) μ Q := e_iload_n (by decide +kernel : decode (bOf 71) 7 = .ok (.iload_n 1, 1)) rfl
theorem x_71_8 : Ev d 71 8 L st μ Q = Ev d 71 9 L (.int (iI 1) :: st) μ Q := e_iconst (by decide +kernel : decode (bOf 71) 8 = .ok (.iconst 1, 1))
theorem x_71_9 : Ev d 71 9 L (.int y :: .int x :: st) μ Q = Ev d 71 10 L (.int (x + y) :: st) μ Q := e_iadd (by decide +kernel : decode (bOf 71) 9 = .ok (.iadd, 1))
theorem x_71_10 (h : kd t r = 4) : Ev d 71 10 L [b0, .ref r] (t, V, A, P) Q = Call d 72 [.ref r, b0] (t, V, A, P) (fun v μ1 => Ev d 71 13 L (v.toList ++ []) μ1 Q) := e_callV (a := [b0]) (r := []) (by decide +kernel : decode (bOf 71) 10 = .ok (.invokevirtual 229, 3)) (by decide +kernel) (by decide +kernel) (by decide +kernel) (by omega) rfl (by simp) (by decide +kernel) h
theorem x_71_13 (h : a2.category = 1) : Ev d 71 13 (a0 :: a1 :: a2 :: a3 :: L) (.int x :: st) μ Q = Ev d 71 14 (a0 :: a1 :: a2 :: .int x :: L) st μ Q := e_istore_n (by decide +kernel : decode (bOf 71) 13 = .ok (.istore_n 3, 1)) (by show stOK _ 3 = true; simp [stOK, h])
theorem x_71_14 : Ev d 71 14 (a0 :: a1 :: .int x :: L) st μ Q = Ev d 71 15 (a0 :: a1 :: .int x :: L) (.int x :: st) μ Q := e_iload_n (by decide +kernel : decode (bOf 71) 14 = .ok (.iload_n 2, 1)) rfl
theorem x_71_15 : Ev d 71 15 L (.int x :: st) μ Q = if x < iI 0 then Ev d 71 22 L st μ Q else Ev d 71 18 L st μ Q := e_if_lt (by decide +kernel : decode (bOf 71) 15 = .ok (.ifCond .lt 7, 3)) (by omega)
theorem x_71_18 : Ev d 71 18 (a0 :: a1 :: a2 :: .int x :: L) st μ Q = Ev d 71 19 (a0 :: a1 :: a2 :: .int x :: L) (.int x :: st) μ Q := e_iload_n (by decide +kernel : decode (bOf 71) 18 = .ok (.iload_n 3, 1)) rfl
theorem x_71_19 : Ev d 71 19 L (.int x :: st) μ Q = if x < iI 0 then Ev d 71 22 L st μ Q else Ev d 71 24 L st μ Q := e_if_ge (by decide +kernel : decode (bOf 71) 19 = .ok (.ifCond .ge 5, 3)) (by omega)
theorem x_71_22 : Ev d 71 22 (a0 :: a1 :: .int x :: L) st μ Q = Ev d 71 23 (a0 :: a1 :: .int x :: L) (.int x :: st) μ Q := e_iload_n (by decide +kernel : decode (bOf 71) 22 = .ok (.iload_n 2, 1)) rfl
theorem x_71_23 : Ev d 71 23 L [.int x] μ Q = Q (some (.int x)) μ := e_iret (by decide +kernel : decode (bOf 71) 23 = .ok (.ireturn, 1)) (by decide +kernel)
theorem x_71_24 : Ev d 71 24 (.ref r :: L) st μ Q = Ev d 71 25 (.ref r :: L) (.ref r :: st) μ Q := e_aload_n (by decide +kernel : decode (bOf 71) 24 = .ok (.aload_n 0, 1)) rfl
theorem x_71_25 : Ev d 71 25 (a0 :: .int x :: L) st μ Q = Ev d 71 26 (a0 :: .int x :: L) (.int x :: st) μ Q := e_iload_n (by decide +kernel : decode (bOf 71) 25 = .ok (.iload_n 1, 1)) rfl
theorem x_71_26 : Ev d 71 26 L st μ Q = Ev d 71 27 L (.int (iI 2) :: st) μ Q := e_iconst (by decide +kernel : decode (bOf 71) 26 = .ok (.iconst 2, 1))
theorem x_71_27 : Ev d 71 27 L (.int y :: .int x :: st) μ Q = Ev d 71 28 L (.int (x + y) :: st) μ Q := e_iadd (by decide +kernel : decode (bOf 71) 27 = .ok (.iadd, 1))
theorem x_71_28 (h : kd t r = 4) : Ev d 71 28 L [b0, .ref r] (t, V, A, P) Q = Call d 72 [.ref r, b0] (t, V, A, P) (fun v μ1 => Ev d 71 31 L (v.toList ++ []) μ1 Q) := e_callV (a := [b0]) (r := []) (by decide +kernel : decode (bOf 71) 28 = .ok (.invokevirtual 229, 3)) (by decide +kernel) (by decide +kernel) (by decide +kernel) (by omega) rfl (by simp) (by decide +kernel) h
theorem x_71_31 : Ev d 71 31 L (.int x :: st) μ Q = if x < iI 0 then Ev d 71 38 L st μ Q else Ev d 71 34 L st μ Q := e_if_lt (by decide +kernel : decode (bOf 71) 31 = .ok (.ifCond .lt 7, 3)) (by omega)
theorem x_71_34 : Ev d 71 34 L st μ Q = Ev d 71 35 L (.int (iI 1) :: st) μ Q := e_iconst (by decide +kernel : decode (bOf 71) 34 = .ok (.iconst 1, 1))
theorem x_71_35 : Ev d 71 35 L st μ Q = Ev d 71 39 L st μ Q := e_goto (by decide +kernel : decode (bOf 71) 35 = .ok (.goto 4, 3)) (by omega)
theorem x_71_38 : Ev d 71 38 L st μ Q = Ev d 71 39 L (.int (iI 0) :: st) μ Q := e_iconst (by decide +kernel : decode (bOf 71) 38 = .ok (.iconst 0, 1))
theorem x_71_39 (h : a3.category = 1) : Ev d 71 39 (a0 :: a1 :: a2 :: a3 :: a4 :: L) (.int x :: st) μ Q = Ev d 71 41 (a0 :: a1 :: a2 :: a3 :: .int x :: L) st μ Q := e_istore (by decide +kernel : decode (bOf 71) 39 = .ok (.istore 4, 2)) (by show stOK _ 4 = true; simp [stOK, h])
theorem x_71_41 : Ev d 71 41 (a0 :: a1 :: .int x :: L) st μ Q = Ev d 71 42 (a0 :: a1 :: .int x :: L) (.int x :: st) μ Q := e_iload_n (by decide +kernel : decode (bOf 71) 41 = .ok (.iload_n 2, 1)) rfl
theorem x_71_42 : Ev d 71 42 L (.int x :: st) μ Q = if x = iI 0 then Ev d 71 50 L st μ Q else Ev d 71 45 L st μ Q := e_if_eq (by decide +kernel : decode (bOf 71) 42 = .ok (.ifCond .eq 8, 3)) (by omega)
theorem x_71_45 : Ev d 71 45 (a0 :: a1 :: a2 :: a3 :: .int x :: L) st μ Q = Ev d 71 47 (a0 :: a1 :: a2 :: a3 :: .int x :: L) (.int x :: st) μ Q := e_iload (by decide +kernel : decode (bOf 71) 45 = .ok (.iload 4, 2)) rfl
theorem x_71_47 : Ev d 71 47 L (.int x :: st) μ Q = if x = iI 0 then Ev d 71 54 L st μ Q else Ev d 71 50 L st μ Q := e_if_eq (by decide +kernel : decode (bOf 71) 47 = .ok (.ifCond .eq 7, 3)) (by omega)
theorem x_71_50 : Ev d 71 50 L st μ Q = Ev d 71 51 L (.int (iI (-1)) :: st) μ Q := e_iconst (by decide +kernel : decode (bOf 71) 50 = .ok (.iconst (-1), 1))
theorem x_71_51 : Ev d 71 51 L st μ Q = Ev d 71 60 L st μ Q := e_goto (by decide +kernel : decode (bOf 71) 51 = .ok (.goto 9, 3)) (by omega)
theorem x_71_54 : Ev d 71 54 L st μ Q = Ev d 71 56 L (.int (iI 10) :: st) μ Q := e_bipush (by decide +kernel : decode (bOf 71) 54 = .ok (.bipush 10, 2)) (by decide +kernel)
theorem x_71_56 : Ev d 71 56 (a0 :: a1 :: .int x :: L) st μ Q = Ev d 71 57 (a0 :: a1 :: .int x :: L) (.int x :: st) μ Q := e_iload_n (by decide +kernel : decode (bOf 71) 56 = .ok (.iload_n 2, 1)) rfl
theorem x_71_57 : Ev d 71 57 L (.int y :: .int x :: st) μ Q = Ev d 71 58 L (.int (x * y) :: st) μ Q := e_imul (by decide +kernel : decode (bOf 71) 57 = .ok (.imul, 1))
theorem x_71_58 : Ev d 71 58 (a0 :: a1 :: a2 :: .int x :: L) st μ Q = Ev d 71 59 (a0 :: a1 :: a2 :: .int x :: L) (.int x :: st) μ Q := e_iload_n (by decide +kernel : decode (bOf 71) 58 = .ok (.iload_n 3, 1)) rfl
theorem x_71_59 : Ev d 71 59 L (.int y :: .int x :: st) μ Q = Ev d 71 60 L (.int (x + y) :: st) μ Q := e_iadd (by decide +kernel : decode (bOf 71) 59 = .ok (.iadd, 1))
theorem x_71_60 : Ev d 71 60 L [.int x] μ Q = Q (some (.int x)) μ := e_iret (by decide +kernel : decode (bOf 71) 60 = .ok (.ireturn, 1)) (by decide +kernel)
theorem c_72 : Call (d + 1) 72 [.ref r0, .int i1] μ Q = Ev d 72 0 [.ref r0, .int i1, .null] [] μ Q := call_ev rfl rfl
theorem x_72_0 : Ev d 72 0 (.ref r :: L) st μ Q = Ev d 72 1 (.ref r :: L) (.ref r :: st) μ Q := e_aload_n (by decide +kernel : decode (bOf 72) 0 = .ok (.aload_n 0, 1)) rfl
theorem x_72_1 : Ev d 72 1 (a0 :: .int x :: L) st μ Q = Ev d 72 2 (a0 :: .int x :: L) (.int x :: st) μ Q := e_iload_n (by decide +kernel : decode (bOf 72) 1 = .ok (.iload_n 1, 1)) rfl
theorem x_72_2 (h : kd t r = 4) : Ev d 72 2 L [b0, .ref r] (t, V, A, P) Q = Call d 73 [.ref r, b0] (t, V, A, P) (fun v μ1 => Ev d 72 5 L (v.toList ++ []) μ1 Q) := e_callV (a := [b0]) (r := []) (by decide +kernel : decode (bOf 72) 2 = .ok (.invokevirtual 226, 3)) (by decide +kernel) (by decide +kernel) (by decide +kernel) (by omega) rfl (by simp) (by decide +kernel) h
theorem x_72_5 (h : a1.category = 1) : Ev d 72 5 (a0 :: a1 :: a2 :: L) (.int x :: st) μ Q = Ev d 72 6 (a0 :: a1 :: .int x :: L) st μ Q := e_istore_n (by decide +kernel : decode (bOf 72) 5 = .ok (.istore_n 2, 1)) (by show stOK _ 2 = true; simp [stOK, h])
theorem x_72_6 : Ev d 72 6 (a0 :: a1 :: .int x :: L) st μ Q = Ev d 72 7 (a0 :: a1 :: .int x :: L) (.int x :: st) μ Q := e_iload_n (by decide +kernel : decode (bOf 72) 6 = .ok (.iload_n 2, 1)) rfl
theorem x_72_7 : Ev d 72 7 L st μ Q = Ev d 72 9 L (.int (iI 48) :: st) μ Q := e_bipush (by decide +kernel : decode (bOf 72) 7 = .ok (.bipush 48, 2)) (by decide +kernel)
theorem x_72_9 : Ev d 72 9 L (.int y :: .int x :: st) μ Q = if x < y then Ev d 72 25 L st μ Q else Ev d 72 12 L st μ Q := e_icmp_lt (by decide +kernel : decode (bOf 72) 9 = .ok (.if_icmp .lt 16, 3)) (by omega)
theorem x_72_12 : Ev d 72 12 (a0 :: a1 :: .int x :: L) st μ Q = Ev d 72 13 (a0 :: a1 :: .int x :: L) (.int x :: st) μ Q := e_iload_n (by decide +kernel : decode (bOf 72) 12 = .ok (.iload_n 2, 1)) rfl
theorem x_72_13 : Ev d 72 13 L st μ Q = Ev d 72 15 L (.int (iI 57) :: st) μ Q := e_bipush (by decide +kernel : decode (bOf 72) 13 = .ok (.bipush 57, 2)) (by decide +kernel)
theorem x_72_15 : Ev d 72 15 L (.int y :: .int x :: st) μ Q = if y < x then Ev d 72 25 L st μ Q else Ev d 72 18 L st μ Q := e_icmp_gt (by decide +kernel : decode (bOf 72) 15 = .ok (.if_icmp .gt 10, 3)) (by omega)
theorem x_72_18 : Ev d 72 18 (a0 :: a1 :: .int x :: L) st μ Q = Ev d 72 19 (a0 :: a1 :: .int x :: L) (.int x :: st) μ Q := e_iload_n (by decide +kernel : decode (bOf 72) 18 = .ok (.iload_n 2, 1)) rfl
theorem x_72_19 : Ev d 72 19 L st μ Q = Ev d 72 21 L (.int (iI 48) :: st) μ Q := e_bipush (by decide +kernel : decode (bOf 72) 19 = .ok (.bipush 48, 2)) (by decide +kernel)
theorem x_72_21 : Ev d 72 21 L (.int y :: .int x :: st) μ Q = Ev d 72 22 L (.int (x - y) :: st) μ Q := e_isub (by decide +kernel : decode (bOf 72) 21 = .ok (.isub, 1))
theorem x_72_22 : Ev d 72 22 L st μ Q = Ev d 72 26 L st μ Q := e_goto (by decide +kernel : decode (bOf 72) 22 = .ok (.goto 4, 3)) (by omega)
theorem x_72_25 : Ev d 72 25 L st μ Q = Ev d 72 26 L (.int (iI (-1)) :: st) μ Q := e_iconst (by decide +kernel : decode (bOf 72) 25 = .ok (.iconst (-1), 1))
theorem x_72_26 : Ev d 72 26 L [.int x] μ Q = Q (some (.int x)) μ := e_iret (by decide +kernel : decode (bOf 72) 26 = .ok (.ireturn, 1)) (by decide +kernel)
theorem c_73 : Call (d + 1) 73 [.ref r0, .int i1] μ Q = Ev d 73 0 [.ref r0, .int i1] [] μ Q := call_ev rfl rfl
theorem x_73_0 : Ev d 73 0 (a0 :: .int x :: L) st μ Q = Ev d 73 1 (a0 :: .int x :: L) (.int x :: st) μ Q := e_iload_n (by decide +kernel : decode (bOf 73) 0 = .ok (.iload_n 1, 1)) rfl
theorem x_73_1 : Ev d 73 1 L (.int x :: st) μ Q = if x < iI 0 then Ev d 73 27 L st μ Q else Ev d 73 4 L st μ Q := e_if_lt (by decide +kernel : decode (bOf 73) 1 = .ok (.ifCond .lt 26, 3)) (by omega)
theorem x_73_4 : Ev d 73 4 (a0 :: .int x :: L) st μ Q = Ev d 73 5 (a0 :: .int x :: L) (.int x :: st) μ Q := e_iload_n (by decide +kernel : decode (bOf 73) 4 = .ok (.iload_n 1, 1)) rfl
theorem x_73_5 : Ev d 73 5 (.ref r :: L) st μ Q = Ev d 73 6 (.ref r :: L) (.ref r :: st) μ Q := e_aload_n (by decide +kernel : decode (bOf 73) 5 = .ok (.aload_n 0, 1)) rfl
theorem x_73_6 (h : kd t r = 4) : Ev d 73 6 L (.ref r :: st) (t, V, A, P) Q = Ev d 73 9 L (V r 9 :: st) (t, V, A, P) Q := e_getf (by decide +kernel : decode (bOf 73) 6 = .ok (.getfield 55, 3)) (by decide +kernel) (by decide +kernel) h
theorem x_73_9 : Ev d 73 9 L (.int y :: .int x :: st) μ Q = if x < y then Ev d 73 12 L st μ Q else Ev d 73 27 L st μ Q := e_icmp_ge (by decide +kernel : decode (bOf 73) 9 = .ok (.if_icmp .ge 18, 3)) (by omega)
theorem x_73_12 : Ev d 73 12 (a0 :: .int x :: L) st μ Q = Ev d 73 13 (a0 :: .int x :: L) (.int x :: st) μ Q := e_iload_n (by decide +kernel : decode (bOf 73) 12 = .ok (.iload_n 1, 1)) rfl
theorem x_73_13 : Ev d 73 13 L st μ Q = Ev d 73 15 L (.int (iI 120) :: st) μ Q := e_bipush (by decide +kernel : decode (bOf 73) 13 = .ok (.bipush 120, 2)) (by decide +kernel)
theorem x_73_15 : Ev d 73 15 L (.int y :: .int x :: st) μ Q = if x < y then Ev d 73 18 L st μ Q else Ev d 73 27 L st μ Q := e_icmp_ge (by decide +kernel : decode (bOf 73) 15 = .ok (.if_icmp .ge 12, 3)) (by omega)
theorem x_73_18 : Ev d 73 18 (.ref r :: L) st μ Q = Ev d 73 19 (.ref r :: L) (.ref r :: st) μ Q := e_aload_n (by decide +kernel : decode (bOf 73) 18 = .ok (.aload_n 0, 1)) rfl
theorem x_73_19 (h : kd t r = 4) : Ev d 73 19 L (.ref r :: st) (t, V, A, P) Q = Ev d 73 22 L (V r 4 :: st) (t, V, A, P) Q := e_getf (by decide +kernel : decode (bOf 73) 19 = .ok (.getfield 27, 3)) (by decide +kernel) (by decide +kernel) h
theorem x_73_22 : Ev d 73 22 (a0 :: .int x :: L) st μ Q = Ev d 73 23 (a0 :: .int x :: L) (.int x :: st) μ Q := e_iload_n (by decide +kernel : decode (bOf 73) 22 = .ok (.iload_n 1, 1)) rfl
theorem x_73_23 (h : kd t r = 6) (hi : inB x (ln t r) = true) : Ev d 73 23 L (.int x :: .ref r :: st) (t, V, A, P) Q = Ev d 73 24 L (.int (A r x.toNatClampNeg) :: st) (t, V, A, P) Q := e_iald (by decide +kernel : decode (bOf 73) 23 = .ok (.iaload, 1)) h hi
theorem x_73_24 : Ev d 73 24 L st μ Q = Ev d 73 28 L st μ Q := e_goto (by decide +kernel : decode (bOf 73) 24 = .ok (.goto 4, 3)) (by omega)
theorem x_73_27 : Ev d 73 27 L st μ Q = Ev d 73 28 L (.int (iI (-1)) :: st) μ Q := e_iconst (by decide +kernel : decode (bOf 73) 27 = .ok (.iconst (-1), 1))
theorem x_73_28 : Ev d 73 28 L [.int x] μ Q = Q (some (.int x)) μ := e_iret (by decide +kernel : decode (bOf 73) 28 = .ok (.ireturn, 1)) (by decide +kernel)
theorem c_74 : Call (d + 1) 74 [.int i0, .int i1] μ Q = Ev d 74 0 [.int i0, .int i1] [] μ Q := call_ev rfl rfl
theorem x_74_0 : Ev d 74 0 (.int x :: L) st μ Q = Ev d 74 1 (.int x :: L) (.int x :: st) μ Q := e_iload_n (by decide +kernel : decode (bOf 74) 0 = .ok (.iload_n 0, 1)) rfl
theorem x_74_1 : Ev d 74 1 L (.int x :: st) μ Q = if x < iI 0 then Ev d 74 23 L st μ Q else Ev d 74 4 L st μ Q := e_if_lt (by decide +kernel : decode (bOf 74) 1 = .ok (.ifCond .lt 22, 3)) (by omega)
theorem x_74_4 : Ev d 74 4 (.int x :: L) st μ Q = Ev d 74 5 (.int x :: L) (.int x :: st) μ Q := e_iload_n (by decide +kernel : decode (bOf 74) 4 = .ok (.iload_n 0, 1)) rfl
theorem x_74_5 : Ev d 74 5 L st μ Q = Ev d 74 7 L (.int (iI 6) :: st) μ Q := e_bipush (by decide +kernel : decode (bOf 74) 5 = .ok (.bipush 6, 2)) (by decide +kernel)
theorem x_74_7 : Ev d 74 7 L (.int y :: .int x :: st) μ Q = if x < y then Ev d 74 10 L st μ Q else Ev d 74 23 L st μ Q := e_icmp_ge (by decide +kernel : decode (bOf 74) 7 = .ok (.if_icmp .ge 16, 3)) (by omega)
theorem x_74_10 : Ev d 74 10 (a0 :: .int x :: L) st μ Q = Ev d 74 11 (a0 :: .int x :: L) (.int x :: st) μ Q := e_iload_n (by decide +kernel : decode (bOf 74) 10 = .ok (.iload_n 1, 1)) rfl
theorem x_74_11 : Ev d 74 11 L (.int x :: st) μ Q = if x < iI 0 then Ev d 74 23 L st μ Q else Ev d 74 14 L st μ Q := e_if_lt (by decide +kernel : decode (bOf 74) 11 = .ok (.ifCond .lt 12, 3)) (by omega)
theorem x_74_14 : Ev d 74 14 (a0 :: .int x :: L) st μ Q = Ev d 74 15 (a0 :: .int x :: L) (.int x :: st) μ Q := e_iload_n (by decide +kernel : decode (bOf 74) 14 = .ok (.iload_n 1, 1)) rfl
theorem x_74_15 : Ev d 74 15 L st μ Q = Ev d 74 16 L (.int (iI 1) :: st) μ Q := e_iconst (by decide +kernel : decode (bOf 74) 15 = .ok (.iconst 1, 1))
theorem x_74_16 : Ev d 74 16 L (.int y :: .int x :: st) μ Q = if y < x then Ev d 74 23 L st μ Q else Ev d 74 19 L st μ Q := e_icmp_gt (by decide +kernel : decode (bOf 74) 16 = .ok (.if_icmp .gt 7, 3)) (by omega)
theorem x_74_19 : Ev d 74 19 L st μ Q = Ev d 74 20 L (.int (iI 1) :: st) μ Q := e_iconst (by decide +kernel : decode (bOf 74) 19 = .ok (.iconst 1, 1))
theorem x_74_20 : Ev d 74 20 L st μ Q = Ev d 74 24 L st μ Q := e_goto (by decide +kernel : decode (bOf 74) 20 = .ok (.goto 4, 3)) (by omega)
theorem x_74_23 : Ev d 74 23 L st μ Q = Ev d 74 24 L (.int (iI 0) :: st) μ Q := e_iconst (by decide +kernel : decode (bOf 74) 23 = .ok (.iconst 0, 1))
theorem x_74_24 (hx : isB x) : Ev d 74 24 L [.int x] μ Q = Q (some (.int x)) μ := e_zret (by decide +kernel : decode (bOf 74) 24 = .ok (.ireturn, 1)) (by decide +kernel) hx
theorem c_75 : Call (d + 1) 75 [.int i0] μ Q = Ev d 75 0 [.int i0] [] μ Q := call_ev rfl rfl
theorem x_75_0 : Ev d 75 0 (.int x :: L) st μ Q = Ev d 75 1 (.int x :: L) (.int x :: st) μ Q := e_iload_n (by decide +kernel : decode (bOf 75) 0 = .ok (.iload_n 0, 1)) rfl
theorem x_75_1 : Ev d 75 1 L st μ Q = Ev d 75 2 L (.int (iI 1) :: st) μ Q := e_iconst (by decide +kernel : decode (bOf 75) 1 = .ok (.iconst 1, 1))
theorem x_75_2 : Ev d 75 2 L (.int y :: .int x :: st) μ Q = if x = y then Ev d 75 5 L st μ Q else Ev d 75 9 L st μ Q := e_icmp_ne (by decide +kernel : decode (bOf 75) 2 = .ok (.if_icmp .ne 7, 3)) (by omega)
theorem x_75_5 : Ev d 75 5 L st μ Q = Ev d 75 6 L (.int (iI 1) :: st) μ Q := e_iconst (by decide +kernel : decode (bOf 75) 5 = .ok (.iconst 1, 1))
theorem x_75_6 : Ev d 75 6 L st μ Q = Ev d 75 10 L st μ Q := e_goto (by decide +kernel : decode (bOf 75) 6 = .ok (.goto 4, 3)) (by omega)
theorem x_75_9 : Ev d 75 9 L st μ Q = Ev d 75 10 L (.int (iI (-1)) :: st) μ Q := e_iconst (by decide +kernel : decode (bOf 75) 9 = .ok (.iconst (-1), 1))
theorem x_75_10 : Ev d 75 10 L [.int x] μ Q = Q (some (.int x)) μ := e_iret (by decide +kernel : decode (bOf 75) 10 = .ok (.ireturn, 1)) (by decide +kernel)
theorem c_76 : Call (d + 1) 76 [.int i0] μ Q = Ev d 76 0 [.int i0] [] μ Q := call_ev rfl rfl
theorem x_76_0 : Ev d 76 0 (.int x :: L) st μ Q = Ev d 76 1 (.int x :: L) (.int x :: st) μ Q := e_iload_n (by decide +kernel : decode (bOf 76) 0 = .ok (.iload_n 0, 1)) rfl
theorem x_76_1 : Ev d 76 1 L st μ Q = Ev d 76 2 L (.int (iI 1) :: st) μ Q := e_iconst (by decide +kernel : decode (bOf 76) 1 = .ok (.iconst 1, 1))
theorem x_76_2 : Ev d 76 2 L (.int y :: .int x :: st) μ Q = if x = y then Ev d 76 5 L st μ Q else Ev d 76 9 L st μ Q := e_icmp_ne (by decide +kernel : decode (bOf 76) 2 = .ok (.if_icmp .ne 7, 3)) (by omega)
theorem x_76_5 : Ev d 76 5 L st μ Q = Ev d 76 6 L (.int (iI 1) :: st) μ Q := e_iconst (by decide +kernel : decode (bOf 76) 5 = .ok (.iconst 1, 1))
theorem x_76_6 : Ev d 76 6 L st μ Q = Ev d 76 10 L st μ Q := e_goto (by decide +kernel : decode (bOf 76) 6 = .ok (.goto 4, 3)) (by omega)
theorem x_76_9 : Ev d 76 9 L st μ Q = Ev d 76 10 L (.int (iI 0) :: st) μ Q := e_iconst (by decide +kernel : decode (bOf 76) 9 = .ok (.iconst 0, 1))
theorem x_76_10 : Ev d 76 10 L [.int x] μ Q = Q (some (.int x)) μ := e_iret (by decide +kernel : decode (bOf 76) 10 = .ok (.ireturn, 1)) (by decide +kernel)
end Xc
