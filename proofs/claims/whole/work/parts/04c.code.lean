section Xc
variable {d : Nat} {L st : List Value} {μ : mM} {Q : Option Value → mM → Prop} {t : mL} {V : Nat → Nat → Value} {A : Nat → Nat → Int32} {P : Nat → Nat → Option Nat} {N S : Nat} {K : Nat → Nat × Nat}
variable {a0 a1 a2 a3 a4 a5 a6 a7 a8 a9 a10 a11 a12 b0 b1 b2 b3 s0 s1 s2 s3 : Value} {x y i0 i1 i2 i3 i4 : Int32} {w z : Int64} {r q r0 r1 r2 : Nat}
theorem c_43 : Call (d + 1) 43 [.ref r0] μ Q = Ev d 43 0 [.ref r0, .null] [] μ Q := call_ev rfl rfl
theorem x_43_0 : Ev d 43 0 (.ref r :: L) st μ Q = Ev d 43 1 (.ref r :: L) (.ref r :: st) μ Q := e_aload_n (by decide +kernel : decode (bOf 43) 0 = .ok (.aload_n 0, 1)) rfl
theorem x_43_1 : Ev d 43 1 L [.ref r] μ Q = Ev d 43 4 L [] μ Q := e_obj (by decide +kernel : decode (bOf 43) 1 = .ok (.invokespecial 3, 3)) (by decide +kernel) (by decide +kernel) (by simp)
theorem x_43_4 : Ev d 43 4 (.ref r :: L) st μ Q = Ev d 43 5 (.ref r :: L) (.ref r :: st) μ Q := e_aload_n (by decide +kernel : decode (bOf 43) 4 = .ok (.aload_n 0, 1)) rfl
theorem x_43_5 : Ev d 43 5 L st ((N, S, K), V, A, P) Q = Ev d 43 8 L (.ref N :: st) ((N + 1, S + 7, up1 K N (3, 7)), up1 V N (rw' [.null, .null, .null, .int 0, .int 0, .int 0, .int 0]), A, P) Q := e_new 7 [.null, .null, .null, .int 0, .int 0, .int 0, .int 0] (by decide +kernel : decode (bOf 43) 5 = .ok (.new 9, 3)) (by decide +kernel) (by decide +kernel) (by decide +kernel) (by decide +kernel)
theorem x_43_8 : Ev d 43 8 L (.ref r :: st) μ Q = Ev d 43 9 L (.ref r :: .ref r :: st) μ Q := e_dup_a (by decide +kernel : decode (bOf 43) 8 = .ok (.dup, 1))
theorem x_43_9 : Ev d 43 9 L [.ref r, s0, s1] μ Q = Call d 29 [.ref r] μ (fun v μ1 => Ev d 43 12 L (v.toList ++ [s0, s1]) μ1 Q) := e_callI (a := []) (r := [s0, s1]) (by decide +kernel : decode (bOf 43) 9 = .ok (.invokespecial 11, 3)) (by decide +kernel) (by decide +kernel) (by decide +kernel) (by decide +kernel) (by omega) rfl (by simp)
theorem x_43_12 (h : kd t r = 4) : Ev d 43 12 L (.ref q :: .ref r :: st) (t, V, A, P) Q = Ev d 43 15 L st (t, up1 V r (up1 (V r) 0 (.ref q)), A, P) Q := e_putf (by decide +kernel : decode (bOf 43) 12 = .ok (.putfield 12, 3)) (by decide +kernel) (by decide +kernel) rfl h
theorem x_43_15 : Ev d 43 15 (.ref r :: L) st μ Q = Ev d 43 16 (.ref r :: L) (.ref r :: st) μ Q := e_aload_n (by decide +kernel : decode (bOf 43) 15 = .ok (.aload_n 0, 1)) rfl
theorem x_43_16 : Ev d 43 16 L st μ Q = Ev d 43 18 L (.int (iI 6) :: st) μ Q := e_bipush (by decide +kernel : decode (bOf 43) 16 = .ok (.bipush 6, 2)) (by decide +kernel)
theorem x_43_18 : Ev d 43 18 L (.int (iI 6) :: st) ((N, S, K), V, A, P) Q = Ev d 43 21 L (.ref N :: st) ((N + 1, S + 6, up1 K N (9, 6)), V, A, up1 P N (fun _ => none)) Q := e_newq 6 (by decide +kernel : decode (bOf 43) 18 = .ok (.anewarray 9, 3)) (by decide +kernel) (by decide +kernel) (by decide +kernel)
theorem x_43_21 (h : kd t r = 4) : Ev d 43 21 L (.ref q :: .ref r :: st) (t, V, A, P) Q = Ev d 43 24 L st (t, up1 V r (up1 (V r) 1 (.ref q)), A, P) Q := e_putf (by decide +kernel : decode (bOf 43) 21 = .ok (.putfield 16, 3)) (by decide +kernel) (by decide +kernel) rfl h
theorem x_43_24 : Ev d 43 24 (.ref r :: L) st μ Q = Ev d 43 25 (.ref r :: L) (.ref r :: st) μ Q := e_aload_n (by decide +kernel : decode (bOf 43) 24 = .ok (.aload_n 0, 1)) rfl
theorem x_43_25 : Ev d 43 25 L st μ Q = Ev d 43 26 L (.int (iI 2) :: st) μ Q := e_iconst (by decide +kernel : decode (bOf 43) 25 = .ok (.iconst 2, 1))
theorem x_43_26 : Ev d 43 26 L (.int (iI 2) :: st) ((N, S, K), V, A, P) Q = Ev d 43 29 L (.ref N :: st) ((N + 1, S + 2, up1 K N (9, 2)), V, A, up1 P N (fun _ => none)) Q := e_newq 2 (by decide +kernel : decode (bOf 43) 26 = .ok (.anewarray 9, 3)) (by decide +kernel) (by decide +kernel) (by decide +kernel)
theorem x_43_29 (h : kd t r = 4) : Ev d 43 29 L (.ref q :: .ref r :: st) (t, V, A, P) Q = Ev d 43 32 L st (t, up1 V r (up1 (V r) 2 (.ref q)), A, P) Q := e_putf (by decide +kernel : decode (bOf 43) 29 = .ok (.putfield 20, 3)) (by decide +kernel) (by decide +kernel) rfl h
theorem x_43_32 : Ev d 43 32 (.ref r :: L) st μ Q = Ev d 43 33 (.ref r :: L) (.ref r :: st) μ Q := e_aload_n (by decide +kernel : decode (bOf 43) 32 = .ok (.aload_n 0, 1)) rfl
theorem x_43_33 : Ev d 43 33 L st μ Q = Ev d 43 34 L (.int (iI 2) :: st) μ Q := e_iconst (by decide +kernel : decode (bOf 43) 33 = .ok (.iconst 2, 1))
theorem x_43_34 : Ev d 43 34 L (.int (iI 2) :: st) ((N, S, K), V, A, P) Q = Ev d 43 36 L (.ref N :: st) ((N + 1, S + 2, up1 K N (7, 2)), V, up1 A N (fun _ => 0), P) Q := e_newz 2 (by decide +kernel : decode (bOf 43) 34 = .ok (.newarray .boolean, 2)) (by decide +kernel) (by decide +kernel)
theorem x_43_36 (h : kd t r = 4) : Ev d 43 36 L (.ref q :: .ref r :: st) (t, V, A, P) Q = Ev d 43 39 L st (t, up1 V r (up1 (V r) 3 (.ref q)), A, P) Q := e_putf (by decide +kernel : decode (bOf 43) 36 = .ok (.putfield 23, 3)) (by decide +kernel) (by decide +kernel) rfl h
theorem x_43_39 : Ev d 43 39 (.ref r :: L) st μ Q = Ev d 43 40 (.ref r :: L) (.ref r :: st) μ Q := e_aload_n (by decide +kernel : decode (bOf 43) 39 = .ok (.aload_n 0, 1)) rfl
theorem x_43_40 : Ev d 43 40 L st μ Q = Ev d 43 42 L (.int (iI 120) :: st) μ Q := e_bipush (by decide +kernel : decode (bOf 43) 40 = .ok (.bipush 120, 2)) (by decide +kernel)
theorem x_43_42 : Ev d 43 42 L (.int (iI 120) :: st) ((N, S, K), V, A, P) Q = Ev d 43 44 L (.ref N :: st) ((N + 1, S + 120, up1 K N (6, 120)), V, up1 A N (fun _ => 0), P) Q := e_newi 120 (by decide +kernel : decode (bOf 43) 42 = .ok (.newarray .int, 2)) (by decide +kernel) (by decide +kernel)
theorem x_43_44 (h : kd t r = 4) : Ev d 43 44 L (.ref q :: .ref r :: st) (t, V, A, P) Q = Ev d 43 47 L st (t, up1 V r (up1 (V r) 4 (.ref q)), A, P) Q := e_putf (by decide +kernel : decode (bOf 43) 44 = .ok (.putfield 27, 3)) (by decide +kernel) (by decide +kernel) rfl h
theorem x_43_47 : Ev d 43 47 (.ref r :: L) st μ Q = Ev d 43 48 (.ref r :: L) (.ref r :: st) μ Q := e_aload_n (by decide +kernel : decode (bOf 43) 47 = .ok (.aload_n 0, 1)) rfl
theorem x_43_48 : Ev d 43 48 L st μ Q = Ev d 43 50 L (.int (iI 40) :: st) μ Q := e_bipush (by decide +kernel : decode (bOf 43) 48 = .ok (.bipush 40, 2)) (by decide +kernel)
theorem x_43_50 : Ev d 43 50 L (.int (iI 40) :: st) ((N, S, K), V, A, P) Q = Ev d 43 52 L (.ref N :: st) ((N + 1, S + 40, up1 K N (6, 40)), V, up1 A N (fun _ => 0), P) Q := e_newi 40 (by decide +kernel : decode (bOf 43) 50 = .ok (.newarray .int, 2)) (by decide +kernel) (by decide +kernel)
theorem x_43_52 (h : kd t r = 4) : Ev d 43 52 L (.ref q :: .ref r :: st) (t, V, A, P) Q = Ev d 43 55 L st (t, up1 V r (up1 (V r) 5 (.ref q)), A, P) Q := e_putf (by decide +kernel : decode (bOf 43) 52 = .ok (.putfield 31, 3)) (by decide +kernel) (by decide +kernel) rfl h
theorem x_43_55 : Ev d 43 55 (.ref r :: L) st μ Q = Ev d 43 56 (.ref r :: L) (.ref r :: st) μ Q := e_aload_n (by decide +kernel : decode (bOf 43) 55 = .ok (.aload_n 0, 1)) rfl
theorem x_43_56 : Ev d 43 56 L st ((N, S, K), V, A, P) Q = Ev d 43 59 L (.ref N :: st) ((N + 1, S + 10, up1 K N (1, 10)), up1 V N (rw' [.null, .null, .null, .int 0, .int 0, .int 0, .int 0, .int 0, .int 0, .int 0]), A, P) Q := e_new 10 [.null, .null, .null, .int 0, .int 0, .int 0, .int 0, .int 0, .int 0, .int 0] (by decide +kernel : decode (bOf 43) 56 = .ok (.new 34, 3)) (by decide +kernel) (by decide +kernel) (by decide +kernel) (by decide +kernel)
theorem x_43_59 : Ev d 43 59 L (.ref r :: st) μ Q = Ev d 43 60 L (.ref r :: .ref r :: st) μ Q := e_dup_a (by decide +kernel : decode (bOf 43) 59 = .ok (.dup, 1))
theorem x_43_60 : Ev d 43 60 L [.ref r, s0, s1] μ Q = Call d 13 [.ref r] μ (fun v μ1 => Ev d 43 63 L (v.toList ++ [s0, s1]) μ1 Q) := e_callI (a := []) (r := [s0, s1]) (by decide +kernel : decode (bOf 43) 60 = .ok (.invokespecial 36, 3)) (by decide +kernel) (by decide +kernel) (by decide +kernel) (by decide +kernel) (by omega) rfl (by simp)
theorem x_43_63 (h : kd t r = 4) : Ev d 43 63 L (.ref q :: .ref r :: st) (t, V, A, P) Q = Ev d 43 66 L st (t, up1 V r (up1 (V r) 6 (.ref q)), A, P) Q := e_putf (by decide +kernel : decode (bOf 43) 63 = .ok (.putfield 37, 3)) (by decide +kernel) (by decide +kernel) rfl h
theorem x_43_66 : Ev d 43 66 (.ref r :: L) st μ Q = Ev d 43 67 (.ref r :: L) (.ref r :: st) μ Q := e_aload_n (by decide +kernel : decode (bOf 43) 66 = .ok (.aload_n 0, 1)) rfl
theorem x_43_67 : Ev d 43 67 L st ((N, S, K), V, A, P) Q = Ev d 43 70 L (.ref N :: st) ((N + 1, S + 6, up1 K N (0, 6)), up1 V N (rw' [.null, .null, .null, .null, .int 0, .int 0]), A, P) Q := e_new 6 [.null, .null, .null, .null, .int 0, .int 0] (by decide +kernel : decode (bOf 43) 67 = .ok (.new 41, 3)) (by decide +kernel) (by decide +kernel) (by decide +kernel) (by decide +kernel)
theorem x_43_70 : Ev d 43 70 L (.ref r :: st) μ Q = Ev d 43 71 L (.ref r :: .ref r :: st) μ Q := e_dup_a (by decide +kernel : decode (bOf 43) 70 = .ok (.dup, 1))
theorem x_43_71 : Ev d 43 71 L [.ref r, s0, s1] μ Q = Call d 7 [.ref r] μ (fun v μ1 => Ev d 43 74 L (v.toList ++ [s0, s1]) μ1 Q) := e_callI (a := []) (r := [s0, s1]) (by decide +kernel : decode (bOf 43) 71 = .ok (.invokespecial 43, 3)) (by decide +kernel) (by decide +kernel) (by decide +kernel) (by decide +kernel) (by omega) rfl (by simp)
theorem x_43_74 (h : kd t r = 4) : Ev d 43 74 L (.ref q :: .ref r :: st) (t, V, A, P) Q = Ev d 43 77 L st (t, up1 V r (up1 (V r) 7 (.ref q)), A, P) Q := e_putf (by decide +kernel : decode (bOf 43) 74 = .ok (.putfield 44, 3)) (by decide +kernel) (by decide +kernel) rfl h
theorem x_43_77 : Ev d 43 77 (.ref r :: L) st μ Q = Ev d 43 78 (.ref r :: L) (.ref r :: st) μ Q := e_aload_n (by decide +kernel : decode (bOf 43) 77 = .ok (.aload_n 0, 1)) rfl
theorem x_43_78 : Ev d 43 78 L st ((N, S, K), V, A, P) Q = Ev d 43 81 L (.ref N :: st) ((N + 1, S + 5, up1 K N (2, 5)), up1 V N (rw' [.int 0, .int 0, .int 0, .int 0, .int 0]), A, P) Q := e_new 5 [.int 0, .int 0, .int 0, .int 0, .int 0] (by decide +kernel : decode (bOf 43) 78 = .ok (.new 48, 3)) (by decide +kernel) (by decide +kernel) (by decide +kernel) (by decide +kernel)
theorem x_43_81 : Ev d 43 81 L (.ref r :: st) μ Q = Ev d 43 82 L (.ref r :: .ref r :: st) μ Q := e_dup_a (by decide +kernel : decode (bOf 43) 81 = .ok (.dup, 1))
theorem x_43_82 : Ev d 43 82 L [.ref r, s0, s1] μ Q = Call d 23 [.ref r] μ (fun v μ1 => Ev d 43 85 L (v.toList ++ [s0, s1]) μ1 Q) := e_callI (a := []) (r := [s0, s1]) (by decide +kernel : decode (bOf 43) 82 = .ok (.invokespecial 50, 3)) (by decide +kernel) (by decide +kernel) (by decide +kernel) (by decide +kernel) (by omega) rfl (by simp)
theorem x_43_85 (h : kd t r = 4) : Ev d 43 85 L (.ref q :: .ref r :: st) (t, V, A, P) Q = Ev d 43 88 L st (t, up1 V r (up1 (V r) 8 (.ref q)), A, P) Q := e_putf (by decide +kernel : decode (bOf 43) 85 = .ok (.putfield 51, 3)) (by decide +kernel) (by decide +kernel) rfl h
theorem x_43_88 : Ev d 43 88 L st μ Q = Ev d 43 89 L (.int (iI 0) :: st) μ Q := e_iconst (by decide +kernel : decode (bOf 43) 88 = .ok (.iconst 0, 1))
theorem x_43_89 (h : a0.category = 1) : Ev d 43 89 (a0 :: a1 :: L) (.int x :: st) μ Q = Ev d 43 90 (a0 :: .int x :: L) st μ Q := e_istore_n (by decide +kernel : decode (bOf 43) 89 = .ok (.istore_n 1, 1)) (by show stOK _ 1 = true; simp [stOK, h])
theorem x_43_90 : Ev d 43 90 (a0 :: .int x :: L) st μ Q = Ev d 43 91 (a0 :: .int x :: L) (.int x :: st) μ Q := e_iload_n (by decide +kernel : decode (bOf 43) 90 = .ok (.iload_n 1, 1)) rfl
theorem x_43_91 : Ev d 43 91 L st μ Q = Ev d 43 93 L (.int (iI 6) :: st) μ Q := e_bipush (by decide +kernel : decode (bOf 43) 91 = .ok (.bipush 6, 2)) (by decide +kernel)
theorem x_43_93 : Ev d 43 93 L (.int y :: .int x :: st) μ Q = if x < y then Ev d 43 96 L st μ Q else Ev d 43 115 L st μ Q := e_icmp_ge (by decide +kernel : decode (bOf 43) 93 = .ok (.if_icmp .ge 22, 3)) (by omega)
theorem x_43_96 : Ev d 43 96 (.ref r :: L) st μ Q = Ev d 43 97 (.ref r :: L) (.ref r :: st) μ Q := e_aload_n (by decide +kernel : decode (bOf 43) 96 = .ok (.aload_n 0, 1)) rfl
theorem x_43_97 (h : kd t r = 4) : Ev d 43 97 L (.ref r :: st) (t, V, A, P) Q = Ev d 43 100 L (V r 1 :: st) (t, V, A, P) Q := e_getf (by decide +kernel : decode (bOf 43) 97 = .ok (.getfield 16, 3)) (by decide +kernel) (by decide +kernel) h
theorem x_43_100 : Ev d 43 100 (a0 :: .int x :: L) st μ Q = Ev d 43 101 (a0 :: .int x :: L) (.int x :: st) μ Q := e_iload_n (by decide +kernel : decode (bOf 43) 100 = .ok (.iload_n 1, 1)) rfl
theorem x_43_101 : Ev d 43 101 L st ((N, S, K), V, A, P) Q = Ev d 43 104 L (.ref N :: st) ((N + 1, S + 7, up1 K N (3, 7)), up1 V N (rw' [.null, .null, .null, .int 0, .int 0, .int 0, .int 0]), A, P) Q := e_new 7 [.null, .null, .null, .int 0, .int 0, .int 0, .int 0] (by decide +kernel : decode (bOf 43) 101 = .ok (.new 9, 3)) (by decide +kernel) (by decide +kernel) (by decide +kernel) (by decide +kernel)
theorem x_43_104 : Ev d 43 104 L (.ref r :: st) μ Q = Ev d 43 105 L (.ref r :: .ref r :: st) μ Q := e_dup_a (by decide +kernel : decode (bOf 43) 104 = .ok (.dup, 1))
theorem x_43_105 : Ev d 43 105 L [.ref r, s0, s1, s2] μ Q = Call d 29 [.ref r] μ (fun v μ1 => Ev d 43 108 L (v.toList ++ [s0, s1, s2]) μ1 Q) := e_callI (a := []) (r := [s0, s1, s2]) (by decide +kernel : decode (bOf 43) 105 = .ok (.invokespecial 11, 3)) (by decide +kernel) (by decide +kernel) (by decide +kernel) (by decide +kernel) (by omega) rfl (by simp)
theorem x_43_108 (h : kd t r = 9) (hv : kd t q = 3) (hi : inB x (ln t r) = true) : Ev d 43 108 L (.ref q :: .int x :: .ref r :: st) (t, V, A, P) Q = Ev d 43 109 L st (t, V, A, up1 P r (up1 (P r) x.toNatClampNeg (some q))) Q := e_aast9 (by decide +kernel : decode (bOf 43) 108 = .ok (.aastore, 1)) h hv hi
theorem x_43_109 (h : a0.category = 1) : Ev d 43 109 (a0 :: .int x :: L) st μ Q = Ev d 43 112 (a0 :: .int (x + (iI 1)) :: L) st μ Q := e_iinc (by decide +kernel : decode (bOf 43) 109 = .ok (.iinc 1 1, 3)) rfl (by simp [stOK, h])
theorem x_43_112 : Ev d 43 112 L st μ Q = Ev d 43 90 L st μ Q := e_goto (by decide +kernel : decode (bOf 43) 112 = .ok (.goto (-22), 3)) (by omega)
theorem x_43_115 : Ev d 43 115 L st μ Q = Ev d 43 116 L (.int (iI 0) :: st) μ Q := e_iconst (by decide +kernel : decode (bOf 43) 115 = .ok (.iconst 0, 1))
theorem x_43_116 (h : a0.category = 1) : Ev d 43 116 (a0 :: a1 :: L) (.int x :: st) μ Q = Ev d 43 117 (a0 :: .int x :: L) st μ Q := e_istore_n (by decide +kernel : decode (bOf 43) 116 = .ok (.istore_n 1, 1)) (by show stOK _ 1 = true; simp [stOK, h])
theorem x_43_117 : Ev d 43 117 (a0 :: .int x :: L) st μ Q = Ev d 43 118 (a0 :: .int x :: L) (.int x :: st) μ Q := e_iload_n (by decide +kernel : decode (bOf 43) 117 = .ok (.iload_n 1, 1)) rfl
theorem x_43_118 : Ev d 43 118 L st μ Q = Ev d 43 119 L (.int (iI 2) :: st) μ Q := e_iconst (by decide +kernel : decode (bOf 43) 118 = .ok (.iconst 2, 1))
theorem x_43_119 : Ev d 43 119 L (.int y :: .int x :: st) μ Q = if x < y then Ev d 43 122 L st μ Q else Ev d 43 141 L st μ Q := e_icmp_ge (by decide +kernel : decode (bOf 43) 119 = .ok (.if_icmp .ge 22, 3)) (by omega)
theorem x_43_122 : Ev d 43 122 (.ref r :: L) st μ Q = Ev d 43 123 (.ref r :: L) (.ref r :: st) μ Q := e_aload_n (by decide +kernel : decode (bOf 43) 122 = .ok (.aload_n 0, 1)) rfl
theorem x_43_123 (h : kd t r = 4) : Ev d 43 123 L (.ref r :: st) (t, V, A, P) Q = Ev d 43 126 L (V r 2 :: st) (t, V, A, P) Q := e_getf (by decide +kernel : decode (bOf 43) 123 = .ok (.getfield 20, 3)) (by decide +kernel) (by decide +kernel) h
theorem x_43_126 : Ev d 43 126 (a0 :: .int x :: L) st μ Q = Ev d 43 127 (a0 :: .int x :: L) (.int x :: st) μ Q := e_iload_n (by decide +kernel : decode (bOf 43) 126 = .ok (.iload_n 1, 1)) rfl
theorem x_43_127 : Ev d 43 127 L st ((N, S, K), V, A, P) Q = Ev d 43 130 L (.ref N :: st) ((N + 1, S + 7, up1 K N (3, 7)), up1 V N (rw' [.null, .null, .null, .int 0, .int 0, .int 0, .int 0]), A, P) Q := e_new 7 [.null, .null, .null, .int 0, .int 0, .int 0, .int 0] (by decide +kernel : decode (bOf 43) 127 = .ok (.new 9, 3)) (by decide +kernel) (by decide +kernel) (by decide +kernel) (by decide +kernel)
theorem x_43_130 : Ev d 43 130 L (.ref r :: st) μ Q = Ev d 43 131 L (.ref r :: .ref r :: st) μ Q := e_dup_a (by decide +kernel : decode (bOf 43) 130 = .ok (.dup, 1))
theorem x_43_131 : Ev d 43 131 L [.ref r, s0, s1, s2] μ Q = Call d 29 [.ref r] μ (fun v μ1 => Ev d 43 134 L (v.toList ++ [s0, s1, s2]) μ1 Q) := e_callI (a := []) (r := [s0, s1, s2]) (by decide +kernel : decode (bOf 43) 131 = .ok (.invokespecial 11, 3)) (by decide +kernel) (by decide +kernel) (by decide +kernel) (by decide +kernel) (by omega) rfl (by simp)
theorem x_43_134 (h : kd t r = 9) (hv : kd t q = 3) (hi : inB x (ln t r) = true) : Ev d 43 134 L (.ref q :: .int x :: .ref r :: st) (t, V, A, P) Q = Ev d 43 135 L st (t, V, A, up1 P r (up1 (P r) x.toNatClampNeg (some q))) Q := e_aast9 (by decide +kernel : decode (bOf 43) 134 = .ok (.aastore, 1)) h hv hi
theorem x_43_135 (h : a0.category = 1) : Ev d 43 135 (a0 :: .int x :: L) st μ Q = Ev d 43 138 (a0 :: .int (x + (iI 1)) :: L) st μ Q := e_iinc (by decide +kernel : decode (bOf 43) 135 = .ok (.iinc 1 1, 3)) rfl (by simp [stOK, h])
theorem x_43_138 : Ev d 43 138 L st μ Q = Ev d 43 117 L st μ Q := e_goto (by decide +kernel : decode (bOf 43) 138 = .ok (.goto (-21), 3)) (by omega)
theorem x_43_141 : Ev d 43 141 L [] μ Q = Q none μ := e_ret (by decide +kernel : decode (bOf 43) 141 = .ok (.return_, 1)) (by decide +kernel)
theorem c_44 : Call (d + 1) 44 [.ref r0, .int i1] μ Q = Ev d 44 0 [.ref r0, .int i1] [] μ Q := call_ev rfl rfl
theorem x_44_0 : Ev d 44 0 (a0 :: .int x :: L) st μ Q = Ev d 44 1 (a0 :: .int x :: L) (.int x :: st) μ Q := e_iload_n (by decide +kernel : decode (bOf 44) 0 = .ok (.iload_n 1, 1)) rfl
theorem x_44_1 : Ev d 44 1 L (.int x :: st) μ Q = if x < iI 0 then Ev d 44 11 L st μ Q else Ev d 44 4 L st μ Q := e_if_lt (by decide +kernel : decode (bOf 44) 1 = .ok (.ifCond .lt 10, 3)) (by omega)
theorem x_44_4 : Ev d 44 4 (a0 :: .int x :: L) st μ Q = Ev d 44 5 (a0 :: .int x :: L) (.int x :: st) μ Q := e_iload_n (by decide +kernel : decode (bOf 44) 4 = .ok (.iload_n 1, 1)) rfl
theorem x_44_5 : Ev d 44 5 L st μ Q = Ev d 44 8 L (.int (iI 255) :: st) μ Q := e_sipush (by decide +kernel : decode (bOf 44) 5 = .ok (.sipush 255, 3)) (by decide +kernel)
theorem x_44_8 : Ev d 44 8 L (.int y :: .int x :: st) μ Q = if y < x then Ev d 44 11 L st μ Q else Ev d 44 13 L st μ Q := e_icmp_le (by decide +kernel : decode (bOf 44) 8 = .ok (.if_icmp .le 5, 3)) (by omega)
theorem x_44_11 : Ev d 44 11 L st μ Q = Ev d 44 12 L (.int (iI (-1)) :: st) μ Q := e_iconst (by decide +kernel : decode (bOf 44) 11 = .ok (.iconst (-1), 1))
theorem x_44_12 : Ev d 44 12 L [.int x] μ Q = Q (some (.int x)) μ := e_iret (by decide +kernel : decode (bOf 44) 12 = .ok (.ireturn, 1)) (by decide +kernel)
theorem x_44_13 : Ev d 44 13 (.ref r :: L) st μ Q = Ev d 44 14 (.ref r :: L) (.ref r :: st) μ Q := e_aload_n (by decide +kernel : decode (bOf 44) 13 = .ok (.aload_n 0, 1)) rfl
theorem x_44_14 (h : kd t r = 4) : Ev d 44 14 L (.ref r :: st) (t, V, A, P) Q = Ev d 44 17 L (V r 9 :: st) (t, V, A, P) Q := e_getf (by decide +kernel : decode (bOf 44) 14 = .ok (.getfield 55, 3)) (by decide +kernel) (by decide +kernel) h
theorem x_44_17 : Ev d 44 17 L (.int x :: st) μ Q = if x < iI 0 then Ev d 44 29 L st μ Q else Ev d 44 20 L st μ Q := e_if_lt (by decide +kernel : decode (bOf 44) 17 = .ok (.ifCond .lt 12, 3)) (by omega)
theorem x_44_20 : Ev d 44 20 (.ref r :: L) st μ Q = Ev d 44 21 (.ref r :: L) (.ref r :: st) μ Q := e_aload_n (by decide +kernel : decode (bOf 44) 20 = .ok (.aload_n 0, 1)) rfl
theorem x_44_21 (h : kd t r = 4) : Ev d 44 21 L (.ref r :: st) (t, V, A, P) Q = Ev d 44 24 L (V r 9 :: st) (t, V, A, P) Q := e_getf (by decide +kernel : decode (bOf 44) 21 = .ok (.getfield 55, 3)) (by decide +kernel) (by decide +kernel) h
theorem x_44_24 : Ev d 44 24 L st μ Q = Ev d 44 26 L (.int (iI 120) :: st) μ Q := e_bipush (by decide +kernel : decode (bOf 44) 24 = .ok (.bipush 120, 2)) (by decide +kernel)
theorem x_44_26 : Ev d 44 26 L (.int y :: .int x :: st) μ Q = if x < y then Ev d 44 32 L st μ Q else Ev d 44 29 L st μ Q := e_icmp_lt (by decide +kernel : decode (bOf 44) 26 = .ok (.if_icmp .lt 6, 3)) (by omega)
theorem x_44_29 : Ev d 44 29 L st μ Q = Ev d 44 31 L (.int (iI (-3)) :: st) μ Q := e_bipush (by decide +kernel : decode (bOf 44) 29 = .ok (.bipush (-3), 2)) (by decide +kernel)
theorem x_44_31 : Ev d 44 31 L [.int x] μ Q = Q (some (.int x)) μ := e_iret (by decide +kernel : decode (bOf 44) 31 = .ok (.ireturn, 1)) (by decide +kernel)
theorem x_44_32 : Ev d 44 32 (.ref r :: L) st μ Q = Ev d 44 33 (.ref r :: L) (.ref r :: st) μ Q := e_aload_n (by decide +kernel : decode (bOf 44) 32 = .ok (.aload_n 0, 1)) rfl
theorem x_44_33 (h : kd t r = 4) : Ev d 44 33 L (.ref r :: st) (t, V, A, P) Q = Ev d 44 36 L (V r 4 :: st) (t, V, A, P) Q := e_getf (by decide +kernel : decode (bOf 44) 33 = .ok (.getfield 27, 3)) (by decide +kernel) (by decide +kernel) h
theorem x_44_36 : Ev d 44 36 (.ref r :: L) st μ Q = Ev d 44 37 (.ref r :: L) (.ref r :: st) μ Q := e_aload_n (by decide +kernel : decode (bOf 44) 36 = .ok (.aload_n 0, 1)) rfl
theorem x_44_37 (h : kd t r = 4) : Ev d 44 37 L (.ref r :: st) (t, V, A, P) Q = Ev d 44 40 L (V r 9 :: st) (t, V, A, P) Q := e_getf (by decide +kernel : decode (bOf 44) 37 = .ok (.getfield 55, 3)) (by decide +kernel) (by decide +kernel) h
theorem x_44_40 : Ev d 44 40 (a0 :: .int x :: L) st μ Q = Ev d 44 41 (a0 :: .int x :: L) (.int x :: st) μ Q := e_iload_n (by decide +kernel : decode (bOf 44) 40 = .ok (.iload_n 1, 1)) rfl
theorem x_44_41 (h : kd t r = 6) (hi : inB x (ln t r) = true) : Ev d 44 41 L (.int y :: .int x :: .ref r :: st) (t, V, A, P) Q = Ev d 44 42 L st (t, V, up1 A r (upd (A r) x.toNatClampNeg y), P) Q := e_iast (by decide +kernel : decode (bOf 44) 41 = .ok (.iastore, 1)) h hi
theorem x_44_42 : Ev d 44 42 (.ref r :: L) st μ Q = Ev d 44 43 (.ref r :: L) (.ref r :: st) μ Q := e_aload_n (by decide +kernel : decode (bOf 44) 42 = .ok (.aload_n 0, 1)) rfl
theorem x_44_43 : Ev d 44 43 L (.ref r :: st) μ Q = Ev d 44 44 L (.ref r :: .ref r :: st) μ Q := e_dup_a (by decide +kernel : decode (bOf 44) 43 = .ok (.dup, 1))
theorem x_44_44 (h : kd t r = 4) : Ev d 44 44 L (.ref r :: st) (t, V, A, P) Q = Ev d 44 47 L (V r 9 :: st) (t, V, A, P) Q := e_getf (by decide +kernel : decode (bOf 44) 44 = .ok (.getfield 55, 3)) (by decide +kernel) (by decide +kernel) h
theorem x_44_47 : Ev d 44 47 L st μ Q = Ev d 44 48 L (.int (iI 1) :: st) μ Q := e_iconst (by decide +kernel : decode (bOf 44) 47 = .ok (.iconst 1, 1))
theorem x_44_48 : Ev d 44 48 L (.int y :: .int x :: st) μ Q = Ev d 44 49 L (.int (x + y) :: st) μ Q := e_iadd (by decide +kernel : decode (bOf 44) 48 = .ok (.iadd, 1))
theorem x_44_49 (h : kd t r = 4) : Ev d 44 49 L (.int x :: .ref r :: st) (t, V, A, P) Q = Ev d 44 52 L st (t, up1 V r (up1 (V r) 9 (.int x)), A, P) Q := e_putf (by decide +kernel : decode (bOf 44) 49 = .ok (.putfield 55, 3)) (by decide +kernel) (by decide +kernel) rfl h
theorem x_44_52 : Ev d 44 52 (.ref r :: L) st μ Q = Ev d 44 53 (.ref r :: L) (.ref r :: st) μ Q := e_aload_n (by decide +kernel : decode (bOf 44) 52 = .ok (.aload_n 0, 1)) rfl
theorem x_44_53 (h : kd t r = 4) : Ev d 44 53 L (.ref r :: st) (t, V, A, P) Q = Ev d 44 56 L (V r 9 :: st) (t, V, A, P) Q := e_getf (by decide +kernel : decode (bOf 44) 53 = .ok (.getfield 55, 3)) (by decide +kernel) (by decide +kernel) h
theorem x_44_56 : Ev d 44 56 L [.int x] μ Q = Q (some (.int x)) μ := e_iret (by decide +kernel : decode (bOf 44) 56 = .ok (.ireturn, 1)) (by decide +kernel)
theorem c_45 : Call (d + 1) 45 [.ref r0] μ Q = Ev d 45 0 [.ref r0, .null] [] μ Q := call_ev rfl rfl
theorem x_45_0 : Ev d 45 0 (.ref r :: L) st μ Q = Ev d 45 1 (.ref r :: L) (.ref r :: st) μ Q := e_aload_n (by decide +kernel : decode (bOf 45) 0 = .ok (.aload_n 0, 1)) rfl
theorem x_45_1 (h : kd t r = 4) : Ev d 45 1 L (.ref r :: st) (t, V, A, P) Q = Ev d 45 4 L (V r 9 :: st) (t, V, A, P) Q := e_getf (by decide +kernel : decode (bOf 45) 1 = .ok (.getfield 55, 3)) (by decide +kernel) (by decide +kernel) h
theorem x_45_4 (h : a0.category = 1) : Ev d 45 4 (a0 :: a1 :: L) (.int x :: st) μ Q = Ev d 45 5 (a0 :: .int x :: L) st μ Q := e_istore_n (by decide +kernel : decode (bOf 45) 4 = .ok (.istore_n 1, 1)) (by show stOK _ 1 = true; simp [stOK, h])
theorem x_45_5 : Ev d 45 5 (.ref r :: L) st μ Q = Ev d 45 6 (.ref r :: L) (.ref r :: st) μ Q := e_aload_n (by decide +kernel : decode (bOf 45) 5 = .ok (.aload_n 0, 1)) rfl
theorem x_45_6 : Ev d 45 6 L st μ Q = Ev d 45 7 L (.int (iI 0) :: st) μ Q := e_iconst (by decide +kernel : decode (bOf 45) 6 = .ok (.iconst 0, 1))
theorem x_45_7 (h : kd t r = 4) : Ev d 45 7 L (.int x :: .ref r :: st) (t, V, A, P) Q = Ev d 45 10 L st (t, up1 V r (up1 (V r) 9 (.int x)), A, P) Q := e_putf (by decide +kernel : decode (bOf 45) 7 = .ok (.putfield 55, 3)) (by decide +kernel) (by decide +kernel) rfl h
theorem x_45_10 : Ev d 45 10 (a0 :: .int x :: L) st μ Q = Ev d 45 11 (a0 :: .int x :: L) (.int x :: st) μ Q := e_iload_n (by decide +kernel : decode (bOf 45) 10 = .ok (.iload_n 1, 1)) rfl
theorem x_45_11 : Ev d 45 11 L [.int x] μ Q = Q (some (.int x)) μ := e_iret (by decide +kernel : decode (bOf 45) 11 = .ok (.ireturn, 1)) (by decide +kernel)
theorem c_46 : Call (d + 1) 46 [.ref r0] μ Q = Ev d 46 0 [.ref r0, .null, .null] [] μ Q := call_ev rfl rfl
theorem x_46_0 : Ev d 46 0 (.ref r :: L) st μ Q = Ev d 46 1 (.ref r :: L) (.ref r :: st) μ Q := e_aload_n (by decide +kernel : decode (bOf 46) 0 = .ok (.aload_n 0, 1)) rfl
theorem x_46_1 (h : kd t r = 4) : Ev d 46 1 L [.ref r] (t, V, A, P) Q = Call d 69 [.ref r] (t, V, A, P) (fun v μ1 => Ev d 46 4 L (v.toList ++ []) μ1 Q) := e_callV (a := []) (r := []) (by decide +kernel : decode (bOf 46) 1 = .ok (.invokevirtual 59, 3)) (by decide +kernel) (by decide +kernel) (by decide +kernel) (by omega) rfl (by simp) (by decide +kernel) h
theorem x_46_4 (h : a0.category = 1) : Ev d 46 4 (a0 :: a1 :: L) (.int x :: st) μ Q = Ev d 46 5 (a0 :: .int x :: L) st μ Q := e_istore_n (by decide +kernel : decode (bOf 46) 4 = .ok (.istore_n 1, 1)) (by show stOK _ 1 = true; simp [stOK, h])
theorem x_46_5 : Ev d 46 5 (a0 :: .int x :: L) st μ Q = Ev d 46 6 (a0 :: .int x :: L) (.int x :: st) μ Q := e_iload_n (by decide +kernel : decode (bOf 46) 5 = .ok (.iload_n 1, 1)) rfl
theorem x_46_6 : Ev d 46 6 L (.int x :: st) μ Q = if x < iI 0 then Ev d 46 14 L st μ Q else Ev d 46 9 L st μ Q := e_if_lt (by decide +kernel : decode (bOf 46) 6 = .ok (.ifCond .lt 8, 3)) (by omega)
theorem x_46_9 : Ev d 46 9 L st μ Q = Ev d 46 11 L (.int (iI (-10)) :: st) μ Q := e_bipush (by decide +kernel : decode (bOf 46) 9 = .ok (.bipush (-10), 2)) (by decide +kernel)
theorem x_46_11 : Ev d 46 11 (a0 :: .int x :: L) st μ Q = Ev d 46 12 (a0 :: .int x :: L) (.int x :: st) μ Q := e_iload_n (by decide +kernel : decode (bOf 46) 11 = .ok (.iload_n 1, 1)) rfl
theorem x_46_12 : Ev d 46 12 L (.int y :: .int x :: st) μ Q = Ev d 46 13 L (.int (x - y) :: st) μ Q := e_isub (by decide +kernel : decode (bOf 46) 12 = .ok (.isub, 1))
theorem x_46_13 : Ev d 46 13 L [.int x] μ Q = Q (some (.int x)) μ := e_iret (by decide +kernel : decode (bOf 46) 13 = .ok (.ireturn, 1)) (by decide +kernel)
theorem x_46_14 : Ev d 46 14 (.ref r :: L) st μ Q = Ev d 46 15 (.ref r :: L) (.ref r :: st) μ Q := e_aload_n (by decide +kernel : decode (bOf 46) 14 = .ok (.aload_n 0, 1)) rfl
theorem x_46_15 (h : kd t r = 4) : Ev d 46 15 L (.ref r :: st) (t, V, A, P) Q = Ev d 46 18 L (V r 0 :: st) (t, V, A, P) Q := e_getf (by decide +kernel : decode (bOf 46) 15 = .ok (.getfield 12, 3)) (by decide +kernel) (by decide +kernel) h
theorem x_46_18 (h : kd t r = 3) : Ev d 46 18 L (.ref r :: st) (t, V, A, P) Q = Ev d 46 21 L (V r 3 :: st) (t, V, A, P) Q := e_getf (by decide +kernel : decode (bOf 46) 18 = .ok (.getfield 63, 3)) (by decide +kernel) (by decide +kernel) h
theorem x_46_21 : Ev d 46 21 (.ref r :: L) st μ Q = Ev d 46 22 (.ref r :: L) (.ref r :: st) μ Q := e_aload_n (by decide +kernel : decode (bOf 46) 21 = .ok (.aload_n 0, 1)) rfl
theorem x_46_22 (h : kd t r = 4) : Ev d 46 22 L (.ref r :: st) (t, V, A, P) Q = Ev d 46 25 L (V r 10 :: st) (t, V, A, P) Q := e_getf (by decide +kernel : decode (bOf 46) 22 = .ok (.getfield 66, 3)) (by decide +kernel) (by decide +kernel) h
theorem x_46_25 : Ev d 46 25 L (.int y :: .int x :: st) μ Q = Ev d 46 26 L (.int (x + y) :: st) μ Q := e_iadd (by decide +kernel : decode (bOf 46) 25 = .ok (.iadd, 1))
theorem x_46_26 : Ev d 46 26 L st μ Q = Ev d 46 28 L (.int (iI 32) :: st) μ Q := e_bipush (by decide +kernel : decode (bOf 46) 26 = .ok (.bipush 32, 2)) (by decide +kernel)
theorem x_46_28 : Ev d 46 28 L (.int y :: .int x :: st) μ Q = if y < x then Ev d 46 31 L st μ Q else Ev d 46 34 L st μ Q := e_icmp_le (by decide +kernel : decode (bOf 46) 28 = .ok (.if_icmp .le 6, 3)) (by omega)
theorem x_46_31 : Ev d 46 31 L st μ Q = Ev d 46 33 L (.int (iI (-3)) :: st) μ Q := e_bipush (by decide +kernel : decode (bOf 46) 31 = .ok (.bipush (-3), 2)) (by decide +kernel)
theorem x_46_33 : Ev d 46 33 L [.int x] μ Q = Q (some (.int x)) μ := e_iret (by decide +kernel : decode (bOf 46) 33 = .ok (.ireturn, 1)) (by decide +kernel)
theorem x_46_34 : Ev d 46 34 (.ref r :: L) st μ Q = Ev d 46 35 (.ref r :: L) (.ref r :: st) μ Q := e_aload_n (by decide +kernel : decode (bOf 46) 34 = .ok (.aload_n 0, 1)) rfl
theorem x_46_35 (h : kd t r = 4) : Ev d 46 35 L [.ref r] (t, V, A, P) Q = Call d 66 [.ref r] (t, V, A, P) (fun v μ1 => Ev d 46 38 L (v.toList ++ []) μ1 Q) := e_callV (a := []) (r := []) (by decide +kernel : decode (bOf 46) 35 = .ok (.invokevirtual 69, 3)) (by decide +kernel) (by decide +kernel) (by decide +kernel) (by omega) rfl (by simp) (by decide +kernel) h
theorem x_46_38 : Ev d 46 38 L st μ Q = Ev d 46 39 L (.int (iI 0) :: st) μ Q := e_iconst (by decide +kernel : decode (bOf 46) 38 = .ok (.iconst 0, 1))
theorem x_46_39 (h : a1.category = 1) : Ev d 46 39 (a0 :: a1 :: a2 :: L) (.int x :: st) μ Q = Ev d 46 40 (a0 :: a1 :: .int x :: L) st μ Q := e_istore_n (by decide +kernel : decode (bOf 46) 39 = .ok (.istore_n 2, 1)) (by show stOK _ 2 = true; simp [stOK, h])
theorem x_46_40 : Ev d 46 40 (a0 :: a1 :: .int x :: L) st μ Q = Ev d 46 41 (a0 :: a1 :: .int x :: L) (.int x :: st) μ Q := e_iload_n (by decide +kernel : decode (bOf 46) 40 = .ok (.iload_n 2, 1)) rfl
theorem x_46_41 : Ev d 46 41 (.ref r :: L) st μ Q = Ev d 46 42 (.ref r :: L) (.ref r :: st) μ Q := e_aload_n (by decide +kernel : decode (bOf 46) 41 = .ok (.aload_n 0, 1)) rfl
theorem x_46_42 (h : kd t r = 4) : Ev d 46 42 L (.ref r :: st) (t, V, A, P) Q = Ev d 46 45 L (V r 10 :: st) (t, V, A, P) Q := e_getf (by decide +kernel : decode (bOf 46) 42 = .ok (.getfield 66, 3)) (by decide +kernel) (by decide +kernel) h
theorem x_46_45 : Ev d 46 45 L (.int y :: .int x :: st) μ Q = if x < y then Ev d 46 48 L st μ Q else Ev d 46 74 L st μ Q := e_icmp_ge (by decide +kernel : decode (bOf 46) 45 = .ok (.if_icmp .ge 29, 3)) (by omega)
theorem x_46_48 : Ev d 46 48 (a0 :: a1 :: .int x :: L) st μ Q = Ev d 46 49 (a0 :: a1 :: .int x :: L) (.int x :: st) μ Q := e_iload_n (by decide +kernel : decode (bOf 46) 48 = .ok (.iload_n 2, 1)) rfl
theorem x_46_49 : Ev d 46 49 L st μ Q = Ev d 46 51 L (.int (iI 40) :: st) μ Q := e_bipush (by decide +kernel : decode (bOf 46) 49 = .ok (.bipush 40, 2)) (by decide +kernel)
theorem x_46_51 : Ev d 46 51 L (.int y :: .int x :: st) μ Q = if x < y then Ev d 46 54 L st μ Q else Ev d 46 74 L st μ Q := e_icmp_ge (by decide +kernel : decode (bOf 46) 51 = .ok (.if_icmp .ge 23, 3)) (by omega)
theorem x_46_54 : Ev d 46 54 (.ref r :: L) st μ Q = Ev d 46 55 (.ref r :: L) (.ref r :: st) μ Q := e_aload_n (by decide +kernel : decode (bOf 46) 54 = .ok (.aload_n 0, 1)) rfl
theorem x_46_55 (h : kd t r = 4) : Ev d 46 55 L (.ref r :: st) (t, V, A, P) Q = Ev d 46 58 L (V r 0 :: st) (t, V, A, P) Q := e_getf (by decide +kernel : decode (bOf 46) 55 = .ok (.getfield 12, 3)) (by decide +kernel) (by decide +kernel) h
theorem x_46_58 : Ev d 46 58 (.ref r :: L) st μ Q = Ev d 46 59 (.ref r :: L) (.ref r :: st) μ Q := e_aload_n (by decide +kernel : decode (bOf 46) 58 = .ok (.aload_n 0, 1)) rfl
theorem x_46_59 (h : kd t r = 4) : Ev d 46 59 L (.ref r :: st) (t, V, A, P) Q = Ev d 46 62 L (V r 5 :: st) (t, V, A, P) Q := e_getf (by decide +kernel : decode (bOf 46) 59 = .ok (.getfield 31, 3)) (by decide +kernel) (by decide +kernel) h
theorem x_46_62 : Ev d 46 62 (a0 :: a1 :: .int x :: L) st μ Q = Ev d 46 63 (a0 :: a1 :: .int x :: L) (.int x :: st) μ Q := e_iload_n (by decide +kernel : decode (bOf 46) 62 = .ok (.iload_n 2, 1)) rfl
theorem x_46_63 (h : kd t r = 6) (hi : inB x (ln t r) = true) : Ev d 46 63 L (.int x :: .ref r :: st) (t, V, A, P) Q = Ev d 46 64 L (.int (A r x.toNatClampNeg) :: st) (t, V, A, P) Q := e_iald (by decide +kernel : decode (bOf 46) 63 = .ok (.iaload, 1)) h hi
theorem x_46_64 (h : kd t r = 3) : Ev d 46 64 L [b0, .ref r] (t, V, A, P) Q = Call d 32 [.ref r, b0] (t, V, A, P) (fun v μ1 => Ev d 46 67 L (v.toList ++ []) μ1 Q) := e_callV (a := [b0]) (r := []) (by decide +kernel : decode (bOf 46) 64 = .ok (.invokevirtual 72, 3)) (by decide +kernel) (by decide +kernel) (by decide +kernel) (by omega) rfl (by simp) (by decide +kernel) h
theorem x_46_67 : Ev d 46 67 L (.int x :: st) μ Q = Ev d 46 68 L st μ Q := e_pop (by decide +kernel : decode (bOf 46) 67 = .ok (.pop, 1))
theorem x_46_68 (h : a1.category = 1) : Ev d 46 68 (a0 :: a1 :: .int x :: L) st μ Q = Ev d 46 71 (a0 :: a1 :: .int (x + (iI 1)) :: L) st μ Q := e_iinc (by decide +kernel : decode (bOf 46) 68 = .ok (.iinc 2 1, 3)) rfl (by simp [stOK, h])
theorem x_46_71 : Ev d 46 71 L st μ Q = Ev d 46 40 L st μ Q := e_goto (by decide +kernel : decode (bOf 46) 71 = .ok (.goto (-31), 3)) (by omega)
theorem x_46_74 : Ev d 46 74 (.ref r :: L) st μ Q = Ev d 46 75 (.ref r :: L) (.ref r :: st) μ Q := e_aload_n (by decide +kernel : decode (bOf 46) 74 = .ok (.aload_n 0, 1)) rfl
theorem x_46_75 : Ev d 46 75 L st μ Q = Ev d 46 76 L (.int (iI 0) :: st) μ Q := e_iconst (by decide +kernel : decode (bOf 46) 75 = .ok (.iconst 0, 1))
theorem x_46_76 (h : kd t r = 4) : Ev d 46 76 L (.int x :: .ref r :: st) (t, V, A, P) Q = Ev d 46 79 L st (t, up1 V r (up1 (V r) 9 (.int x)), A, P) Q := e_putf (by decide +kernel : decode (bOf 46) 76 = .ok (.putfield 55, 3)) (by decide +kernel) (by decide +kernel) rfl h
theorem x_46_79 : Ev d 46 79 (.ref r :: L) st μ Q = Ev d 46 80 (.ref r :: L) (.ref r :: st) μ Q := e_aload_n (by decide +kernel : decode (bOf 46) 79 = .ok (.aload_n 0, 1)) rfl
theorem x_46_80 (h : kd t r = 4) : Ev d 46 80 L (.ref r :: st) (t, V, A, P) Q = Ev d 46 83 L (V r 10 :: st) (t, V, A, P) Q := e_getf (by decide +kernel : decode (bOf 46) 80 = .ok (.getfield 66, 3)) (by decide +kernel) (by decide +kernel) h
theorem x_46_83 : Ev d 46 83 L [.int x] μ Q = Q (some (.int x)) μ := e_iret (by decide +kernel : decode (bOf 46) 83 = .ok (.ireturn, 1)) (by decide +kernel)
theorem c_47 : Call (d + 1) 47 [.ref r0, .int i1] μ Q = Ev d 47 0 [.ref r0, .int i1] [] μ Q := call_ev rfl rfl
theorem x_47_0 : Ev d 47 0 (a0 :: .int x :: L) st μ Q = Ev d 47 1 (a0 :: .int x :: L) (.int x :: st) μ Q := e_iload_n (by decide +kernel : decode (bOf 47) 0 = .ok (.iload_n 1, 1)) rfl
theorem x_47_1 : Ev d 47 1 L (.int x :: st) μ Q = if x < iI 0 then Ev d 47 10 L st μ Q else Ev d 47 4 L st μ Q := e_if_lt (by decide +kernel : decode (bOf 47) 1 = .ok (.ifCond .lt 9, 3)) (by omega)
theorem x_47_4 : Ev d 47 4 (a0 :: .int x :: L) st μ Q = Ev d 47 5 (a0 :: .int x :: L) (.int x :: st) μ Q := e_iload_n (by decide +kernel : decode (bOf 47) 4 = .ok (.iload_n 1, 1)) rfl
theorem x_47_5 : Ev d 47 5 L st μ Q = Ev d 47 7 L (.int (iI 31) :: st) μ Q := e_bipush (by decide +kernel : decode (bOf 47) 5 = .ok (.bipush 31, 2)) (by decide +kernel)
theorem x_47_7 : Ev d 47 7 L (.int y :: .int x :: st) μ Q = if x < y then Ev d 47 12 L st μ Q else Ev d 47 10 L st μ Q := e_icmp_lt (by decide +kernel : decode (bOf 47) 7 = .ok (.if_icmp .lt 5, 3)) (by omega)
theorem x_47_10 : Ev d 47 10 L st μ Q = Ev d 47 11 L (.int (iI (-1)) :: st) μ Q := e_iconst (by decide +kernel : decode (bOf 47) 10 = .ok (.iconst (-1), 1))
theorem x_47_11 : Ev d 47 11 L [.int x] μ Q = Q (some (.int x)) μ := e_iret (by decide +kernel : decode (bOf 47) 11 = .ok (.ireturn, 1)) (by decide +kernel)
theorem x_47_12 : Ev d 47 12 (.ref r :: L) st μ Q = Ev d 47 13 (.ref r :: L) (.ref r :: st) μ Q := e_aload_n (by decide +kernel : decode (bOf 47) 12 = .ok (.aload_n 0, 1)) rfl
theorem x_47_13 : Ev d 47 13 (a0 :: .int x :: L) st μ Q = Ev d 47 14 (a0 :: .int x :: L) (.int x :: st) μ Q := e_iload_n (by decide +kernel : decode (bOf 47) 13 = .ok (.iload_n 1, 1)) rfl
theorem x_47_14 (h : kd t r = 4) : Ev d 47 14 L [b0, .ref r] (t, V, A, P) Q = Call d 65 [.ref r, b0] (t, V, A, P) (fun v μ1 => Ev d 47 17 L (v.toList ++ []) μ1 Q) := e_callV (a := [b0]) (r := []) (by decide +kernel : decode (bOf 47) 14 = .ok (.invokevirtual 76, 3)) (by decide +kernel) (by decide +kernel) (by decide +kernel) (by omega) rfl (by simp) (by decide +kernel) h
theorem x_47_17 : Ev d 47 17 L [.int x] μ Q = Q (some (.int x)) μ := e_iret (by decide +kernel : decode (bOf 47) 17 = .ok (.ireturn, 1)) (by decide +kernel)
theorem c_48 : Call (d + 1) 48 [.ref r0, .int i1] μ Q = Ev d 48 0 [.ref r0, .int i1] [] μ Q := call_ev rfl rfl
theorem x_48_0 : Ev d 48 0 (a0 :: .int x :: L) st μ Q = Ev d 48 1 (a0 :: .int x :: L) (.int x :: st) μ Q := e_iload_n (by decide +kernel : decode (bOf 48) 0 = .ok (.iload_n 1, 1)) rfl
theorem x_48_1 : Ev d 48 1 L (.int x :: st) μ Q = if x < iI 0 then Ev d 48 9 L st μ Q else Ev d 48 4 L st μ Q := e_if_lt (by decide +kernel : decode (bOf 48) 1 = .ok (.ifCond .lt 8, 3)) (by omega)
theorem x_48_4 : Ev d 48 4 (a0 :: .int x :: L) st μ Q = Ev d 48 5 (a0 :: .int x :: L) (.int x :: st) μ Q := e_iload_n (by decide +kernel : decode (bOf 48) 4 = .ok (.iload_n 1, 1)) rfl
theorem x_48_5 : Ev d 48 5 L st μ Q = Ev d 48 6 L (.int (iI 3) :: st) μ Q := e_iconst (by decide +kernel : decode (bOf 48) 5 = .ok (.iconst 3, 1))
theorem x_48_6 : Ev d 48 6 L (.int y :: .int x :: st) μ Q = if x < y then Ev d 48 11 L st μ Q else Ev d 48 9 L st μ Q := e_icmp_lt (by decide +kernel : decode (bOf 48) 6 = .ok (.if_icmp .lt 5, 3)) (by omega)
theorem x_48_9 : Ev d 48 9 L st μ Q = Ev d 48 10 L (.int (iI (-1)) :: st) μ Q := e_iconst (by decide +kernel : decode (bOf 48) 9 = .ok (.iconst (-1), 1))
theorem x_48_10 : Ev d 48 10 L [.int x] μ Q = Q (some (.int x)) μ := e_iret (by decide +kernel : decode (bOf 48) 10 = .ok (.ireturn, 1)) (by decide +kernel)
theorem x_48_11 : Ev d 48 11 (.ref r :: L) st μ Q = Ev d 48 12 (.ref r :: L) (.ref r :: st) μ Q := e_aload_n (by decide +kernel : decode (bOf 48) 11 = .ok (.aload_n 0, 1)) rfl
theorem x_48_12 : Ev d 48 12 L st μ Q = Ev d 48 14 L (.int (iI 31) :: st) μ Q := e_bipush (by decide +kernel : decode (bOf 48) 12 = .ok (.bipush 31, 2)) (by decide +kernel)
theorem x_48_14 : Ev d 48 14 (a0 :: .int x :: L) st μ Q = Ev d 48 15 (a0 :: .int x :: L) (.int x :: st) μ Q := e_iload_n (by decide +kernel : decode (bOf 48) 14 = .ok (.iload_n 1, 1)) rfl
theorem x_48_15 : Ev d 48 15 L (.int y :: .int x :: st) μ Q = Ev d 48 16 L (.int (x + y) :: st) μ Q := e_iadd (by decide +kernel : decode (bOf 48) 15 = .ok (.iadd, 1))
theorem x_48_16 (h : kd t r = 4) : Ev d 48 16 L [b0, .ref r] (t, V, A, P) Q = Call d 65 [.ref r, b0] (t, V, A, P) (fun v μ1 => Ev d 48 19 L (v.toList ++ []) μ1 Q) := e_callV (a := [b0]) (r := []) (by decide +kernel : decode (bOf 48) 16 = .ok (.invokevirtual 76, 3)) (by decide +kernel) (by decide +kernel) (by decide +kernel) (by omega) rfl (by simp) (by decide +kernel) h
theorem x_48_19 : Ev d 48 19 L [.int x] μ Q = Q (some (.int x)) μ := e_iret (by decide +kernel : decode (bOf 48) 19 = .ok (.ireturn, 1)) (by decide +kernel)
theorem c_49 : Call (d + 1) 49 [.ref r0, .int i1] μ Q = Ev d 49 0 [.ref r0, .int i1] [] μ Q := call_ev rfl rfl
theorem x_49_0 : Ev d 49 0 (.ref r :: L) st μ Q = Ev d 49 1 (.ref r :: L) (.ref r :: st) μ Q := e_aload_n (by decide +kernel : decode (bOf 49) 0 = .ok (.aload_n 0, 1)) rfl
theorem x_49_1 (h : kd t r = 4) : Ev d 49 1 L (.ref r :: st) (t, V, A, P) Q = Ev d 49 4 L (V r 0 :: st) (t, V, A, P) Q := e_getf (by decide +kernel : decode (bOf 49) 1 = .ok (.getfield 12, 3)) (by decide +kernel) (by decide +kernel) h
theorem x_49_4 : Ev d 49 4 (a0 :: .int x :: L) st μ Q = Ev d 49 5 (a0 :: .int x :: L) (.int x :: st) μ Q := e_iload_n (by decide +kernel : decode (bOf 49) 4 = .ok (.iload_n 1, 1)) rfl
theorem x_49_5 (h : kd t r = 3) : Ev d 49 5 L [b0, .ref r] (t, V, A, P) Q = Call d 36 [.ref r, b0] (t, V, A, P) (fun v μ1 => Ev d 49 8 L (v.toList ++ []) μ1 Q) := e_callV (a := [b0]) (r := []) (by decide +kernel : decode (bOf 49) 5 = .ok (.invokevirtual 79, 3)) (by decide +kernel) (by decide +kernel) (by decide +kernel) (by omega) rfl (by simp) (by decide +kernel) h
theorem x_49_8 : Ev d 49 8 L (.int x :: st) μ Q = if x = iI 0 then Ev d 49 11 L st μ Q else Ev d 49 13 L st μ Q := e_if_ne (by decide +kernel : decode (bOf 49) 8 = .ok (.ifCond .ne 5, 3)) (by omega)
theorem x_49_11 : Ev d 49 11 L st μ Q = Ev d 49 12 L (.int (iI (-1)) :: st) μ Q := e_iconst (by decide +kernel : decode (bOf 49) 11 = .ok (.iconst (-1), 1))
theorem x_49_12 : Ev d 49 12 L [.int x] μ Q = Q (some (.int x)) μ := e_iret (by decide +kernel : decode (bOf 49) 12 = .ok (.ireturn, 1)) (by decide +kernel)
theorem x_49_13 : Ev d 49 13 (.ref r :: L) st μ Q = Ev d 49 14 (.ref r :: L) (.ref r :: st) μ Q := e_aload_n (by decide +kernel : decode (bOf 49) 13 = .ok (.aload_n 0, 1)) rfl
theorem x_49_14 (h : kd t r = 4) : Ev d 49 14 L [.ref r] (t, V, A, P) Q = Call d 66 [.ref r] (t, V, A, P) (fun v μ1 => Ev d 49 17 L (v.toList ++ []) μ1 Q) := e_callV (a := []) (r := []) (by decide +kernel : decode (bOf 49) 14 = .ok (.invokevirtual 69, 3)) (by decide +kernel) (by decide +kernel) (by decide +kernel) (by omega) rfl (by simp) (by decide +kernel) h
theorem x_49_17 : Ev d 49 17 (.ref r :: L) st μ Q = Ev d 49 18 (.ref r :: L) (.ref r :: st) μ Q := e_aload_n (by decide +kernel : decode (bOf 49) 17 = .ok (.aload_n 0, 1)) rfl
theorem x_49_18 (h : kd t r = 4) : Ev d 49 18 L (.ref r :: st) (t, V, A, P) Q = Ev d 49 21 L (V r 0 :: st) (t, V, A, P) Q := e_getf (by decide +kernel : decode (bOf 49) 18 = .ok (.getfield 12, 3)) (by decide +kernel) (by decide +kernel) h
theorem x_49_21 : Ev d 49 21 (a0 :: .int x :: L) st μ Q = Ev d 49 22 (a0 :: .int x :: L) (.int x :: st) μ Q := e_iload_n (by decide +kernel : decode (bOf 49) 21 = .ok (.iload_n 1, 1)) rfl
theorem x_49_22 (h : kd t r = 3) : Ev d 49 22 L [b0, .ref r] (t, V, A, P) Q = Call d 38 [.ref r, b0] (t, V, A, P) (fun v μ1 => Ev d 49 25 L (v.toList ++ []) μ1 Q) := e_callV (a := [b0]) (r := []) (by decide +kernel : decode (bOf 49) 22 = .ok (.invokevirtual 83, 3)) (by decide +kernel) (by decide +kernel) (by decide +kernel) (by omega) rfl (by simp) (by decide +kernel) h
theorem x_49_25 : Ev d 49 25 (.ref r :: L) st μ Q = Ev d 49 26 (.ref r :: L) (.ref r :: st) μ Q := e_aload_n (by decide +kernel : decode (bOf 49) 25 = .ok (.aload_n 0, 1)) rfl
theorem x_49_26 (h : kd t r = 4) : Ev d 49 26 L (.ref r :: st) (t, V, A, P) Q = Ev d 49 29 L (V r 0 :: st) (t, V, A, P) Q := e_getf (by decide +kernel : decode (bOf 49) 26 = .ok (.getfield 12, 3)) (by decide +kernel) (by decide +kernel) h
theorem x_49_29 : Ev d 49 29 (a0 :: .int x :: L) st μ Q = Ev d 49 30 (a0 :: .int x :: L) (.int x :: st) μ Q := e_iload_n (by decide +kernel : decode (bOf 49) 29 = .ok (.iload_n 1, 1)) rfl
theorem x_49_30 (h : kd t r = 3) : Ev d 49 30 L [b0, .ref r] (t, V, A, P) Q = Call d 37 [.ref r, b0] (t, V, A, P) (fun v μ1 => Ev d 49 33 L (v.toList ++ []) μ1 Q) := e_callV (a := [b0]) (r := []) (by decide +kernel : decode (bOf 49) 30 = .ok (.invokevirtual 87, 3)) (by decide +kernel) (by decide +kernel) (by decide +kernel) (by omega) rfl (by simp) (by decide +kernel) h
theorem x_49_33 : Ev d 49 33 L [.int x] μ Q = Q (some (.int x)) μ := e_iret (by decide +kernel : decode (bOf 49) 33 = .ok (.ireturn, 1)) (by decide +kernel)
theorem c_50 : Call (d + 1) 50 [.ref r0] μ Q = Ev d 50 0 [.ref r0, .null] [] μ Q := call_ev rfl rfl
theorem x_50_0 : Ev d 50 0 (.ref r :: L) st μ Q = Ev d 50 1 (.ref r :: L) (.ref r :: st) μ Q := e_aload_n (by decide +kernel : decode (bOf 50) 0 = .ok (.aload_n 0, 1)) rfl
theorem x_50_1 (h : kd t r = 4) : Ev d 50 1 L (.ref r :: st) (t, V, A, P) Q = Ev d 50 4 L (V r 0 :: st) (t, V, A, P) Q := e_getf (by decide +kernel : decode (bOf 50) 1 = .ok (.getfield 12, 3)) (by decide +kernel) (by decide +kernel) h
theorem x_50_4 (h : kd t r = 3) : Ev d 50 4 L (.ref r :: st) (t, V, A, P) Q = Ev d 50 7 L (V r 3 :: st) (t, V, A, P) Q := e_getf (by decide +kernel : decode (bOf 50) 4 = .ok (.getfield 63, 3)) (by decide +kernel) (by decide +kernel) h
theorem x_50_7 : Ev d 50 7 L (.int x :: st) μ Q = if x = iI 0 then Ev d 50 10 L st μ Q else Ev d 50 13 L st μ Q := e_if_ne (by decide +kernel : decode (bOf 50) 7 = .ok (.ifCond .ne 6, 3)) (by omega)
theorem x_50_10 : Ev d 50 10 L st μ Q = Ev d 50 12 L (.int (iI (-2)) :: st) μ Q := e_bipush (by decide +kernel : decode (bOf 50) 10 = .ok (.bipush (-2), 2)) (by decide +kernel)
theorem x_50_12 : Ev d 50 12 L [.int x] μ Q = Q (some (.int x)) μ := e_iret (by decide +kernel : decode (bOf 50) 12 = .ok (.ireturn, 1)) (by decide +kernel)
theorem x_50_13 : Ev d 50 13 (.ref r :: L) st μ Q = Ev d 50 14 (.ref r :: L) (.ref r :: st) μ Q := e_aload_n (by decide +kernel : decode (bOf 50) 13 = .ok (.aload_n 0, 1)) rfl
theorem x_50_14 (h : kd t r = 4) : Ev d 50 14 L (.ref r :: st) (t, V, A, P) Q = Ev d 50 17 L (V r 0 :: st) (t, V, A, P) Q := e_getf (by decide +kernel : decode (bOf 50) 14 = .ok (.getfield 12, 3)) (by decide +kernel) (by decide +kernel) h
theorem x_50_17 (h : kd t r = 3) : Ev d 50 17 L (.ref r :: st) (t, V, A, P) Q = Ev d 50 20 L (V r 3 :: st) (t, V, A, P) Q := e_getf (by decide +kernel : decode (bOf 50) 17 = .ok (.getfield 63, 3)) (by decide +kernel) (by decide +kernel) h
theorem x_50_20 (h : a0.category = 1) : Ev d 50 20 (a0 :: a1 :: L) (.int x :: st) μ Q = Ev d 50 21 (a0 :: .int x :: L) st μ Q := e_istore_n (by decide +kernel : decode (bOf 50) 20 = .ok (.istore_n 1, 1)) (by show stOK _ 1 = true; simp [stOK, h])
theorem x_50_21 : Ev d 50 21 (.ref r :: L) st μ Q = Ev d 50 22 (.ref r :: L) (.ref r :: st) μ Q := e_aload_n (by decide +kernel : decode (bOf 50) 21 = .ok (.aload_n 0, 1)) rfl
theorem x_50_22 (h : kd t r = 4) : Ev d 50 22 L [.ref r] (t, V, A, P) Q = Call d 66 [.ref r] (t, V, A, P) (fun v μ1 => Ev d 50 25 L (v.toList ++ []) μ1 Q) := e_callV (a := []) (r := []) (by decide +kernel : decode (bOf 50) 22 = .ok (.invokevirtual 69, 3)) (by decide +kernel) (by decide +kernel) (by decide +kernel) (by omega) rfl (by simp) (by decide +kernel) h
theorem x_50_25 : Ev d 50 25 (.ref r :: L) st μ Q = Ev d 50 26 (.ref r :: L) (.ref r :: st) μ Q := e_aload_n (by decide +kernel : decode (bOf 50) 25 = .ok (.aload_n 0, 1)) rfl
theorem x_50_26 (h : kd t r = 4) : Ev d 50 26 L (.ref r :: st) (t, V, A, P) Q = Ev d 50 29 L (V r 0 :: st) (t, V, A, P) Q := e_getf (by decide +kernel : decode (bOf 50) 26 = .ok (.getfield 12, 3)) (by decide +kernel) (by decide +kernel) h
theorem x_50_29 (h : kd t r = 3) : Ev d 50 29 L [.ref r] (t, V, A, P) Q = Call d 30 [.ref r] (t, V, A, P) (fun v μ1 => Ev d 50 32 L (v.toList ++ []) μ1 Q) := e_callV (a := []) (r := []) (by decide +kernel : decode (bOf 50) 29 = .ok (.invokevirtual 90, 3)) (by decide +kernel) (by decide +kernel) (by decide +kernel) (by omega) rfl (by simp) (by decide +kernel) h
theorem x_50_32 : Ev d 50 32 (a0 :: .int x :: L) st μ Q = Ev d 50 33 (a0 :: .int x :: L) (.int x :: st) μ Q := e_iload_n (by decide +kernel : decode (bOf 50) 32 = .ok (.iload_n 1, 1)) rfl
theorem x_50_33 : Ev d 50 33 L [.int x] μ Q = Q (some (.int x)) μ := e_iret (by decide +kernel : decode (bOf 50) 33 = .ok (.ireturn, 1)) (by decide +kernel)
theorem c_51 : Call (d + 1) 51 [.ref r0] μ Q = Ev d 51 0 [.ref r0] [] μ Q := call_ev rfl rfl
theorem x_51_0 : Ev d 51 0 (.ref r :: L) st μ Q = Ev d 51 1 (.ref r :: L) (.ref r :: st) μ Q := e_aload_n (by decide +kernel : decode (bOf 51) 0 = .ok (.aload_n 0, 1)) rfl
theorem x_51_1 (h : kd t r = 4) : Ev d 51 1 L (.ref r :: st) (t, V, A, P) Q = Ev d 51 4 L (V r 11 :: st) (t, V, A, P) Q := e_getf (by decide +kernel : decode (bOf 51) 1 = .ok (.getfield 93, 3)) (by decide +kernel) (by decide +kernel) h
theorem x_51_4 : Ev d 51 4 L (.int x :: st) μ Q = if iI 0 < x then Ev d 51 7 L st μ Q else Ev d 51 16 L st μ Q := e_if_le (by decide +kernel : decode (bOf 51) 4 = .ok (.ifCond .le 12, 3)) (by omega)
theorem x_51_7 : Ev d 51 7 (.ref r :: L) st μ Q = Ev d 51 8 (.ref r :: L) (.ref r :: st) μ Q := e_aload_n (by decide +kernel : decode (bOf 51) 7 = .ok (.aload_n 0, 1)) rfl
theorem x_51_8 (h : kd t r = 4) : Ev d 51 8 L (.ref r :: st) (t, V, A, P) Q = Ev d 51 11 L (V r 11 :: st) (t, V, A, P) Q := e_getf (by decide +kernel : decode (bOf 51) 8 = .ok (.getfield 93, 3)) (by decide +kernel) (by decide +kernel) h
theorem x_51_11 : Ev d 51 11 L st μ Q = Ev d 51 13 L (.int (iI 6) :: st) μ Q := e_bipush (by decide +kernel : decode (bOf 51) 11 = .ok (.bipush 6, 2)) (by decide +kernel)
theorem x_51_13 : Ev d 51 13 L (.int y :: .int x :: st) μ Q = if y < x then Ev d 51 16 L st μ Q else Ev d 51 19 L st μ Q := e_icmp_le (by decide +kernel : decode (bOf 51) 13 = .ok (.if_icmp .le 6, 3)) (by omega)
theorem x_51_16 : Ev d 51 16 L st μ Q = Ev d 51 18 L (.int (iI (-2)) :: st) μ Q := e_bipush (by decide +kernel : decode (bOf 51) 16 = .ok (.bipush (-2), 2)) (by decide +kernel)
theorem x_51_18 : Ev d 51 18 L [.int x] μ Q = Q (some (.int x)) μ := e_iret (by decide +kernel : decode (bOf 51) 18 = .ok (.ireturn, 1)) (by decide +kernel)
theorem x_51_19 : Ev d 51 19 (.ref r :: L) st μ Q = Ev d 51 20 (.ref r :: L) (.ref r :: st) μ Q := e_aload_n (by decide +kernel : decode (bOf 51) 19 = .ok (.aload_n 0, 1)) rfl
theorem x_51_20 : Ev d 51 20 L (.ref r :: st) μ Q = Ev d 51 21 L (.ref r :: .ref r :: st) μ Q := e_dup_a (by decide +kernel : decode (bOf 51) 20 = .ok (.dup, 1))
theorem x_51_21 (h : kd t r = 4) : Ev d 51 21 L (.ref r :: st) (t, V, A, P) Q = Ev d 51 24 L (V r 11 :: st) (t, V, A, P) Q := e_getf (by decide +kernel : decode (bOf 51) 21 = .ok (.getfield 93, 3)) (by decide +kernel) (by decide +kernel) h
theorem x_51_24 : Ev d 51 24 L st μ Q = Ev d 51 25 L (.int (iI 1) :: st) μ Q := e_iconst (by decide +kernel : decode (bOf 51) 24 = .ok (.iconst 1, 1))
theorem x_51_25 : Ev d 51 25 L (.int y :: .int x :: st) μ Q = Ev d 51 26 L (.int (x - y) :: st) μ Q := e_isub (by decide +kernel : decode (bOf 51) 25 = .ok (.isub, 1))
theorem x_51_26 (h : kd t r = 4) : Ev d 51 26 L (.int x :: .ref r :: st) (t, V, A, P) Q = Ev d 51 29 L st (t, up1 V r (up1 (V r) 11 (.int x)), A, P) Q := e_putf (by decide +kernel : decode (bOf 51) 26 = .ok (.putfield 93, 3)) (by decide +kernel) (by decide +kernel) rfl h
theorem x_51_29 : Ev d 51 29 (.ref r :: L) st μ Q = Ev d 51 30 (.ref r :: L) (.ref r :: st) μ Q := e_aload_n (by decide +kernel : decode (bOf 51) 29 = .ok (.aload_n 0, 1)) rfl
theorem x_51_30 (h : kd t r = 4) : Ev d 51 30 L (.ref r :: st) (t, V, A, P) Q = Ev d 51 33 L (V r 1 :: st) (t, V, A, P) Q := e_getf (by decide +kernel : decode (bOf 51) 30 = .ok (.getfield 16, 3)) (by decide +kernel) (by decide +kernel) h
theorem x_51_33 : Ev d 51 33 (.ref r :: L) st μ Q = Ev d 51 34 (.ref r :: L) (.ref r :: st) μ Q := e_aload_n (by decide +kernel : decode (bOf 51) 33 = .ok (.aload_n 0, 1)) rfl
theorem x_51_34 (h : kd t r = 4) : Ev d 51 34 L (.ref r :: st) (t, V, A, P) Q = Ev d 51 37 L (V r 11 :: st) (t, V, A, P) Q := e_getf (by decide +kernel : decode (bOf 51) 34 = .ok (.getfield 93, 3)) (by decide +kernel) (by decide +kernel) h
theorem x_51_37 (h : kd t r = 9) (hi : inB x (ln t r) = true) : Ev d 51 37 L (.int x :: .ref r :: st) (t, V, A, P) Q = Ev d 51 38 L (va_rf (P r x.toNatClampNeg) :: st) (t, V, A, P) Q := e_aald 9 (by omega) (by decide +kernel : decode (bOf 51) 37 = .ok (.aaload, 1)) h hi
theorem x_51_38 : Ev d 51 38 (.ref r :: L) st μ Q = Ev d 51 39 (.ref r :: L) (.ref r :: st) μ Q := e_aload_n (by decide +kernel : decode (bOf 51) 38 = .ok (.aload_n 0, 1)) rfl
theorem x_51_39 (h : kd t r = 4) : Ev d 51 39 L (.ref r :: st) (t, V, A, P) Q = Ev d 51 42 L (V r 0 :: st) (t, V, A, P) Q := e_getf (by decide +kernel : decode (bOf 51) 39 = .ok (.getfield 12, 3)) (by decide +kernel) (by decide +kernel) h
theorem x_51_42 : Ev d 51 42 L [b1, b0] μ Q = Call d 31 [b0, b1] μ (fun v μ1 => Ev d 51 45 L (v.toList ++ []) μ1 Q) := e_callS (a := [b0, b1]) (r := []) (by decide +kernel : decode (bOf 51) 42 = .ok (.invokestatic 96, 3)) (by decide +kernel) (by decide +kernel) (by omega) rfl (by simp)
theorem x_51_45 : Ev d 51 45 (.ref r :: L) st μ Q = Ev d 51 46 (.ref r :: L) (.ref r :: st) μ Q := e_aload_n (by decide +kernel : decode (bOf 51) 45 = .ok (.aload_n 0, 1)) rfl
theorem x_51_46 (h : kd t r = 4) : Ev d 51 46 L (.ref r :: st) (t, V, A, P) Q = Ev d 51 49 L (V r 11 :: st) (t, V, A, P) Q := e_getf (by decide +kernel : decode (bOf 51) 46 = .ok (.getfield 93, 3)) (by decide +kernel) (by decide +kernel) h
theorem x_51_49 : Ev d 51 49 L [.int x] μ Q = Q (some (.int x)) μ := e_iret (by decide +kernel : decode (bOf 51) 49 = .ok (.ireturn, 1)) (by decide +kernel)
theorem c_52 : Call (d + 1) 52 [.ref r0, .int i1, .int i2] μ Q = Ev d 52 0 [.ref r0, .int i1, .int i2] [] μ Q := call_ev rfl rfl
theorem x_52_0 : Ev d 52 0 (a0 :: .int x :: L) st μ Q = Ev d 52 1 (a0 :: .int x :: L) (.int x :: st) μ Q := e_iload_n (by decide +kernel : decode (bOf 52) 0 = .ok (.iload_n 1, 1)) rfl
theorem x_52_1 : Ev d 52 1 L [b0] μ Q = Call d 0 [b0] μ (fun v μ1 => Ev d 52 4 L (v.toList ++ []) μ1 Q) := e_callS (a := [b0]) (r := []) (by decide +kernel : decode (bOf 52) 1 = .ok (.invokestatic 100, 3)) (by decide +kernel) (by decide +kernel) (by omega) rfl (by simp)
theorem x_52_4 : Ev d 52 4 L (.int x :: st) μ Q = if x = iI 0 then Ev d 52 16 L st μ Q else Ev d 52 7 L st μ Q := e_if_eq (by decide +kernel : decode (bOf 52) 4 = .ok (.ifCond .eq 12, 3)) (by omega)
theorem x_52_7 : Ev d 52 7 (a0 :: a1 :: .int x :: L) st μ Q = Ev d 52 8 (a0 :: a1 :: .int x :: L) (.int x :: st) μ Q := e_iload_n (by decide +kernel : decode (bOf 52) 7 = .ok (.iload_n 2, 1)) rfl
theorem x_52_8 : Ev d 52 8 L (.int x :: st) μ Q = if x < iI 0 then Ev d 52 16 L st μ Q else Ev d 52 11 L st μ Q := e_if_lt (by decide +kernel : decode (bOf 52) 8 = .ok (.ifCond .lt 8, 3)) (by omega)
theorem x_52_11 : Ev d 52 11 (a0 :: a1 :: .int x :: L) st μ Q = Ev d 52 12 (a0 :: a1 :: .int x :: L) (.int x :: st) μ Q := e_iload_n (by decide +kernel : decode (bOf 52) 11 = .ok (.iload_n 2, 1)) rfl
theorem x_52_12 : Ev d 52 12 L st μ Q = Ev d 52 13 L (.int (iI 1) :: st) μ Q := e_iconst (by decide +kernel : decode (bOf 52) 12 = .ok (.iconst 1, 1))
theorem x_52_13 : Ev d 52 13 L (.int y :: .int x :: st) μ Q = if y < x then Ev d 52 16 L st μ Q else Ev d 52 18 L st μ Q := e_icmp_le (by decide +kernel : decode (bOf 52) 13 = .ok (.if_icmp .le 5, 3)) (by omega)
theorem x_52_16 : Ev d 52 16 L st μ Q = Ev d 52 17 L (.int (iI (-1)) :: st) μ Q := e_iconst (by decide +kernel : decode (bOf 52) 16 = .ok (.iconst (-1), 1))
theorem x_52_17 : Ev d 52 17 L [.int x] μ Q = Q (some (.int x)) μ := e_iret (by decide +kernel : decode (bOf 52) 17 = .ok (.ireturn, 1)) (by decide +kernel)
theorem x_52_18 : Ev d 52 18 (a0 :: a1 :: .int x :: L) st μ Q = Ev d 52 19 (a0 :: a1 :: .int x :: L) (.int x :: st) μ Q := e_iload_n (by decide +kernel : decode (bOf 52) 18 = .ok (.iload_n 2, 1)) rfl
theorem x_52_19 : Ev d 52 19 L (.int x :: st) μ Q = if x = iI 0 then Ev d 52 22 L st μ Q else Ev d 52 29 L st μ Q := e_if_ne (by decide +kernel : decode (bOf 52) 19 = .ok (.ifCond .ne 10, 3)) (by omega)
theorem x_52_22 : Ev d 52 22 (a0 :: .int x :: L) st μ Q = Ev d 52 23 (a0 :: .int x :: L) (.int x :: st) μ Q := e_iload_n (by decide +kernel : decode (bOf 52) 22 = .ok (.iload_n 1, 1)) rfl
theorem x_52_23 : Ev d 52 23 L [b0] μ Q = Call d 1 [b0] μ (fun v μ1 => Ev d 52 26 L (v.toList ++ []) μ1 Q) := e_callS (a := [b0]) (r := []) (by decide +kernel : decode (bOf 52) 23 = .ok (.invokestatic 105, 3)) (by decide +kernel) (by decide +kernel) (by omega) rfl (by simp)
theorem x_52_26 : Ev d 52 26 L st μ Q = Ev d 52 33 L st μ Q := e_goto (by decide +kernel : decode (bOf 52) 26 = .ok (.goto 7, 3)) (by omega)
theorem x_52_29 : Ev d 52 29 (a0 :: .int x :: L) st μ Q = Ev d 52 30 (a0 :: .int x :: L) (.int x :: st) μ Q := e_iload_n (by decide +kernel : decode (bOf 52) 29 = .ok (.iload_n 1, 1)) rfl
theorem x_52_30 : Ev d 52 30 L [b0] μ Q = Call d 2 [b0] μ (fun v μ1 => Ev d 52 33 L (v.toList ++ []) μ1 Q) := e_callS (a := [b0]) (r := []) (by decide +kernel : decode (bOf 52) 30 = .ok (.invokestatic 108, 3)) (by decide +kernel) (by decide +kernel) (by omega) rfl (by simp)
theorem x_52_33 : Ev d 52 33 L [.int x] μ Q = Q (some (.int x)) μ := e_iret (by decide +kernel : decode (bOf 52) 33 = .ok (.ireturn, 1)) (by decide +kernel)
theorem c_53 : Call (d + 1) 53 [.ref r0, .int i1] μ Q = Ev d 53 0 [.ref r0, .int i1] [] μ Q := call_ev rfl rfl
theorem x_53_0 : Ev d 53 0 (.ref r :: L) st μ Q = Ev d 53 1 (.ref r :: L) (.ref r :: st) μ Q := e_aload_n (by decide +kernel : decode (bOf 53) 0 = .ok (.aload_n 0, 1)) rfl
theorem x_53_1 (h : kd t r = 4) : Ev d 53 1 L (.ref r :: st) (t, V, A, P) Q = Ev d 53 4 L (V r 0 :: st) (t, V, A, P) Q := e_getf (by decide +kernel : decode (bOf 53) 1 = .ok (.getfield 12, 3)) (by decide +kernel) (by decide +kernel) h
theorem x_53_4 : Ev d 53 4 (a0 :: .int x :: L) st μ Q = Ev d 53 5 (a0 :: .int x :: L) (.int x :: st) μ Q := e_iload_n (by decide +kernel : decode (bOf 53) 4 = .ok (.iload_n 1, 1)) rfl
theorem x_53_5 (h : kd t r = 3) : Ev d 53 5 L [b0, .ref r] (t, V, A, P) Q = Call d 36 [.ref r, b0] (t, V, A, P) (fun v μ1 => Ev d 53 8 L (v.toList ++ []) μ1 Q) := e_callV (a := [b0]) (r := []) (by decide +kernel : decode (bOf 53) 5 = .ok (.invokevirtual 79, 3)) (by decide +kernel) (by decide +kernel) (by decide +kernel) (by omega) rfl (by simp) (by decide +kernel) h
theorem x_53_8 : Ev d 53 8 L (.int x :: st) μ Q = if x = iI 0 then Ev d 53 22 L st μ Q else Ev d 53 11 L st μ Q := e_if_eq (by decide +kernel : decode (bOf 53) 8 = .ok (.ifCond .eq 14, 3)) (by omega)
theorem x_53_11 : Ev d 53 11 (.ref r :: L) st μ Q = Ev d 53 12 (.ref r :: L) (.ref r :: st) μ Q := e_aload_n (by decide +kernel : decode (bOf 53) 11 = .ok (.aload_n 0, 1)) rfl
theorem x_53_12 (h : kd t r = 4) : Ev d 53 12 L (.ref r :: st) (t, V, A, P) Q = Ev d 53 15 L (V r 0 :: st) (t, V, A, P) Q := e_getf (by decide +kernel : decode (bOf 53) 12 = .ok (.getfield 12, 3)) (by decide +kernel) (by decide +kernel) h
theorem x_53_15 : Ev d 53 15 (a0 :: .int x :: L) st μ Q = Ev d 53 16 (a0 :: .int x :: L) (.int x :: st) μ Q := e_iload_n (by decide +kernel : decode (bOf 53) 15 = .ok (.iload_n 1, 1)) rfl
theorem x_53_16 (h : kd t r = 3) : Ev d 53 16 L [b0, .ref r] (t, V, A, P) Q = Call d 37 [.ref r, b0] (t, V, A, P) (fun v μ1 => Ev d 53 19 L (v.toList ++ []) μ1 Q) := e_callV (a := [b0]) (r := []) (by decide +kernel : decode (bOf 53) 16 = .ok (.invokevirtual 87, 3)) (by decide +kernel) (by decide +kernel) (by decide +kernel) (by omega) rfl (by simp) (by decide +kernel) h
theorem x_53_19 : Ev d 53 19 L st μ Q = Ev d 53 23 L st μ Q := e_goto (by decide +kernel : decode (bOf 53) 19 = .ok (.goto 4, 3)) (by omega)
theorem x_53_22 : Ev d 53 22 L st μ Q = Ev d 53 23 L (.int (iI (-1)) :: st) μ Q := e_iconst (by decide +kernel : decode (bOf 53) 22 = .ok (.iconst (-1), 1))
theorem x_53_23 : Ev d 53 23 L [.int x] μ Q = Q (some (.int x)) μ := e_iret (by decide +kernel : decode (bOf 53) 23 = .ok (.ireturn, 1)) (by decide +kernel)
theorem c_54 : Call (d + 1) 54 [.ref r0, .int i1] μ Q = Ev d 54 0 [.ref r0, .int i1] [] μ Q := call_ev rfl rfl
theorem x_54_0 : Ev d 54 0 (a0 :: .int x :: L) st μ Q = Ev d 54 1 (a0 :: .int x :: L) (.int x :: st) μ Q := e_iload_n (by decide +kernel : decode (bOf 54) 0 = .ok (.iload_n 1, 1)) rfl
theorem x_54_1 : Ev d 54 1 L (.int x :: st) μ Q = if x < iI 0 then Ev d 54 21 L st μ Q else Ev d 54 4 L st μ Q := e_if_lt (by decide +kernel : decode (bOf 54) 1 = .ok (.ifCond .lt 20, 3)) (by omega)
theorem x_54_4 : Ev d 54 4 (a0 :: .int x :: L) st μ Q = Ev d 54 5 (a0 :: .int x :: L) (.int x :: st) μ Q := e_iload_n (by decide +kernel : decode (bOf 54) 4 = .ok (.iload_n 1, 1)) rfl
theorem x_54_5 : Ev d 54 5 (.ref r :: L) st μ Q = Ev d 54 6 (.ref r :: L) (.ref r :: st) μ Q := e_aload_n (by decide +kernel : decode (bOf 54) 5 = .ok (.aload_n 0, 1)) rfl
theorem x_54_6 (h : kd t r = 4) : Ev d 54 6 L (.ref r :: st) (t, V, A, P) Q = Ev d 54 9 L (V r 0 :: st) (t, V, A, P) Q := e_getf (by decide +kernel : decode (bOf 54) 6 = .ok (.getfield 12, 3)) (by decide +kernel) (by decide +kernel) h
theorem x_54_9 (h : kd t r = 3) : Ev d 54 9 L (.ref r :: st) (t, V, A, P) Q = Ev d 54 12 L (V r 3 :: st) (t, V, A, P) Q := e_getf (by decide +kernel : decode (bOf 54) 9 = .ok (.getfield 63, 3)) (by decide +kernel) (by decide +kernel) h
theorem x_54_12 : Ev d 54 12 L (.int y :: .int x :: st) μ Q = if x < y then Ev d 54 15 L st μ Q else Ev d 54 21 L st μ Q := e_icmp_ge (by decide +kernel : decode (bOf 54) 12 = .ok (.if_icmp .ge 9, 3)) (by omega)
theorem x_54_15 : Ev d 54 15 (a0 :: .int x :: L) st μ Q = Ev d 54 16 (a0 :: .int x :: L) (.int x :: st) μ Q := e_iload_n (by decide +kernel : decode (bOf 54) 15 = .ok (.iload_n 1, 1)) rfl
theorem x_54_16 : Ev d 54 16 L st μ Q = Ev d 54 18 L (.int (iI 32) :: st) μ Q := e_bipush (by decide +kernel : decode (bOf 54) 16 = .ok (.bipush 32, 2)) (by decide +kernel)
theorem x_54_18 : Ev d 54 18 L (.int y :: .int x :: st) μ Q = if x < y then Ev d 54 23 L st μ Q else Ev d 54 21 L st μ Q := e_icmp_lt (by decide +kernel : decode (bOf 54) 18 = .ok (.if_icmp .lt 5, 3)) (by omega)
theorem x_54_21 : Ev d 54 21 L st μ Q = Ev d 54 22 L (.int (iI (-1)) :: st) μ Q := e_iconst (by decide +kernel : decode (bOf 54) 21 = .ok (.iconst (-1), 1))
theorem x_54_22 : Ev d 54 22 L [.int x] μ Q = Q (some (.int x)) μ := e_iret (by decide +kernel : decode (bOf 54) 22 = .ok (.ireturn, 1)) (by decide +kernel)
theorem x_54_23 : Ev d 54 23 (.ref r :: L) st μ Q = Ev d 54 24 (.ref r :: L) (.ref r :: st) μ Q := e_aload_n (by decide +kernel : decode (bOf 54) 23 = .ok (.aload_n 0, 1)) rfl
theorem x_54_24 (h : kd t r = 4) : Ev d 54 24 L (.ref r :: st) (t, V, A, P) Q = Ev d 54 27 L (V r 0 :: st) (t, V, A, P) Q := e_getf (by decide +kernel : decode (bOf 54) 24 = .ok (.getfield 12, 3)) (by decide +kernel) (by decide +kernel) h
theorem x_54_27 (h : kd t r = 3) : Ev d 54 27 L (.ref r :: st) (t, V, A, P) Q = Ev d 54 30 L (V r 0 :: st) (t, V, A, P) Q := e_getf (by decide +kernel : decode (bOf 54) 27 = .ok (.getfield 111, 3)) (by decide +kernel) (by decide +kernel) h
theorem x_54_30 : Ev d 54 30 (a0 :: .int x :: L) st μ Q = Ev d 54 31 (a0 :: .int x :: L) (.int x :: st) μ Q := e_iload_n (by decide +kernel : decode (bOf 54) 30 = .ok (.iload_n 1, 1)) rfl
theorem x_54_31 (h : kd t r = 6) (hi : inB x (ln t r) = true) : Ev d 54 31 L (.int x :: .ref r :: st) (t, V, A, P) Q = Ev d 54 32 L (.int (A r x.toNatClampNeg) :: st) (t, V, A, P) Q := e_iald (by decide +kernel : decode (bOf 54) 31 = .ok (.iaload, 1)) h hi
theorem x_54_32 : Ev d 54 32 L [.int x] μ Q = Q (some (.int x)) μ := e_iret (by decide +kernel : decode (bOf 54) 32 = .ok (.ireturn, 1)) (by decide +kernel)
theorem c_55 : Call (d + 1) 55 [.ref r0, .int i1] μ Q = Ev d 55 0 [.ref r0, .int i1] [] μ Q := call_ev rfl rfl
theorem x_55_0 : Ev d 55 0 (a0 :: .int x :: L) st μ Q = Ev d 55 1 (a0 :: .int x :: L) (.int x :: st) μ Q := e_iload_n (by decide +kernel : decode (bOf 55) 0 = .ok (.iload_n 1, 1)) rfl
theorem x_55_1 : Ev d 55 1 L (.int x :: st) μ Q = if x < iI 0 then Ev d 55 4 L st μ Q else Ev d 55 6 L st μ Q := e_if_ge (by decide +kernel : decode (bOf 55) 1 = .ok (.ifCond .ge 5, 3)) (by omega)
theorem x_55_4 : Ev d 55 4 L st μ Q = Ev d 55 5 L (.int (iI (-1)) :: st) μ Q := e_iconst (by decide +kernel : decode (bOf 55) 4 = .ok (.iconst (-1), 1))
theorem x_55_5 : Ev d 55 5 L [.int x] μ Q = Q (some (.int x)) μ := e_iret (by decide +kernel : decode (bOf 55) 5 = .ok (.ireturn, 1)) (by decide +kernel)
theorem x_55_6 : Ev d 55 6 (.ref r :: L) st μ Q = Ev d 55 7 (.ref r :: L) (.ref r :: st) μ Q := e_aload_n (by decide +kernel : decode (bOf 55) 6 = .ok (.aload_n 0, 1)) rfl
theorem x_55_7 (h : kd t r = 4) : Ev d 55 7 L (.ref r :: st) (t, V, A, P) Q = Ev d 55 10 L (V r 0 :: st) (t, V, A, P) Q := e_getf (by decide +kernel : decode (bOf 55) 7 = .ok (.getfield 12, 3)) (by decide +kernel) (by decide +kernel) h
theorem x_55_10 : Ev d 55 10 (a0 :: .int x :: L) st μ Q = Ev d 55 11 (a0 :: .int x :: L) (.int x :: st) μ Q := e_iload_n (by decide +kernel : decode (bOf 55) 10 = .ok (.iload_n 1, 1)) rfl
theorem x_55_11 (h : kd t r = 3) : Ev d 55 11 L [b0, .ref r] (t, V, A, P) Q = Call d 34 [.ref r, b0] (t, V, A, P) (fun v μ1 => Ev d 55 14 L (v.toList ++ []) μ1 Q) := e_callV (a := [b0]) (r := []) (by decide +kernel : decode (bOf 55) 11 = .ok (.invokevirtual 114, 3)) (by decide +kernel) (by decide +kernel) (by decide +kernel) (by omega) rfl (by simp) (by decide +kernel) h
theorem x_55_14 : Ev d 55 14 L [.int x] μ Q = Q (some (.int x)) μ := e_iret (by decide +kernel : decode (bOf 55) 14 = .ok (.ireturn, 1)) (by decide +kernel)
theorem c_56 : Call (d + 1) 56 [.ref r0, .int i1, .int i2, .int i3, .int i4] μ Q = Ev d 56 0 [.ref r0, .int i1, .int i2, .int i3, .int i4, .null] [] μ Q := call_ev rfl rfl
theorem x_56_0 : Ev d 56 0 (a0 :: .int x :: L) st μ Q = Ev d 56 1 (a0 :: .int x :: L) (.int x :: st) μ Q := e_iload_n (by decide +kernel : decode (bOf 56) 0 = .ok (.iload_n 1, 1)) rfl
theorem x_56_1 : Ev d 56 1 (a0 :: a1 :: .int x :: L) st μ Q = Ev d 56 2 (a0 :: a1 :: .int x :: L) (.int x :: st) μ Q := e_iload_n (by decide +kernel : decode (bOf 56) 1 = .ok (.iload_n 2, 1)) rfl
theorem x_56_2 : Ev d 56 2 L [b1, b0] μ Q = Call d 76 [b0, b1] μ (fun v μ1 => Ev d 56 5 L (v.toList ++ []) μ1 Q) := e_callS (a := [b0, b1]) (r := []) (by decide +kernel : decode (bOf 56) 2 = .ok (.invokestatic 117, 3)) (by decide +kernel) (by decide +kernel) (by omega) rfl (by simp)
theorem x_56_5 : Ev d 56 5 L (.int x :: st) μ Q = if x = iI 0 then Ev d 56 23 L st μ Q else Ev d 56 8 L st μ Q := e_if_eq (by decide +kernel : decode (bOf 56) 5 = .ok (.ifCond .eq 18, 3)) (by omega)
theorem x_56_8 : Ev d 56 8 (a0 :: a1 :: a2 :: .int x :: L) st μ Q = Ev d 56 9 (a0 :: a1 :: a2 :: .int x :: L) (.int x :: st) μ Q := e_iload_n (by decide +kernel : decode (bOf 56) 8 = .ok (.iload_n 3, 1)) rfl
theorem x_56_9 : Ev d 56 9 L (.int x :: st) μ Q = if x < iI 0 then Ev d 56 23 L st μ Q else Ev d 56 12 L st μ Q := e_if_lt (by decide +kernel : decode (bOf 56) 9 = .ok (.ifCond .lt 14, 3)) (by omega)
theorem x_56_12 : Ev d 56 12 (a0 :: a1 :: a2 :: a3 :: .int x :: L) st μ Q = Ev d 56 14 (a0 :: a1 :: a2 :: a3 :: .int x :: L) (.int x :: st) μ Q := e_iload (by decide +kernel : decode (bOf 56) 12 = .ok (.iload 4, 2)) rfl
theorem x_56_14 : Ev d 56 14 L (.int x :: st) μ Q = if x < iI 0 then Ev d 56 23 L st μ Q else Ev d 56 17 L st μ Q := e_if_lt (by decide +kernel : decode (bOf 56) 14 = .ok (.ifCond .lt 9, 3)) (by omega)
theorem x_56_17 : Ev d 56 17 (a0 :: a1 :: a2 :: a3 :: .int x :: L) st μ Q = Ev d 56 19 (a0 :: a1 :: a2 :: a3 :: .int x :: L) (.int x :: st) μ Q := e_iload (by decide +kernel : decode (bOf 56) 17 = .ok (.iload 4, 2)) rfl
theorem x_56_19 : Ev d 56 19 L st μ Q = Ev d 56 20 L (.int (iI 4) :: st) μ Q := e_iconst (by decide +kernel : decode (bOf 56) 19 = .ok (.iconst 4, 1))
theorem x_56_20 : Ev d 56 20 L (.int y :: .int x :: st) μ Q = if y < x then Ev d 56 23 L st μ Q else Ev d 56 25 L st μ Q := e_icmp_le (by decide +kernel : decode (bOf 56) 20 = .ok (.if_icmp .le 5, 3)) (by omega)
theorem x_56_23 : Ev d 56 23 L st μ Q = Ev d 56 24 L (.int (iI (-1)) :: st) μ Q := e_iconst (by decide +kernel : decode (bOf 56) 23 = .ok (.iconst (-1), 1))
theorem x_56_24 : Ev d 56 24 L [.int x] μ Q = Q (some (.int x)) μ := e_iret (by decide +kernel : decode (bOf 56) 24 = .ok (.ireturn, 1)) (by decide +kernel)
theorem x_56_25 : Ev d 56 25 (.ref r :: L) st μ Q = Ev d 56 26 (.ref r :: L) (.ref r :: st) μ Q := e_aload_n (by decide +kernel : decode (bOf 56) 25 = .ok (.aload_n 0, 1)) rfl
theorem x_56_26 (h : kd t r = 4) : Ev d 56 26 L (.ref r :: st) (t, V, A, P) Q = Ev d 56 29 L (V r 6 :: st) (t, V, A, P) Q := e_getf (by decide +kernel : decode (bOf 56) 26 = .ok (.getfield 37, 3)) (by decide +kernel) (by decide +kernel) h
theorem x_56_29 : Ev d 56 29 (.ref r :: L) st μ Q = Ev d 56 30 (.ref r :: L) (.ref r :: st) μ Q := e_aload_n (by decide +kernel : decode (bOf 56) 29 = .ok (.aload_n 0, 1)) rfl
theorem x_56_30 (h : kd t r = 4) : Ev d 56 30 L (.ref r :: st) (t, V, A, P) Q = Ev d 56 33 L (V r 0 :: st) (t, V, A, P) Q := e_getf (by decide +kernel : decode (bOf 56) 30 = .ok (.getfield 12, 3)) (by decide +kernel) (by decide +kernel) h
theorem x_56_33 : Ev d 56 33 (a0 :: .int x :: L) st μ Q = Ev d 56 34 (a0 :: .int x :: L) (.int x :: st) μ Q := e_iload_n (by decide +kernel : decode (bOf 56) 33 = .ok (.iload_n 1, 1)) rfl
theorem x_56_34 : Ev d 56 34 (a0 :: a1 :: .int x :: L) st μ Q = Ev d 56 35 (a0 :: a1 :: .int x :: L) (.int x :: st) μ Q := e_iload_n (by decide +kernel : decode (bOf 56) 34 = .ok (.iload_n 2, 1)) rfl
theorem x_56_35 : Ev d 56 35 L [b0, s0, s1, s2] μ Q = Call d 77 [b0] μ (fun v μ1 => Ev d 56 38 L (v.toList ++ [s0, s1, s2]) μ1 Q) := e_callS (a := [b0]) (r := [s0, s1, s2]) (by decide +kernel : decode (bOf 56) 35 = .ok (.invokestatic 121, 3)) (by decide +kernel) (by decide +kernel) (by omega) rfl (by simp)
theorem x_56_38 (h : kd t r = 1) : Ev d 56 38 L [b2, b1, b0, .ref r] (t, V, A, P) Q = Call d 14 [.ref r, b0, b1, b2] (t, V, A, P) (fun v μ1 => Ev d 56 41 L (v.toList ++ []) μ1 Q) := e_callV (a := [b0, b1, b2]) (r := []) (by decide +kernel : decode (bOf 56) 38 = .ok (.invokevirtual 124, 3)) (by decide +kernel) (by decide +kernel) (by decide +kernel) (by omega) rfl (by simp) (by decide +kernel) h
theorem x_56_41 : Ev d 56 41 (a0 :: a1 :: a2 :: .int x :: L) st μ Q = Ev d 56 42 (a0 :: a1 :: a2 :: .int x :: L) (.int x :: st) μ Q := e_iload_n (by decide +kernel : decode (bOf 56) 41 = .ok (.iload_n 3, 1)) rfl
theorem x_56_42 : Ev d 56 42 (.ref r :: L) st μ Q = Ev d 56 43 (.ref r :: L) (.ref r :: st) μ Q := e_aload_n (by decide +kernel : decode (bOf 56) 42 = .ok (.aload_n 0, 1)) rfl
theorem x_56_43 (h : kd t r = 4) : Ev d 56 43 L (.ref r :: st) (t, V, A, P) Q = Ev d 56 46 L (V r 6 :: st) (t, V, A, P) Q := e_getf (by decide +kernel : decode (bOf 56) 43 = .ok (.getfield 37, 3)) (by decide +kernel) (by decide +kernel) h
theorem x_56_46 (h : kd t r = 1) : Ev d 56 46 L (.ref r :: st) (t, V, A, P) Q = Ev d 56 49 L (V r 5 :: st) (t, V, A, P) Q := e_getf (by decide +kernel : decode (bOf 56) 46 = .ok (.getfield 128, 3)) (by decide +kernel) (by decide +kernel) h
theorem x_56_49 : Ev d 56 49 L (.int y :: .int x :: st) μ Q = if x < y then Ev d 56 55 L st μ Q else Ev d 56 52 L st μ Q := e_icmp_lt (by decide +kernel : decode (bOf 56) 49 = .ok (.if_icmp .lt 6, 3)) (by omega)
theorem x_56_52 : Ev d 56 52 L st μ Q = Ev d 56 54 L (.int (iI (-9)) :: st) μ Q := e_bipush (by decide +kernel : decode (bOf 56) 52 = .ok (.bipush (-9), 2)) (by decide +kernel)
theorem x_56_54 : Ev d 56 54 L [.int x] μ Q = Q (some (.int x)) μ := e_iret (by decide +kernel : decode (bOf 56) 54 = .ok (.ireturn, 1)) (by decide +kernel)
theorem x_56_55 : Ev d 56 55 (.ref r :: L) st μ Q = Ev d 56 56 (.ref r :: L) (.ref r :: st) μ Q := e_aload_n (by decide +kernel : decode (bOf 56) 55 = .ok (.aload_n 0, 1)) rfl
theorem x_56_56 (h : kd t r = 4) : Ev d 56 56 L (.ref r :: st) (t, V, A, P) Q = Ev d 56 59 L (V r 6 :: st) (t, V, A, P) Q := e_getf (by decide +kernel : decode (bOf 56) 56 = .ok (.getfield 37, 3)) (by decide +kernel) (by decide +kernel) h
theorem x_56_59 : Ev d 56 59 (a0 :: a1 :: a2 :: .int x :: L) st μ Q = Ev d 56 60 (a0 :: a1 :: a2 :: .int x :: L) (.int x :: st) μ Q := e_iload_n (by decide +kernel : decode (bOf 56) 59 = .ok (.iload_n 3, 1)) rfl
theorem x_56_60 (h : kd t r = 1) : Ev d 56 60 L [b0, .ref r] (t, V, A, P) Q = Call d 15 [.ref r, b0] (t, V, A, P) (fun v μ1 => Ev d 56 63 L (v.toList ++ []) μ1 Q) := e_callV (a := [b0]) (r := []) (by decide +kernel : decode (bOf 56) 60 = .ok (.invokevirtual 131, 3)) (by decide +kernel) (by decide +kernel) (by decide +kernel) (by omega) rfl (by simp) (by decide +kernel) h
theorem x_56_63 (h : a4.category = 1) : Ev d 56 63 (a0 :: a1 :: a2 :: a3 :: a4 :: a5 :: L) (.int x :: st) μ Q = Ev d 56 65 (a0 :: a1 :: a2 :: a3 :: a4 :: .int x :: L) st μ Q := e_istore (by decide +kernel : decode (bOf 56) 63 = .ok (.istore 5, 2)) (by show stOK _ 5 = true; simp [stOK, h])
theorem x_56_65 : Ev d 56 65 (a0 :: a1 :: a2 :: a3 :: .int x :: L) st μ Q = Ev d 56 67 (a0 :: a1 :: a2 :: a3 :: .int x :: L) (.int x :: st) μ Q := e_iload (by decide +kernel : decode (bOf 56) 65 = .ok (.iload 4, 2)) rfl
theorem x_56_67 : Ev d 56 67 L (.int x :: st) μ Q = if x = iI 0 then Ev d 56 96 L st μ Q else if x = iI 1 then Ev d 56 99 L st μ Q else if x = iI 2 then Ev d 56 105 L st μ Q else if x = iI 3 then Ev d 56 127 L st μ Q else Ev d 56 136 L st μ Q := by
  have hd : decode (bOf 56) 67 = .ok (.tableswitch 69 0 3 #[29, 32, 38, 60], 29) := by decide +kernel
  by_cases h0 : x = iI 0
  · rw [if_pos h0]; exact e_sw hd (sw_in (off := 29) h0 (by omega) (by omega) (by omega) rfl (by omega))
  rw [if_neg h0]
  by_cases h1 : x = iI 1
  · rw [if_pos h1]; exact e_sw hd (sw_in (off := 32) h1 (by omega) (by omega) (by omega) rfl (by omega))
  rw [if_neg h1]
  by_cases h2 : x = iI 2
  · rw [if_pos h2]; exact e_sw hd (sw_in (off := 38) h2 (by omega) (by omega) (by omega) rfl (by omega))
  rw [if_neg h2]
  by_cases h3 : x = iI 3
  · rw [if_pos h3]; exact e_sw hd (sw_in (off := 60) h3 (by omega) (by omega) (by omega) rfl (by omega))
  rw [if_neg h3]
  have g0 := ne_toInt h0
  have g1 := ne_toInt h1
  have g2 := ne_toInt h2
  have g3 := ne_toInt h3
  exact e_sw hd (sw_out (by omega) (by omega))
theorem x_56_96 : Ev d 56 96 (a0 :: a1 :: a2 :: a3 :: a4 :: .int x :: L) st μ Q = Ev d 56 98 (a0 :: a1 :: a2 :: a3 :: a4 :: .int x :: L) (.int x :: st) μ Q := e_iload (by decide +kernel : decode (bOf 56) 96 = .ok (.iload 5, 2)) rfl
theorem x_56_98 : Ev d 56 98 L [.int x] μ Q = Q (some (.int x)) μ := e_iret (by decide +kernel : decode (bOf 56) 98 = .ok (.ireturn, 1)) (by decide +kernel)
theorem x_56_99 : Ev d 56 99 (a0 :: a1 :: a2 :: a3 :: a4 :: .int x :: L) st μ Q = Ev d 56 101 (a0 :: a1 :: a2 :: a3 :: a4 :: .int x :: L) (.int x :: st) μ Q := e_iload (by decide +kernel : decode (bOf 56) 99 = .ok (.iload 5, 2)) rfl
theorem x_56_101 : Ev d 56 101 L [b0] μ Q = Call d 4 [b0] μ (fun v μ1 => Ev d 56 104 L (v.toList ++ []) μ1 Q) := e_callS (a := [b0]) (r := []) (by decide +kernel : decode (bOf 56) 101 = .ok (.invokestatic 134, 3)) (by decide +kernel) (by decide +kernel) (by omega) rfl (by simp)
theorem x_56_104 : Ev d 56 104 L [.int x] μ Q = Q (some (.int x)) μ := e_iret (by decide +kernel : decode (bOf 56) 104 = .ok (.ireturn, 1)) (by decide +kernel)
theorem x_56_105 : Ev d 56 105 (a0 :: a1 :: a2 :: a3 :: a4 :: .int x :: L) st μ Q = Ev d 56 107 (a0 :: a1 :: a2 :: a3 :: a4 :: .int x :: L) (.int x :: st) μ Q := e_iload (by decide +kernel : decode (bOf 56) 105 = .ok (.iload 5, 2)) rfl
theorem x_56_107 : Ev d 56 107 (.ref r :: L) st μ Q = Ev d 56 108 (.ref r :: L) (.ref r :: st) μ Q := e_aload_n (by decide +kernel : decode (bOf 56) 107 = .ok (.aload_n 0, 1)) rfl
theorem x_56_108 (h : kd t r = 4) : Ev d 56 108 L (.ref r :: st) (t, V, A, P) Q = Ev d 56 111 L (V r 6 :: st) (t, V, A, P) Q := e_getf (by decide +kernel : decode (bOf 56) 108 = .ok (.getfield 37, 3)) (by decide +kernel) (by decide +kernel) h
theorem x_56_111 : Ev d 56 111 (a0 :: a1 :: a2 :: .int x :: L) st μ Q = Ev d 56 112 (a0 :: a1 :: a2 :: .int x :: L) (.int x :: st) μ Q := e_iload_n (by decide +kernel : decode (bOf 56) 111 = .ok (.iload_n 3, 1)) rfl
theorem x_56_112 (h : kd t r = 1) : Ev d 56 112 L [b0, .ref r, s0] (t, V, A, P) Q = Call d 16 [.ref r, b0] (t, V, A, P) (fun v μ1 => Ev d 56 115 L (v.toList ++ [s0]) μ1 Q) := e_callV (a := [b0]) (r := [s0]) (by decide +kernel : decode (bOf 56) 112 = .ok (.invokevirtual 137, 3)) (by decide +kernel) (by decide +kernel) (by decide +kernel) (by omega) rfl (by simp) (by decide +kernel) h
theorem x_56_115 : Ev d 56 115 L [b1, b0] μ Q = Call d 5 [b0, b1] μ (fun v μ1 => Ev d 56 118 L (v.toList ++ []) μ1 Q) := e_callS (a := [b0, b1]) (r := []) (by decide +kernel : decode (bOf 56) 115 = .ok (.invokestatic 140, 3)) (by decide +kernel) (by decide +kernel) (by omega) rfl (by simp)
theorem x_56_118 : Ev d 56 118 L (.int x :: st) μ Q = if x = iI 0 then Ev d 56 125 L st μ Q else Ev d 56 121 L st μ Q := e_if_eq (by decide +kernel : decode (bOf 56) 118 = .ok (.ifCond .eq 7, 3)) (by omega)
theorem x_56_121 : Ev d 56 121 L st μ Q = Ev d 56 122 L (.int (iI 1) :: st) μ Q := e_iconst (by decide +kernel : decode (bOf 56) 121 = .ok (.iconst 1, 1))
theorem x_56_122 : Ev d 56 122 L st μ Q = Ev d 56 126 L st μ Q := e_goto (by decide +kernel : decode (bOf 56) 122 = .ok (.goto 4, 3)) (by omega)
theorem x_56_125 : Ev d 56 125 L st μ Q = Ev d 56 126 L (.int (iI 0) :: st) μ Q := e_iconst (by decide +kernel : decode (bOf 56) 125 = .ok (.iconst 0, 1))
theorem x_56_126 : Ev d 56 126 L [.int x] μ Q = Q (some (.int x)) μ := e_iret (by decide +kernel : decode (bOf 56) 126 = .ok (.ireturn, 1)) (by decide +kernel)
theorem x_56_127 : Ev d 56 127 (.ref r :: L) st μ Q = Ev d 56 128 (.ref r :: L) (.ref r :: st) μ Q := e_aload_n (by decide +kernel : decode (bOf 56) 127 = .ok (.aload_n 0, 1)) rfl
theorem x_56_128 (h : kd t r = 4) : Ev d 56 128 L (.ref r :: st) (t, V, A, P) Q = Ev d 56 131 L (V r 6 :: st) (t, V, A, P) Q := e_getf (by decide +kernel : decode (bOf 56) 128 = .ok (.getfield 37, 3)) (by decide +kernel) (by decide +kernel) h
theorem x_56_131 : Ev d 56 131 (a0 :: a1 :: a2 :: .int x :: L) st μ Q = Ev d 56 132 (a0 :: a1 :: a2 :: .int x :: L) (.int x :: st) μ Q := e_iload_n (by decide +kernel : decode (bOf 56) 131 = .ok (.iload_n 3, 1)) rfl
theorem x_56_132 (h : kd t r = 1) : Ev d 56 132 L [b0, .ref r] (t, V, A, P) Q = Call d 18 [.ref r, b0] (t, V, A, P) (fun v μ1 => Ev d 56 135 L (v.toList ++ []) μ1 Q) := e_callV (a := [b0]) (r := []) (by decide +kernel : decode (bOf 56) 132 = .ok (.invokevirtual 143, 3)) (by decide +kernel) (by decide +kernel) (by decide +kernel) (by omega) rfl (by simp) (by decide +kernel) h
theorem x_56_135 : Ev d 56 135 L [.int x] μ Q = Q (some (.int x)) μ := e_iret (by decide +kernel : decode (bOf 56) 135 = .ok (.ireturn, 1)) (by decide +kernel)
theorem x_56_136 : Ev d 56 136 (.ref r :: L) st μ Q = Ev d 56 137 (.ref r :: L) (.ref r :: st) μ Q := e_aload_n (by decide +kernel : decode (bOf 56) 136 = .ok (.aload_n 0, 1)) rfl
theorem x_56_137 (h : kd t r = 4) : Ev d 56 137 L (.ref r :: st) (t, V, A, P) Q = Ev d 56 140 L (V r 6 :: st) (t, V, A, P) Q := e_getf (by decide +kernel : decode (bOf 56) 137 = .ok (.getfield 37, 3)) (by decide +kernel) (by decide +kernel) h
theorem x_56_140 : Ev d 56 140 (a0 :: a1 :: a2 :: .int x :: L) st μ Q = Ev d 56 141 (a0 :: a1 :: a2 :: .int x :: L) (.int x :: st) μ Q := e_iload_n (by decide +kernel : decode (bOf 56) 140 = .ok (.iload_n 3, 1)) rfl
theorem x_56_141 (h : kd t r = 1) : Ev d 56 141 L [b0, .ref r] (t, V, A, P) Q = Call d 17 [.ref r, b0] (t, V, A, P) (fun v μ1 => Ev d 56 144 L (v.toList ++ []) μ1 Q) := e_callV (a := [b0]) (r := []) (by decide +kernel : decode (bOf 56) 141 = .ok (.invokevirtual 146, 3)) (by decide +kernel) (by decide +kernel) (by decide +kernel) (by omega) rfl (by simp) (by decide +kernel) h
theorem x_56_144 : Ev d 56 144 L [b0] μ Q = Call d 78 [b0] μ (fun v μ1 => Ev d 56 147 L (v.toList ++ []) μ1 Q) := e_callS (a := [b0]) (r := []) (by decide +kernel : decode (bOf 56) 144 = .ok (.invokestatic 149, 3)) (by decide +kernel) (by decide +kernel) (by omega) rfl (by simp)
theorem x_56_147 : Ev d 56 147 L [.int x] μ Q = Q (some (.int x)) μ := e_iret (by decide +kernel : decode (bOf 56) 147 = .ok (.ireturn, 1)) (by decide +kernel)
theorem c_57 : Call (d + 1) 57 [.ref r0, .int i1, .int i2, .int i3] μ Q = Ev d 57 0 [.ref r0, .int i1, .int i2, .int i3] [] μ Q := call_ev rfl rfl
theorem x_57_0 : Ev d 57 0 (a0 :: .int x :: L) st μ Q = Ev d 57 1 (a0 :: .int x :: L) (.int x :: st) μ Q := e_iload_n (by decide +kernel : decode (bOf 57) 0 = .ok (.iload_n 1, 1)) rfl
theorem x_57_1 : Ev d 57 1 (a0 :: a1 :: .int x :: L) st μ Q = Ev d 57 2 (a0 :: a1 :: .int x :: L) (.int x :: st) μ Q := e_iload_n (by decide +kernel : decode (bOf 57) 1 = .ok (.iload_n 2, 1)) rfl
theorem x_57_2 : Ev d 57 2 L [b1, b0] μ Q = Call d 76 [b0, b1] μ (fun v μ1 => Ev d 57 5 L (v.toList ++ []) μ1 Q) := e_callS (a := [b0, b1]) (r := []) (by decide +kernel : decode (bOf 57) 2 = .ok (.invokestatic 117, 3)) (by decide +kernel) (by decide +kernel) (by omega) rfl (by simp)
theorem x_57_5 : Ev d 57 5 L (.int x :: st) μ Q = if x = iI 0 then Ev d 57 17 L st μ Q else Ev d 57 8 L st μ Q := e_if_eq (by decide +kernel : decode (bOf 57) 5 = .ok (.ifCond .eq 12, 3)) (by omega)
theorem x_57_8 : Ev d 57 8 (a0 :: a1 :: a2 :: .int x :: L) st μ Q = Ev d 57 9 (a0 :: a1 :: a2 :: .int x :: L) (.int x :: st) μ Q := e_iload_n (by decide +kernel : decode (bOf 57) 8 = .ok (.iload_n 3, 1)) rfl
theorem x_57_9 : Ev d 57 9 L (.int x :: st) μ Q = if x < iI 0 then Ev d 57 17 L st μ Q else Ev d 57 12 L st μ Q := e_if_lt (by decide +kernel : decode (bOf 57) 9 = .ok (.ifCond .lt 8, 3)) (by omega)
theorem x_57_12 : Ev d 57 12 (a0 :: a1 :: a2 :: .int x :: L) st μ Q = Ev d 57 13 (a0 :: a1 :: a2 :: .int x :: L) (.int x :: st) μ Q := e_iload_n (by decide +kernel : decode (bOf 57) 12 = .ok (.iload_n 3, 1)) rfl
theorem x_57_13 : Ev d 57 13 L st μ Q = Ev d 57 14 L (.int (iI 5) :: st) μ Q := e_iconst (by decide +kernel : decode (bOf 57) 13 = .ok (.iconst 5, 1))
theorem x_57_14 : Ev d 57 14 L (.int y :: .int x :: st) μ Q = if y < x then Ev d 57 17 L st μ Q else Ev d 57 20 L st μ Q := e_icmp_le (by decide +kernel : decode (bOf 57) 14 = .ok (.if_icmp .le 6, 3)) (by omega)
theorem x_57_17 : Ev d 57 17 L st μ Q = Ev d 57 19 L (.int (iI (-1000000)) :: st) μ Q := e_ldc (by decide +kernel : decode (bOf 57) 17 = .ok (.ldc 152, 2)) (by decide +kernel)
theorem x_57_19 : Ev d 57 19 L [.int x] μ Q = Q (some (.int x)) μ := e_iret (by decide +kernel : decode (bOf 57) 19 = .ok (.ireturn, 1)) (by decide +kernel)
theorem x_57_20 : Ev d 57 20 (.ref r :: L) st μ Q = Ev d 57 21 (.ref r :: L) (.ref r :: st) μ Q := e_aload_n (by decide +kernel : decode (bOf 57) 20 = .ok (.aload_n 0, 1)) rfl
theorem x_57_21 (h : kd t r = 4) : Ev d 57 21 L (.ref r :: st) (t, V, A, P) Q = Ev d 57 24 L (V r 6 :: st) (t, V, A, P) Q := e_getf (by decide +kernel : decode (bOf 57) 21 = .ok (.getfield 37, 3)) (by decide +kernel) (by decide +kernel) h
theorem x_57_24 : Ev d 57 24 (.ref r :: L) st μ Q = Ev d 57 25 (.ref r :: L) (.ref r :: st) μ Q := e_aload_n (by decide +kernel : decode (bOf 57) 24 = .ok (.aload_n 0, 1)) rfl
theorem x_57_25 (h : kd t r = 4) : Ev d 57 25 L (.ref r :: st) (t, V, A, P) Q = Ev d 57 28 L (V r 0 :: st) (t, V, A, P) Q := e_getf (by decide +kernel : decode (bOf 57) 25 = .ok (.getfield 12, 3)) (by decide +kernel) (by decide +kernel) h
theorem x_57_28 : Ev d 57 28 (a0 :: .int x :: L) st μ Q = Ev d 57 29 (a0 :: .int x :: L) (.int x :: st) μ Q := e_iload_n (by decide +kernel : decode (bOf 57) 28 = .ok (.iload_n 1, 1)) rfl
theorem x_57_29 : Ev d 57 29 (a0 :: a1 :: .int x :: L) st μ Q = Ev d 57 30 (a0 :: a1 :: .int x :: L) (.int x :: st) μ Q := e_iload_n (by decide +kernel : decode (bOf 57) 29 = .ok (.iload_n 2, 1)) rfl
theorem x_57_30 : Ev d 57 30 L [b0, s0, s1, s2] μ Q = Call d 77 [b0] μ (fun v μ1 => Ev d 57 33 L (v.toList ++ [s0, s1, s2]) μ1 Q) := e_callS (a := [b0]) (r := [s0, s1, s2]) (by decide +kernel : decode (bOf 57) 30 = .ok (.invokestatic 121, 3)) (by decide +kernel) (by decide +kernel) (by omega) rfl (by simp)
theorem x_57_33 (h : kd t r = 1) : Ev d 57 33 L [b2, b1, b0, .ref r] (t, V, A, P) Q = Call d 14 [.ref r, b0, b1, b2] (t, V, A, P) (fun v μ1 => Ev d 57 36 L (v.toList ++ []) μ1 Q) := e_callV (a := [b0, b1, b2]) (r := []) (by decide +kernel : decode (bOf 57) 33 = .ok (.invokevirtual 124, 3)) (by decide +kernel) (by decide +kernel) (by decide +kernel) (by omega) rfl (by simp) (by decide +kernel) h
theorem x_57_36 : Ev d 57 36 (a0 :: a1 :: a2 :: .int x :: L) st μ Q = Ev d 57 37 (a0 :: a1 :: a2 :: .int x :: L) (.int x :: st) μ Q := e_iload_n (by decide +kernel : decode (bOf 57) 36 = .ok (.iload_n 3, 1)) rfl
theorem x_57_37 : Ev d 57 37 L (.int x :: st) μ Q = if x = iI 0 then Ev d 57 40 L st μ Q else Ev d 57 48 L st μ Q := e_if_ne (by decide +kernel : decode (bOf 57) 37 = .ok (.ifCond .ne 11, 3)) (by omega)
theorem x_57_40 : Ev d 57 40 (.ref r :: L) st μ Q = Ev d 57 41 (.ref r :: L) (.ref r :: st) μ Q := e_aload_n (by decide +kernel : decode (bOf 57) 40 = .ok (.aload_n 0, 1)) rfl
theorem x_57_41 (h : kd t r = 4) : Ev d 57 41 L (.ref r :: st) (t, V, A, P) Q = Ev d 57 44 L (V r 6 :: st) (t, V, A, P) Q := e_getf (by decide +kernel : decode (bOf 57) 41 = .ok (.getfield 37, 3)) (by decide +kernel) (by decide +kernel) h
theorem x_57_44 (h : kd t r = 1) : Ev d 57 44 L (.ref r :: st) (t, V, A, P) Q = Ev d 57 47 L (V r 5 :: st) (t, V, A, P) Q := e_getf (by decide +kernel : decode (bOf 57) 44 = .ok (.getfield 128, 3)) (by decide +kernel) (by decide +kernel) h
theorem x_57_47 : Ev d 57 47 L [.int x] μ Q = Q (some (.int x)) μ := e_iret (by decide +kernel : decode (bOf 57) 47 = .ok (.ireturn, 1)) (by decide +kernel)
theorem x_57_48 : Ev d 57 48 (.ref r :: L) st μ Q = Ev d 57 49 (.ref r :: L) (.ref r :: st) μ Q := e_aload_n (by decide +kernel : decode (bOf 57) 48 = .ok (.aload_n 0, 1)) rfl
theorem x_57_49 (h : kd t r = 4) : Ev d 57 49 L (.ref r :: st) (t, V, A, P) Q = Ev d 57 52 L (V r 6 :: st) (t, V, A, P) Q := e_getf (by decide +kernel : decode (bOf 57) 49 = .ok (.getfield 37, 3)) (by decide +kernel) (by decide +kernel) h
theorem x_57_52 (h : kd t r = 1) : Ev d 57 52 L [.ref r] (t, V, A, P) Q = Call d 19 [.ref r] (t, V, A, P) (fun v μ1 => Ev d 57 55 L (v.toList ++ []) μ1 Q) := e_callV (a := []) (r := []) (by decide +kernel : decode (bOf 57) 52 = .ok (.invokevirtual 153, 3)) (by decide +kernel) (by decide +kernel) (by decide +kernel) (by omega) rfl (by simp) (by decide +kernel) h
theorem x_57_55 : Ev d 57 55 (a0 :: a1 :: a2 :: .int x :: L) st μ Q = Ev d 57 56 (a0 :: a1 :: a2 :: .int x :: L) (.int x :: st) μ Q := e_iload_n (by decide +kernel : decode (bOf 57) 55 = .ok (.iload_n 3, 1)) rfl
theorem x_57_56 : Ev d 57 56 L st μ Q = Ev d 57 57 L (.int (iI 1) :: st) μ Q := e_iconst (by decide +kernel : decode (bOf 57) 56 = .ok (.iconst 1, 1))
theorem x_57_57 : Ev d 57 57 L (.int y :: .int x :: st) μ Q = if x = y then Ev d 57 60 L st μ Q else Ev d 57 68 L st μ Q := e_icmp_ne (by decide +kernel : decode (bOf 57) 57 = .ok (.if_icmp .ne 11, 3)) (by omega)
theorem x_57_60 : Ev d 57 60 (.ref r :: L) st μ Q = Ev d 57 61 (.ref r :: L) (.ref r :: st) μ Q := e_aload_n (by decide +kernel : decode (bOf 57) 60 = .ok (.aload_n 0, 1)) rfl
theorem x_57_61 (h : kd t r = 4) : Ev d 57 61 L (.ref r :: st) (t, V, A, P) Q = Ev d 57 64 L (V r 6 :: st) (t, V, A, P) Q := e_getf (by decide +kernel : decode (bOf 57) 61 = .ok (.getfield 37, 3)) (by decide +kernel) (by decide +kernel) h
theorem x_57_64 (h : kd t r = 1) : Ev d 57 64 L (.ref r :: st) (t, V, A, P) Q = Ev d 57 67 L (V r 6 :: st) (t, V, A, P) Q := e_getf (by decide +kernel : decode (bOf 57) 64 = .ok (.getfield 156, 3)) (by decide +kernel) (by decide +kernel) h
theorem x_57_67 : Ev d 57 67 L [.int x] μ Q = Q (some (.int x)) μ := e_iret (by decide +kernel : decode (bOf 57) 67 = .ok (.ireturn, 1)) (by decide +kernel)
theorem x_57_68 : Ev d 57 68 (a0 :: a1 :: a2 :: .int x :: L) st μ Q = Ev d 57 69 (a0 :: a1 :: a2 :: .int x :: L) (.int x :: st) μ Q := e_iload_n (by decide +kernel : decode (bOf 57) 68 = .ok (.iload_n 3, 1)) rfl
theorem x_57_69 : Ev d 57 69 L st μ Q = Ev d 57 70 L (.int (iI 2) :: st) μ Q := e_iconst (by decide +kernel : decode (bOf 57) 69 = .ok (.iconst 2, 1))
theorem x_57_70 : Ev d 57 70 L (.int y :: .int x :: st) μ Q = if x = y then Ev d 57 73 L st μ Q else Ev d 57 81 L st μ Q := e_icmp_ne (by decide +kernel : decode (bOf 57) 70 = .ok (.if_icmp .ne 11, 3)) (by omega)
theorem x_57_73 : Ev d 57 73 (.ref r :: L) st μ Q = Ev d 57 74 (.ref r :: L) (.ref r :: st) μ Q := e_aload_n (by decide +kernel : decode (bOf 57) 73 = .ok (.aload_n 0, 1)) rfl
theorem x_57_74 (h : kd t r = 4) : Ev d 57 74 L (.ref r :: st) (t, V, A, P) Q = Ev d 57 77 L (V r 6 :: st) (t, V, A, P) Q := e_getf (by decide +kernel : decode (bOf 57) 74 = .ok (.getfield 37, 3)) (by decide +kernel) (by decide +kernel) h
theorem x_57_77 (h : kd t r = 1) : Ev d 57 77 L (.ref r :: st) (t, V, A, P) Q = Ev d 57 80 L (V r 7 :: st) (t, V, A, P) Q := e_getf (by decide +kernel : decode (bOf 57) 77 = .ok (.getfield 159, 3)) (by decide +kernel) (by decide +kernel) h
theorem x_57_80 : Ev d 57 80 L [.int x] μ Q = Q (some (.int x)) μ := e_iret (by decide +kernel : decode (bOf 57) 80 = .ok (.ireturn, 1)) (by decide +kernel)
theorem x_57_81 : Ev d 57 81 (.ref r :: L) st μ Q = Ev d 57 82 (.ref r :: L) (.ref r :: st) μ Q := e_aload_n (by decide +kernel : decode (bOf 57) 81 = .ok (.aload_n 0, 1)) rfl
theorem x_57_82 (h : kd t r = 4) : Ev d 57 82 L (.ref r :: st) (t, V, A, P) Q = Ev d 57 85 L (V r 6 :: st) (t, V, A, P) Q := e_getf (by decide +kernel : decode (bOf 57) 82 = .ok (.getfield 37, 3)) (by decide +kernel) (by decide +kernel) h
theorem x_57_85 (h : kd t r = 1) : Ev d 57 85 L [.ref r] (t, V, A, P) Q = Call d 20 [.ref r] (t, V, A, P) (fun v μ1 => Ev d 57 88 L (v.toList ++ []) μ1 Q) := e_callV (a := []) (r := []) (by decide +kernel : decode (bOf 57) 85 = .ok (.invokevirtual 162, 3)) (by decide +kernel) (by decide +kernel) (by decide +kernel) (by omega) rfl (by simp) (by decide +kernel) h
theorem x_57_88 : Ev d 57 88 (a0 :: a1 :: a2 :: .int x :: L) st μ Q = Ev d 57 89 (a0 :: a1 :: a2 :: .int x :: L) (.int x :: st) μ Q := e_iload_n (by decide +kernel : decode (bOf 57) 88 = .ok (.iload_n 3, 1)) rfl
theorem x_57_89 : Ev d 57 89 L st μ Q = Ev d 57 90 L (.int (iI 3) :: st) μ Q := e_iconst (by decide +kernel : decode (bOf 57) 89 = .ok (.iconst 3, 1))
theorem x_57_90 : Ev d 57 90 L (.int y :: .int x :: st) μ Q = if x = y then Ev d 57 93 L st μ Q else Ev d 57 101 L st μ Q := e_icmp_ne (by decide +kernel : decode (bOf 57) 90 = .ok (.if_icmp .ne 11, 3)) (by omega)
theorem x_57_93 : Ev d 57 93 (.ref r :: L) st μ Q = Ev d 57 94 (.ref r :: L) (.ref r :: st) μ Q := e_aload_n (by decide +kernel : decode (bOf 57) 93 = .ok (.aload_n 0, 1)) rfl
theorem x_57_94 (h : kd t r = 4) : Ev d 57 94 L (.ref r :: st) (t, V, A, P) Q = Ev d 57 97 L (V r 6 :: st) (t, V, A, P) Q := e_getf (by decide +kernel : decode (bOf 57) 94 = .ok (.getfield 37, 3)) (by decide +kernel) (by decide +kernel) h
theorem x_57_97 (h : kd t r = 1) : Ev d 57 97 L (.ref r :: st) (t, V, A, P) Q = Ev d 57 100 L (V r 8 :: st) (t, V, A, P) Q := e_getf (by decide +kernel : decode (bOf 57) 97 = .ok (.getfield 165, 3)) (by decide +kernel) (by decide +kernel) h
theorem x_57_100 : Ev d 57 100 L [.int x] μ Q = Q (some (.int x)) μ := e_iret (by decide +kernel : decode (bOf 57) 100 = .ok (.ireturn, 1)) (by decide +kernel)
theorem x_57_101 : Ev d 57 101 (a0 :: a1 :: a2 :: .int x :: L) st μ Q = Ev d 57 102 (a0 :: a1 :: a2 :: .int x :: L) (.int x :: st) μ Q := e_iload_n (by decide +kernel : decode (bOf 57) 101 = .ok (.iload_n 3, 1)) rfl
theorem x_57_102 : Ev d 57 102 L st μ Q = Ev d 57 103 L (.int (iI 4) :: st) μ Q := e_iconst (by decide +kernel : decode (bOf 57) 102 = .ok (.iconst 4, 1))
theorem x_57_103 : Ev d 57 103 L (.int y :: .int x :: st) μ Q = if x = y then Ev d 57 106 L st μ Q else Ev d 57 116 L st μ Q := e_icmp_ne (by decide +kernel : decode (bOf 57) 103 = .ok (.if_icmp .ne 13, 3)) (by omega)
theorem x_57_106 : Ev d 57 106 (.ref r :: L) st μ Q = Ev d 57 107 (.ref r :: L) (.ref r :: st) μ Q := e_aload_n (by decide +kernel : decode (bOf 57) 106 = .ok (.aload_n 0, 1)) rfl
theorem x_57_107 (h : kd t r = 4) : Ev d 57 107 L (.ref r :: st) (t, V, A, P) Q = Ev d 57 110 L (V r 6 :: st) (t, V, A, P) Q := e_getf (by decide +kernel : decode (bOf 57) 107 = .ok (.getfield 37, 3)) (by decide +kernel) (by decide +kernel) h
theorem x_57_110 (h : kd t r = 1) : Ev d 57 110 L (.ref r :: st) (t, V, A, P) Q = Ev d 57 113 L (V r 9 :: st) (t, V, A, P) Q := e_getf (by decide +kernel : decode (bOf 57) 110 = .ok (.getfield 168, 3)) (by decide +kernel) (by decide +kernel) h
theorem x_57_113 : Ev d 57 113 L st μ Q = Ev d 57 123 L st μ Q := e_goto (by decide +kernel : decode (bOf 57) 113 = .ok (.goto 10, 3)) (by omega)
theorem x_57_116 : Ev d 57 116 (.ref r :: L) st μ Q = Ev d 57 117 (.ref r :: L) (.ref r :: st) μ Q := e_aload_n (by decide +kernel : decode (bOf 57) 116 = .ok (.aload_n 0, 1)) rfl
theorem x_57_117 (h : kd t r = 4) : Ev d 57 117 L (.ref r :: st) (t, V, A, P) Q = Ev d 57 120 L (V r 6 :: st) (t, V, A, P) Q := e_getf (by decide +kernel : decode (bOf 57) 117 = .ok (.getfield 37, 3)) (by decide +kernel) (by decide +kernel) h
theorem x_57_120 (h : kd t r = 1) : Ev d 57 120 L [.ref r] (t, V, A, P) Q = Call d 22 [.ref r] (t, V, A, P) (fun v μ1 => Ev d 57 123 L (v.toList ++ []) μ1 Q) := e_callV (a := []) (r := []) (by decide +kernel : decode (bOf 57) 120 = .ok (.invokevirtual 171, 3)) (by decide +kernel) (by decide +kernel) (by decide +kernel) (by omega) rfl (by simp) (by decide +kernel) h
theorem x_57_123 : Ev d 57 123 L [.int x] μ Q = Q (some (.int x)) μ := e_iret (by decide +kernel : decode (bOf 57) 123 = .ok (.ireturn, 1)) (by decide +kernel)
theorem c_58 : Call (d + 1) 58 [.ref r0, .int i1] μ Q = Ev d 58 0 [.ref r0, .int i1, .null, .null] [] μ Q := call_ev rfl rfl
theorem x_58_0 : Ev d 58 0 (a0 :: .int x :: L) st μ Q = Ev d 58 1 (a0 :: .int x :: L) (.int x :: st) μ Q := e_iload_n (by decide +kernel : decode (bOf 58) 0 = .ok (.iload_n 1, 1)) rfl
theorem x_58_1 : Ev d 58 1 L st μ Q = Ev d 58 2 L (.int (iI (-1)) :: st) μ Q := e_iconst (by decide +kernel : decode (bOf 58) 1 = .ok (.iconst (-1), 1))
theorem x_58_2 : Ev d 58 2 L (.int y :: .int x :: st) μ Q = if x < y then Ev d 58 5 L st μ Q else Ev d 58 7 L st μ Q := e_icmp_ge (by decide +kernel : decode (bOf 58) 2 = .ok (.if_icmp .ge 5, 3)) (by omega)
theorem x_58_5 : Ev d 58 5 L st μ Q = Ev d 58 6 L (.int (iI (-1)) :: st) μ Q := e_iconst (by decide +kernel : decode (bOf 58) 5 = .ok (.iconst (-1), 1))
theorem x_58_6 : Ev d 58 6 L [.int x] μ Q = Q (some (.int x)) μ := e_iret (by decide +kernel : decode (bOf 58) 6 = .ok (.ireturn, 1)) (by decide +kernel)
theorem x_58_7 : Ev d 58 7 L st μ Q = Ev d 58 8 L (.int (iI 0) :: st) μ Q := e_iconst (by decide +kernel : decode (bOf 58) 7 = .ok (.iconst 0, 1))
theorem x_58_8 (h : a1.category = 1) : Ev d 58 8 (a0 :: a1 :: a2 :: L) (.int x :: st) μ Q = Ev d 58 9 (a0 :: a1 :: .int x :: L) st μ Q := e_istore_n (by decide +kernel : decode (bOf 58) 8 = .ok (.istore_n 2, 1)) (by show stOK _ 2 = true; simp [stOK, h])
theorem x_58_9 : Ev d 58 9 L st μ Q = Ev d 58 10 L (.int (iI 0) :: st) μ Q := e_iconst (by decide +kernel : decode (bOf 58) 9 = .ok (.iconst 0, 1))
theorem x_58_10 (h : a2.category = 1) : Ev d 58 10 (a0 :: a1 :: a2 :: a3 :: L) (.int x :: st) μ Q = Ev d 58 11 (a0 :: a1 :: a2 :: .int x :: L) st μ Q := e_istore_n (by decide +kernel : decode (bOf 58) 10 = .ok (.istore_n 3, 1)) (by show stOK _ 3 = true; simp [stOK, h])
theorem x_58_11 : Ev d 58 11 (a0 :: a1 :: a2 :: .int x :: L) st μ Q = Ev d 58 12 (a0 :: a1 :: a2 :: .int x :: L) (.int x :: st) μ Q := e_iload_n (by decide +kernel : decode (bOf 58) 11 = .ok (.iload_n 3, 1)) rfl
theorem x_58_12 : Ev d 58 12 L st μ Q = Ev d 58 14 L (.int (iI 12) :: st) μ Q := e_bipush (by decide +kernel : decode (bOf 58) 12 = .ok (.bipush 12, 2)) (by decide +kernel)
theorem x_58_14 : Ev d 58 14 L (.int y :: .int x :: st) μ Q = if x < y then Ev d 58 17 L st μ Q else Ev d 58 82 L st μ Q := e_icmp_ge (by decide +kernel : decode (bOf 58) 14 = .ok (.if_icmp .ge 68, 3)) (by omega)
theorem x_58_17 : Ev d 58 17 (.ref r :: L) st μ Q = Ev d 58 18 (.ref r :: L) (.ref r :: st) μ Q := e_aload_n (by decide +kernel : decode (bOf 58) 17 = .ok (.aload_n 0, 1)) rfl
theorem x_58_18 (h : kd t r = 4) : Ev d 58 18 L (.ref r :: st) (t, V, A, P) Q = Ev d 58 21 L (V r 6 :: st) (t, V, A, P) Q := e_getf (by decide +kernel : decode (bOf 58) 18 = .ok (.getfield 37, 3)) (by decide +kernel) (by decide +kernel) h
theorem x_58_21 : Ev d 58 21 (.ref r :: L) st μ Q = Ev d 58 22 (.ref r :: L) (.ref r :: st) μ Q := e_aload_n (by decide +kernel : decode (bOf 58) 21 = .ok (.aload_n 0, 1)) rfl
theorem x_58_22 (h : kd t r = 4) : Ev d 58 22 L (.ref r :: st) (t, V, A, P) Q = Ev d 58 25 L (V r 0 :: st) (t, V, A, P) Q := e_getf (by decide +kernel : decode (bOf 58) 22 = .ok (.getfield 12, 3)) (by decide +kernel) (by decide +kernel) h
theorem x_58_25 : Ev d 58 25 (a0 :: a1 :: a2 :: .int x :: L) st μ Q = Ev d 58 26 (a0 :: a1 :: a2 :: .int x :: L) (.int x :: st) μ Q := e_iload_n (by decide +kernel : decode (bOf 58) 25 = .ok (.iload_n 3, 1)) rfl
theorem x_58_26 : Ev d 58 26 L st μ Q = Ev d 58 27 L (.int (iI 2) :: st) μ Q := e_iconst (by decide +kernel : decode (bOf 58) 26 = .ok (.iconst 2, 1))
theorem x_58_27 (h : ¬ y = 0) : Ev d 58 27 L (.int y :: .int x :: st) μ Q = Ev d 58 28 L (.int (x / y) :: st) μ Q := e_idiv (by decide +kernel : decode (bOf 58) 27 = .ok (.idiv, 1)) h
theorem x_58_28 : Ev d 58 28 (a0 :: a1 :: a2 :: .int x :: L) st μ Q = Ev d 58 29 (a0 :: a1 :: a2 :: .int x :: L) (.int x :: st) μ Q := e_iload_n (by decide +kernel : decode (bOf 58) 28 = .ok (.iload_n 3, 1)) rfl
theorem x_58_29 : Ev d 58 29 L st μ Q = Ev d 58 30 L (.int (iI 2) :: st) μ Q := e_iconst (by decide +kernel : decode (bOf 58) 29 = .ok (.iconst 2, 1))
theorem x_58_30 (h : ¬ y = 0) : Ev d 58 30 L (.int y :: .int x :: st) μ Q = Ev d 58 31 L (.int (x - x / y * y) :: st) μ Q := e_irem (by decide +kernel : decode (bOf 58) 30 = .ok (.irem, 1)) h
theorem x_58_31 : Ev d 58 31 L [b0, s0, s1, s2] μ Q = Call d 77 [b0] μ (fun v μ1 => Ev d 58 34 L (v.toList ++ [s0, s1, s2]) μ1 Q) := e_callS (a := [b0]) (r := [s0, s1, s2]) (by decide +kernel : decode (bOf 58) 31 = .ok (.invokestatic 121, 3)) (by decide +kernel) (by decide +kernel) (by omega) rfl (by simp)
theorem x_58_34 (h : kd t r = 1) : Ev d 58 34 L [b2, b1, b0, .ref r] (t, V, A, P) Q = Call d 14 [.ref r, b0, b1, b2] (t, V, A, P) (fun v μ1 => Ev d 58 37 L (v.toList ++ []) μ1 Q) := e_callV (a := [b0, b1, b2]) (r := []) (by decide +kernel : decode (bOf 58) 34 = .ok (.invokevirtual 124, 3)) (by decide +kernel) (by decide +kernel) (by decide +kernel) (by omega) rfl (by simp) (by decide +kernel) h
theorem x_58_37 : Ev d 58 37 (.ref r :: L) st μ Q = Ev d 58 38 (.ref r :: L) (.ref r :: st) μ Q := e_aload_n (by decide +kernel : decode (bOf 58) 37 = .ok (.aload_n 0, 1)) rfl
theorem x_58_38 (h : kd t r = 4) : Ev d 58 38 L (.ref r :: st) (t, V, A, P) Q = Ev d 58 41 L (V r 6 :: st) (t, V, A, P) Q := e_getf (by decide +kernel : decode (bOf 58) 38 = .ok (.getfield 37, 3)) (by decide +kernel) (by decide +kernel) h
theorem x_58_41 (h : kd t r = 1) : Ev d 58 41 L [.ref r] (t, V, A, P) Q = Call d 19 [.ref r] (t, V, A, P) (fun v μ1 => Ev d 58 44 L (v.toList ++ []) μ1 Q) := e_callV (a := []) (r := []) (by decide +kernel : decode (bOf 58) 41 = .ok (.invokevirtual 153, 3)) (by decide +kernel) (by decide +kernel) (by decide +kernel) (by omega) rfl (by simp) (by decide +kernel) h
theorem x_58_44 : Ev d 58 44 (.ref r :: L) st μ Q = Ev d 58 45 (.ref r :: L) (.ref r :: st) μ Q := e_aload_n (by decide +kernel : decode (bOf 58) 44 = .ok (.aload_n 0, 1)) rfl
theorem x_58_45 (h : kd t r = 4) : Ev d 58 45 L (.ref r :: st) (t, V, A, P) Q = Ev d 58 48 L (V r 6 :: st) (t, V, A, P) Q := e_getf (by decide +kernel : decode (bOf 58) 45 = .ok (.getfield 37, 3)) (by decide +kernel) (by decide +kernel) h
theorem x_58_48 (h : kd t r = 1) : Ev d 58 48 L (.ref r :: st) (t, V, A, P) Q = Ev d 58 51 L (V r 5 :: st) (t, V, A, P) Q := e_getf (by decide +kernel : decode (bOf 58) 48 = .ok (.getfield 128, 3)) (by decide +kernel) (by decide +kernel) h
theorem x_58_51 : Ev d 58 51 L (.int x :: st) μ Q = if iI 0 < x then Ev d 58 54 L st μ Q else Ev d 58 76 L st μ Q := e_if_le (by decide +kernel : decode (bOf 58) 51 = .ok (.ifCond .le 25, 3)) (by omega)
theorem x_58_54 : Ev d 58 54 (.ref r :: L) st μ Q = Ev d 58 55 (.ref r :: L) (.ref r :: st) μ Q := e_aload_n (by decide +kernel : decode (bOf 58) 54 = .ok (.aload_n 0, 1)) rfl
theorem x_58_55 (h : kd t r = 4) : Ev d 58 55 L (.ref r :: st) (t, V, A, P) Q = Ev d 58 58 L (V r 6 :: st) (t, V, A, P) Q := e_getf (by decide +kernel : decode (bOf 58) 55 = .ok (.getfield 37, 3)) (by decide +kernel) (by decide +kernel) h
theorem x_58_58 (h : kd t r = 1) : Ev d 58 58 L (.ref r :: st) (t, V, A, P) Q = Ev d 58 61 L (V r 6 :: st) (t, V, A, P) Q := e_getf (by decide +kernel : decode (bOf 58) 58 = .ok (.getfield 156, 3)) (by decide +kernel) (by decide +kernel) h
theorem x_58_61 : Ev d 58 61 L st μ Q = Ev d 58 63 L (.int (iI (-9)) :: st) μ Q := e_bipush (by decide +kernel : decode (bOf 58) 61 = .ok (.bipush (-9), 2)) (by decide +kernel)
theorem x_58_63 : Ev d 58 63 L (.int y :: .int x :: st) μ Q = if x = y then Ev d 58 66 L st μ Q else Ev d 58 76 L st μ Q := e_icmp_ne (by decide +kernel : decode (bOf 58) 63 = .ok (.if_icmp .ne 13, 3)) (by omega)
theorem x_58_66 : Ev d 58 66 (a0 :: a1 :: .int x :: L) st μ Q = Ev d 58 67 (a0 :: a1 :: .int x :: L) (.int x :: st) μ Q := e_iload_n (by decide +kernel : decode (bOf 58) 66 = .ok (.iload_n 2, 1)) rfl
theorem x_58_67 : Ev d 58 67 (a0 :: .int x :: L) st μ Q = Ev d 58 68 (a0 :: .int x :: L) (.int x :: st) μ Q := e_iload_n (by decide +kernel : decode (bOf 58) 67 = .ok (.iload_n 1, 1)) rfl
theorem x_58_68 : Ev d 58 68 L (.int y :: .int x :: st) μ Q = if x = y then Ev d 58 71 L st μ Q else Ev d 58 73 L st μ Q := e_icmp_ne (by decide +kernel : decode (bOf 58) 68 = .ok (.if_icmp .ne 5, 3)) (by omega)
theorem x_58_71 : Ev d 58 71 (a0 :: a1 :: a2 :: .int x :: L) st μ Q = Ev d 58 72 (a0 :: a1 :: a2 :: .int x :: L) (.int x :: st) μ Q := e_iload_n (by decide +kernel : decode (bOf 58) 71 = .ok (.iload_n 3, 1)) rfl
theorem x_58_72 : Ev d 58 72 L [.int x] μ Q = Q (some (.int x)) μ := e_iret (by decide +kernel : decode (bOf 58) 72 = .ok (.ireturn, 1)) (by decide +kernel)
theorem x_58_73 (h : a1.category = 1) : Ev d 58 73 (a0 :: a1 :: .int x :: L) st μ Q = Ev d 58 76 (a0 :: a1 :: .int (x + (iI 1)) :: L) st μ Q := e_iinc (by decide +kernel : decode (bOf 58) 73 = .ok (.iinc 2 1, 3)) rfl (by simp [stOK, h])
theorem x_58_76 (h : a2.category = 1) : Ev d 58 76 (a0 :: a1 :: a2 :: .int x :: L) st μ Q = Ev d 58 79 (a0 :: a1 :: a2 :: .int (x + (iI 1)) :: L) st μ Q := e_iinc (by decide +kernel : decode (bOf 58) 76 = .ok (.iinc 3 1, 3)) rfl (by simp [stOK, h])
theorem x_58_79 : Ev d 58 79 L st μ Q = Ev d 58 11 L st μ Q := e_goto (by decide +kernel : decode (bOf 58) 79 = .ok (.goto (-68), 3)) (by omega)
theorem x_58_82 : Ev d 58 82 (a0 :: .int x :: L) st μ Q = Ev d 58 83 (a0 :: .int x :: L) (.int x :: st) μ Q := e_iload_n (by decide +kernel : decode (bOf 58) 82 = .ok (.iload_n 1, 1)) rfl
theorem x_58_83 : Ev d 58 83 L st μ Q = Ev d 58 84 L (.int (iI (-1)) :: st) μ Q := e_iconst (by decide +kernel : decode (bOf 58) 83 = .ok (.iconst (-1), 1))
theorem x_58_84 : Ev d 58 84 L (.int y :: .int x :: st) μ Q = if x = y then Ev d 58 87 L st μ Q else Ev d 58 91 L st μ Q := e_icmp_ne (by decide +kernel : decode (bOf 58) 84 = .ok (.if_icmp .ne 7, 3)) (by omega)
theorem x_58_87 : Ev d 58 87 (a0 :: a1 :: .int x :: L) st μ Q = Ev d 58 88 (a0 :: a1 :: .int x :: L) (.int x :: st) μ Q := e_iload_n (by decide +kernel : decode (bOf 58) 87 = .ok (.iload_n 2, 1)) rfl
theorem x_58_88 : Ev d 58 88 L st μ Q = Ev d 58 93 L st μ Q := e_goto (by decide +kernel : decode (bOf 58) 88 = .ok (.goto 5, 3)) (by omega)
theorem x_58_91 : Ev d 58 91 L st μ Q = Ev d 58 93 L (.int (iI (-9)) :: st) μ Q := e_bipush (by decide +kernel : decode (bOf 58) 91 = .ok (.bipush (-9), 2)) (by decide +kernel)
theorem x_58_93 : Ev d 58 93 L [.int x] μ Q = Q (some (.int x)) μ := e_iret (by decide +kernel : decode (bOf 58) 93 = .ok (.ireturn, 1)) (by decide +kernel)
theorem c_59 : Call (d + 1) 59 [.ref r0, .int i1, .int i2] μ Q = Ev d 59 0 [.ref r0, .int i1, .int i2, .null, .null, .null, .null, .null] [] μ Q := call_ev rfl rfl
theorem x_59_0 : Ev d 59 0 (a0 :: .int x :: L) st μ Q = Ev d 59 1 (a0 :: .int x :: L) (.int x :: st) μ Q := e_iload_n (by decide +kernel : decode (bOf 59) 0 = .ok (.iload_n 1, 1)) rfl
theorem x_59_1 : Ev d 59 1 L st μ Q = Ev d 59 4 L (.int (iI (-300)) :: st) μ Q := e_sipush (by decide +kernel : decode (bOf 59) 1 = .ok (.sipush (-300), 3)) (by decide +kernel)
theorem x_59_4 : Ev d 59 4 L (.int y :: .int x :: st) μ Q = if x < y then Ev d 59 23 L st μ Q else Ev d 59 7 L st μ Q := e_icmp_lt (by decide +kernel : decode (bOf 59) 4 = .ok (.if_icmp .lt 19, 3)) (by omega)
theorem x_59_7 : Ev d 59 7 (a0 :: .int x :: L) st μ Q = Ev d 59 8 (a0 :: .int x :: L) (.int x :: st) μ Q := e_iload_n (by decide +kernel : decode (bOf 59) 7 = .ok (.iload_n 1, 1)) rfl
theorem x_59_8 : Ev d 59 8 L st μ Q = Ev d 59 11 L (.int (iI 300) :: st) μ Q := e_sipush (by decide +kernel : decode (bOf 59) 8 = .ok (.sipush 300, 3)) (by decide +kernel)
theorem x_59_11 : Ev d 59 11 L (.int y :: .int x :: st) μ Q = if y < x then Ev d 59 23 L st μ Q else Ev d 59 14 L st μ Q := e_icmp_gt (by decide +kernel : decode (bOf 59) 11 = .ok (.if_icmp .gt 12, 3)) (by omega)
theorem x_59_14 : Ev d 59 14 (a0 :: a1 :: .int x :: L) st μ Q = Ev d 59 15 (a0 :: a1 :: .int x :: L) (.int x :: st) μ Q := e_iload_n (by decide +kernel : decode (bOf 59) 14 = .ok (.iload_n 2, 1)) rfl
theorem x_59_15 : Ev d 59 15 L (.int x :: st) μ Q = if x < iI 0 then Ev d 59 23 L st μ Q else Ev d 59 18 L st μ Q := e_if_lt (by decide +kernel : decode (bOf 59) 15 = .ok (.ifCond .lt 8, 3)) (by omega)
theorem x_59_18 : Ev d 59 18 (a0 :: a1 :: .int x :: L) st μ Q = Ev d 59 19 (a0 :: a1 :: .int x :: L) (.int x :: st) μ Q := e_iload_n (by decide +kernel : decode (bOf 59) 18 = .ok (.iload_n 2, 1)) rfl
theorem x_59_19 : Ev d 59 19 L st μ Q = Ev d 59 20 L (.int (iI 2) :: st) μ Q := e_iconst (by decide +kernel : decode (bOf 59) 19 = .ok (.iconst 2, 1))
theorem x_59_20 : Ev d 59 20 L (.int y :: .int x :: st) μ Q = if y < x then Ev d 59 23 L st μ Q else Ev d 59 26 L st μ Q := e_icmp_le (by decide +kernel : decode (bOf 59) 20 = .ok (.if_icmp .le 6, 3)) (by omega)
theorem x_59_23 : Ev d 59 23 L st μ Q = Ev d 59 25 L (.int (iI (-1000000)) :: st) μ Q := e_ldc (by decide +kernel : decode (bOf 59) 23 = .ok (.ldc 152, 2)) (by decide +kernel)
theorem x_59_25 : Ev d 59 25 L [.int x] μ Q = Q (some (.int x)) μ := e_iret (by decide +kernel : decode (bOf 59) 25 = .ok (.ireturn, 1)) (by decide +kernel)
theorem x_59_26 : Ev d 59 26 L st μ Q = Ev d 59 27 L (.int (iI 0) :: st) μ Q := e_iconst (by decide +kernel : decode (bOf 59) 26 = .ok (.iconst 0, 1))
theorem x_59_27 (h : a2.category = 1) : Ev d 59 27 (a0 :: a1 :: a2 :: a3 :: L) (.int x :: st) μ Q = Ev d 59 28 (a0 :: a1 :: a2 :: .int x :: L) st μ Q := e_istore_n (by decide +kernel : decode (bOf 59) 27 = .ok (.istore_n 3, 1)) (by show stOK _ 3 = true; simp [stOK, h])
theorem x_59_28 : Ev d 59 28 L st μ Q = Ev d 59 30 L (.int (iI (-2000000)) :: st) μ Q := e_ldc (by decide +kernel : decode (bOf 59) 28 = .ok (.ldc 174, 2)) (by decide +kernel)
theorem x_59_30 (h : a3.category = 1) : Ev d 59 30 (a0 :: a1 :: a2 :: a3 :: a4 :: L) (.int x :: st) μ Q = Ev d 59 32 (a0 :: a1 :: a2 :: a3 :: .int x :: L) st μ Q := e_istore (by decide +kernel : decode (bOf 59) 30 = .ok (.istore 4, 2)) (by show stOK _ 4 = true; simp [stOK, h])
theorem x_59_32 : Ev d 59 32 L st μ Q = Ev d 59 34 L (.int (iI (-2000000)) :: st) μ Q := e_ldc (by decide +kernel : decode (bOf 59) 32 = .ok (.ldc 174, 2)) (by decide +kernel)
theorem x_59_34 (h : a4.category = 1) : Ev d 59 34 (a0 :: a1 :: a2 :: a3 :: a4 :: a5 :: L) (.int x :: st) μ Q = Ev d 59 36 (a0 :: a1 :: a2 :: a3 :: a4 :: .int x :: L) st μ Q := e_istore (by decide +kernel : decode (bOf 59) 34 = .ok (.istore 5, 2)) (by show stOK _ 5 = true; simp [stOK, h])
theorem x_59_36 : Ev d 59 36 (.ref r :: L) st μ Q = Ev d 59 37 (.ref r :: L) (.ref r :: st) μ Q := e_aload_n (by decide +kernel : decode (bOf 59) 36 = .ok (.aload_n 0, 1)) rfl
theorem x_59_37 (h : kd t r = 4) : Ev d 59 37 L (.ref r :: st) (t, V, A, P) Q = Ev d 59 40 L (V r 8 :: st) (t, V, A, P) Q := e_getf (by decide +kernel : decode (bOf 59) 37 = .ok (.getfield 51, 3)) (by decide +kernel) (by decide +kernel) h
theorem x_59_40 : Ev d 59 40 L st μ Q = Ev d 59 41 L (.int (iI (-1)) :: st) μ Q := e_iconst (by decide +kernel : decode (bOf 59) 40 = .ok (.iconst (-1), 1))
theorem x_59_41 (h : kd t r = 2) : Ev d 59 41 L [b0, .ref r] (t, V, A, P) Q = Call d 24 [.ref r, b0] (t, V, A, P) (fun v μ1 => Ev d 59 44 L (v.toList ++ []) μ1 Q) := e_callV (a := [b0]) (r := []) (by decide +kernel : decode (bOf 59) 41 = .ok (.invokevirtual 175, 3)) (by decide +kernel) (by decide +kernel) (by decide +kernel) (by omega) rfl (by simp) (by decide +kernel) h
theorem x_59_44 : Ev d 59 44 L st μ Q = Ev d 59 45 L (.int (iI 0) :: st) μ Q := e_iconst (by decide +kernel : decode (bOf 59) 44 = .ok (.iconst 0, 1))
theorem x_59_45 (h : a5.category = 1) : Ev d 59 45 (a0 :: a1 :: a2 :: a3 :: a4 :: a5 :: a6 :: L) (.int x :: st) μ Q = Ev d 59 47 (a0 :: a1 :: a2 :: a3 :: a4 :: a5 :: .int x :: L) st μ Q := e_istore (by decide +kernel : decode (bOf 59) 45 = .ok (.istore 6, 2)) (by show stOK _ 6 = true; simp [stOK, h])
theorem x_59_47 : Ev d 59 47 (a0 :: a1 :: a2 :: a3 :: a4 :: a5 :: .int x :: L) st μ Q = Ev d 59 49 (a0 :: a1 :: a2 :: a3 :: a4 :: a5 :: .int x :: L) (.int x :: st) μ Q := e_iload (by decide +kernel : decode (bOf 59) 47 = .ok (.iload 6, 2)) rfl
theorem x_59_49 : Ev d 59 49 (.ref r :: L) st μ Q = Ev d 59 50 (.ref r :: L) (.ref r :: st) μ Q := e_aload_n (by decide +kernel : decode (bOf 59) 49 = .ok (.aload_n 0, 1)) rfl
theorem x_59_50 (h : kd t r = 4) : Ev d 59 50 L (.ref r :: st) (t, V, A, P) Q = Ev d 59 53 L (V r 0 :: st) (t, V, A, P) Q := e_getf (by decide +kernel : decode (bOf 59) 50 = .ok (.getfield 12, 3)) (by decide +kernel) (by decide +kernel) h
theorem x_59_53 (h : kd t r = 3) : Ev d 59 53 L [.ref r, s0] (t, V, A, P) Q = Call d 35 [.ref r] (t, V, A, P) (fun v μ1 => Ev d 59 56 L (v.toList ++ [s0]) μ1 Q) := e_callV (a := []) (r := [s0]) (by decide +kernel : decode (bOf 59) 53 = .ok (.invokevirtual 178, 3)) (by decide +kernel) (by decide +kernel) (by decide +kernel) (by omega) rfl (by simp) (by decide +kernel) h
theorem x_59_56 : Ev d 59 56 L (.int y :: .int x :: st) μ Q = if x < y then Ev d 59 59 L st μ Q else Ev d 59 153 L st μ Q := e_icmp_ge (by decide +kernel : decode (bOf 59) 56 = .ok (.if_icmp .ge 97, 3)) (by omega)
theorem x_59_59 : Ev d 59 59 (.ref r :: L) st μ Q = Ev d 59 60 (.ref r :: L) (.ref r :: st) μ Q := e_aload_n (by decide +kernel : decode (bOf 59) 59 = .ok (.aload_n 0, 1)) rfl
theorem x_59_60 (h : kd t r = 4) : Ev d 59 60 L (.ref r :: st) (t, V, A, P) Q = Ev d 59 63 L (V r 8 :: st) (t, V, A, P) Q := e_getf (by decide +kernel : decode (bOf 59) 60 = .ok (.getfield 51, 3)) (by decide +kernel) (by decide +kernel) h
theorem x_59_63 : Ev d 59 63 (.ref r :: L) st μ Q = Ev d 59 64 (.ref r :: L) (.ref r :: st) μ Q := e_aload_n (by decide +kernel : decode (bOf 59) 63 = .ok (.aload_n 0, 1)) rfl
theorem x_59_64 (h : kd t r = 4) : Ev d 59 64 L (.ref r :: st) (t, V, A, P) Q = Ev d 59 67 L (V r 0 :: st) (t, V, A, P) Q := e_getf (by decide +kernel : decode (bOf 59) 64 = .ok (.getfield 12, 3)) (by decide +kernel) (by decide +kernel) h
theorem x_59_67 : Ev d 59 67 (a0 :: a1 :: a2 :: a3 :: a4 :: a5 :: .int x :: L) st μ Q = Ev d 59 69 (a0 :: a1 :: a2 :: a3 :: a4 :: a5 :: .int x :: L) (.int x :: st) μ Q := e_iload (by decide +kernel : decode (bOf 59) 67 = .ok (.iload 6, 2)) rfl
theorem x_59_69 (h : kd t r = 3) : Ev d 59 69 L [b0, .ref r, s0] (t, V, A, P) Q = Call d 37 [.ref r, b0] (t, V, A, P) (fun v μ1 => Ev d 59 72 L (v.toList ++ [s0]) μ1 Q) := e_callV (a := [b0]) (r := [s0]) (by decide +kernel : decode (bOf 59) 69 = .ok (.invokevirtual 87, 3)) (by decide +kernel) (by decide +kernel) (by decide +kernel) (by omega) rfl (by simp) (by decide +kernel) h
theorem x_59_72 (h : kd t r = 2) : Ev d 59 72 L [b0, .ref r] (t, V, A, P) Q = Call d 26 [.ref r, b0] (t, V, A, P) (fun v μ1 => Ev d 59 75 L (v.toList ++ []) μ1 Q) := e_callV (a := [b0]) (r := []) (by decide +kernel : decode (bOf 59) 72 = .ok (.invokevirtual 181, 3)) (by decide +kernel) (by decide +kernel) (by decide +kernel) (by omega) rfl (by simp) (by decide +kernel) h
theorem x_59_75 : Ev d 59 75 (.ref r :: L) st μ Q = Ev d 59 76 (.ref r :: L) (.ref r :: st) μ Q := e_aload_n (by decide +kernel : decode (bOf 59) 75 = .ok (.aload_n 0, 1)) rfl
theorem x_59_76 (h : kd t r = 4) : Ev d 59 76 L (.ref r :: st) (t, V, A, P) Q = Ev d 59 79 L (V r 8 :: st) (t, V, A, P) Q := e_getf (by decide +kernel : decode (bOf 59) 76 = .ok (.getfield 51, 3)) (by decide +kernel) (by decide +kernel) h
theorem x_59_79 (h : kd t r = 2) : Ev d 59 79 L (.ref r :: st) (t, V, A, P) Q = Ev d 59 82 L (V r 1 :: st) (t, V, A, P) Q := e_getf (by decide +kernel : decode (bOf 59) 79 = .ok (.getfield 184, 3)) (by decide +kernel) (by decide +kernel) h
theorem x_59_82 (h : a6.category = 1) : Ev d 59 82 (a0 :: a1 :: a2 :: a3 :: a4 :: a5 :: a6 :: a7 :: L) (.int x :: st) μ Q = Ev d 59 84 (a0 :: a1 :: a2 :: a3 :: a4 :: a5 :: a6 :: .int x :: L) st μ Q := e_istore (by decide +kernel : decode (bOf 59) 82 = .ok (.istore 7, 2)) (by show stOK _ 7 = true; simp [stOK, h])
theorem x_59_84 : Ev d 59 84 (a0 :: a1 :: a2 :: a3 :: a4 :: a5 :: a6 :: .int x :: L) st μ Q = Ev d 59 86 (a0 :: a1 :: a2 :: a3 :: a4 :: a5 :: a6 :: .int x :: L) (.int x :: st) μ Q := e_iload (by decide +kernel : decode (bOf 59) 84 = .ok (.iload 7, 2)) rfl
theorem x_59_86 : Ev d 59 86 (a0 :: .int x :: L) st μ Q = Ev d 59 87 (a0 :: .int x :: L) (.int x :: st) μ Q := e_iload_n (by decide +kernel : decode (bOf 59) 86 = .ok (.iload_n 1, 1)) rfl
theorem x_59_87 : Ev d 59 87 L (.int y :: .int x :: st) μ Q = if x = y then Ev d 59 90 L st μ Q else Ev d 59 96 L st μ Q := e_icmp_ne (by decide +kernel : decode (bOf 59) 87 = .ok (.if_icmp .ne 9, 3)) (by omega)
theorem x_59_90 (h : a2.category = 1) : Ev d 59 90 (a0 :: a1 :: a2 :: .int x :: L) st μ Q = Ev d 59 93 (a0 :: a1 :: a2 :: .int (x + (iI 1)) :: L) st μ Q := e_iinc (by decide +kernel : decode (bOf 59) 90 = .ok (.iinc 3 1, 3)) rfl (by simp [stOK, h])
theorem x_59_93 : Ev d 59 93 L st μ Q = Ev d 59 147 L st μ Q := e_goto (by decide +kernel : decode (bOf 59) 93 = .ok (.goto 54, 3)) (by omega)
theorem x_59_96 : Ev d 59 96 (a0 :: a1 :: a2 :: a3 :: a4 :: a5 :: a6 :: .int x :: L) st μ Q = Ev d 59 98 (a0 :: a1 :: a2 :: a3 :: a4 :: a5 :: a6 :: .int x :: L) (.int x :: st) μ Q := e_iload (by decide +kernel : decode (bOf 59) 96 = .ok (.iload 7, 2)) rfl
theorem x_59_98 : Ev d 59 98 (a0 :: .int x :: L) st μ Q = Ev d 59 99 (a0 :: .int x :: L) (.int x :: st) μ Q := e_iload_n (by decide +kernel : decode (bOf 59) 98 = .ok (.iload_n 1, 1)) rfl
theorem x_59_99 : Ev d 59 99 L (.int y :: .int x :: st) μ Q = if y < x then Ev d 59 102 L st μ Q else Ev d 59 123 L st μ Q := e_icmp_le (by decide +kernel : decode (bOf 59) 99 = .ok (.if_icmp .le 24, 3)) (by omega)
theorem x_59_102 : Ev d 59 102 (a0 :: a1 :: a2 :: a3 :: .int x :: L) st μ Q = Ev d 59 104 (a0 :: a1 :: a2 :: a3 :: .int x :: L) (.int x :: st) μ Q := e_iload (by decide +kernel : decode (bOf 59) 102 = .ok (.iload 4, 2)) rfl
theorem x_59_104 : Ev d 59 104 L st μ Q = Ev d 59 106 L (.int (iI (-2000000)) :: st) μ Q := e_ldc (by decide +kernel : decode (bOf 59) 104 = .ok (.ldc 174, 2)) (by decide +kernel)
theorem x_59_106 : Ev d 59 106 L (.int y :: .int x :: st) μ Q = if x = y then Ev d 59 116 L st μ Q else Ev d 59 109 L st μ Q := e_icmp_eq (by decide +kernel : decode (bOf 59) 106 = .ok (.if_icmp .eq 10, 3)) (by omega)
theorem x_59_109 : Ev d 59 109 (a0 :: a1 :: a2 :: a3 :: a4 :: a5 :: a6 :: .int x :: L) st μ Q = Ev d 59 111 (a0 :: a1 :: a2 :: a3 :: a4 :: a5 :: a6 :: .int x :: L) (.int x :: st) μ Q := e_iload (by decide +kernel : decode (bOf 59) 109 = .ok (.iload 7, 2)) rfl
theorem x_59_111 : Ev d 59 111 (a0 :: a1 :: a2 :: a3 :: .int x :: L) st μ Q = Ev d 59 113 (a0 :: a1 :: a2 :: a3 :: .int x :: L) (.int x :: st) μ Q := e_iload (by decide +kernel : decode (bOf 59) 111 = .ok (.iload 4, 2)) rfl
theorem x_59_113 : Ev d 59 113 L (.int y :: .int x :: st) μ Q = if x < y then Ev d 59 116 L st μ Q else Ev d 59 123 L st μ Q := e_icmp_ge (by decide +kernel : decode (bOf 59) 113 = .ok (.if_icmp .ge 10, 3)) (by omega)
theorem x_59_116 : Ev d 59 116 (a0 :: a1 :: a2 :: a3 :: a4 :: a5 :: a6 :: .int x :: L) st μ Q = Ev d 59 118 (a0 :: a1 :: a2 :: a3 :: a4 :: a5 :: a6 :: .int x :: L) (.int x :: st) μ Q := e_iload (by decide +kernel : decode (bOf 59) 116 = .ok (.iload 7, 2)) rfl
theorem x_59_118 (h : a3.category = 1) : Ev d 59 118 (a0 :: a1 :: a2 :: a3 :: a4 :: L) (.int x :: st) μ Q = Ev d 59 120 (a0 :: a1 :: a2 :: a3 :: .int x :: L) st μ Q := e_istore (by decide +kernel : decode (bOf 59) 118 = .ok (.istore 4, 2)) (by show stOK _ 4 = true; simp [stOK, h])
theorem x_59_120 : Ev d 59 120 L st μ Q = Ev d 59 147 L st μ Q := e_goto (by decide +kernel : decode (bOf 59) 120 = .ok (.goto 27, 3)) (by omega)
theorem x_59_123 : Ev d 59 123 (a0 :: a1 :: a2 :: a3 :: a4 :: a5 :: a6 :: .int x :: L) st μ Q = Ev d 59 125 (a0 :: a1 :: a2 :: a3 :: a4 :: a5 :: a6 :: .int x :: L) (.int x :: st) μ Q := e_iload (by decide +kernel : decode (bOf 59) 123 = .ok (.iload 7, 2)) rfl
theorem x_59_125 : Ev d 59 125 (a0 :: .int x :: L) st μ Q = Ev d 59 126 (a0 :: .int x :: L) (.int x :: st) μ Q := e_iload_n (by decide +kernel : decode (bOf 59) 125 = .ok (.iload_n 1, 1)) rfl
theorem x_59_126 : Ev d 59 126 L (.int y :: .int x :: st) μ Q = if x < y then Ev d 59 129 L st μ Q else Ev d 59 147 L st μ Q := e_icmp_ge (by decide +kernel : decode (bOf 59) 126 = .ok (.if_icmp .ge 21, 3)) (by omega)
theorem x_59_129 : Ev d 59 129 (a0 :: a1 :: a2 :: a3 :: a4 :: .int x :: L) st μ Q = Ev d 59 131 (a0 :: a1 :: a2 :: a3 :: a4 :: .int x :: L) (.int x :: st) μ Q := e_iload (by decide +kernel : decode (bOf 59) 129 = .ok (.iload 5, 2)) rfl
theorem x_59_131 : Ev d 59 131 L st μ Q = Ev d 59 133 L (.int (iI (-2000000)) :: st) μ Q := e_ldc (by decide +kernel : decode (bOf 59) 131 = .ok (.ldc 174, 2)) (by decide +kernel)
theorem x_59_133 : Ev d 59 133 L (.int y :: .int x :: st) μ Q = if x = y then Ev d 59 143 L st μ Q else Ev d 59 136 L st μ Q := e_icmp_eq (by decide +kernel : decode (bOf 59) 133 = .ok (.if_icmp .eq 10, 3)) (by omega)
theorem x_59_136 : Ev d 59 136 (a0 :: a1 :: a2 :: a3 :: a4 :: a5 :: a6 :: .int x :: L) st μ Q = Ev d 59 138 (a0 :: a1 :: a2 :: a3 :: a4 :: a5 :: a6 :: .int x :: L) (.int x :: st) μ Q := e_iload (by decide +kernel : decode (bOf 59) 136 = .ok (.iload 7, 2)) rfl
theorem x_59_138 : Ev d 59 138 (a0 :: a1 :: a2 :: a3 :: a4 :: .int x :: L) st μ Q = Ev d 59 140 (a0 :: a1 :: a2 :: a3 :: a4 :: .int x :: L) (.int x :: st) μ Q := e_iload (by decide +kernel : decode (bOf 59) 138 = .ok (.iload 5, 2)) rfl
theorem x_59_140 : Ev d 59 140 L (.int y :: .int x :: st) μ Q = if y < x then Ev d 59 143 L st μ Q else Ev d 59 147 L st μ Q := e_icmp_le (by decide +kernel : decode (bOf 59) 140 = .ok (.if_icmp .le 7, 3)) (by omega)
theorem x_59_143 : Ev d 59 143 (a0 :: a1 :: a2 :: a3 :: a4 :: a5 :: a6 :: .int x :: L) st μ Q = Ev d 59 145 (a0 :: a1 :: a2 :: a3 :: a4 :: a5 :: a6 :: .int x :: L) (.int x :: st) μ Q := e_iload (by decide +kernel : decode (bOf 59) 143 = .ok (.iload 7, 2)) rfl
theorem x_59_145 (h : a4.category = 1) : Ev d 59 145 (a0 :: a1 :: a2 :: a3 :: a4 :: a5 :: L) (.int x :: st) μ Q = Ev d 59 147 (a0 :: a1 :: a2 :: a3 :: a4 :: .int x :: L) st μ Q := e_istore (by decide +kernel : decode (bOf 59) 145 = .ok (.istore 5, 2)) (by show stOK _ 5 = true; simp [stOK, h])
theorem x_59_147 (h : a5.category = 1) : Ev d 59 147 (a0 :: a1 :: a2 :: a3 :: a4 :: a5 :: .int x :: L) st μ Q = Ev d 59 150 (a0 :: a1 :: a2 :: a3 :: a4 :: a5 :: .int (x + (iI 1)) :: L) st μ Q := e_iinc (by decide +kernel : decode (bOf 59) 147 = .ok (.iinc 6 1, 3)) rfl (by simp [stOK, h])
theorem x_59_150 : Ev d 59 150 L st μ Q = Ev d 59 47 L st μ Q := e_goto (by decide +kernel : decode (bOf 59) 150 = .ok (.goto (-103), 3)) (by omega)
theorem x_59_153 : Ev d 59 153 (a0 :: a1 :: .int x :: L) st μ Q = Ev d 59 154 (a0 :: a1 :: .int x :: L) (.int x :: st) μ Q := e_iload_n (by decide +kernel : decode (bOf 59) 153 = .ok (.iload_n 2, 1)) rfl
theorem x_59_154 : Ev d 59 154 L (.int x :: st) μ Q = if x = iI 0 then Ev d 59 157 L st μ Q else Ev d 59 159 L st μ Q := e_if_ne (by decide +kernel : decode (bOf 59) 154 = .ok (.ifCond .ne 5, 3)) (by omega)
theorem x_59_157 : Ev d 59 157 (a0 :: a1 :: a2 :: .int x :: L) st μ Q = Ev d 59 158 (a0 :: a1 :: a2 :: .int x :: L) (.int x :: st) μ Q := e_iload_n (by decide +kernel : decode (bOf 59) 157 = .ok (.iload_n 3, 1)) rfl
theorem x_59_158 : Ev d 59 158 L [.int x] μ Q = Q (some (.int x)) μ := e_iret (by decide +kernel : decode (bOf 59) 158 = .ok (.ireturn, 1)) (by decide +kernel)
theorem x_59_159 : Ev d 59 159 (a0 :: a1 :: .int x :: L) st μ Q = Ev d 59 160 (a0 :: a1 :: .int x :: L) (.int x :: st) μ Q := e_iload_n (by decide +kernel : decode (bOf 59) 159 = .ok (.iload_n 2, 1)) rfl
theorem x_59_160 : Ev d 59 160 L st μ Q = Ev d 59 161 L (.int (iI 1) :: st) μ Q := e_iconst (by decide +kernel : decode (bOf 59) 160 = .ok (.iconst 1, 1))
theorem x_59_161 : Ev d 59 161 L (.int y :: .int x :: st) μ Q = if x = y then Ev d 59 164 L st μ Q else Ev d 59 169 L st μ Q := e_icmp_ne (by decide +kernel : decode (bOf 59) 161 = .ok (.if_icmp .ne 8, 3)) (by omega)
theorem x_59_164 : Ev d 59 164 (a0 :: a1 :: a2 :: a3 :: .int x :: L) st μ Q = Ev d 59 166 (a0 :: a1 :: a2 :: a3 :: .int x :: L) (.int x :: st) μ Q := e_iload (by decide +kernel : decode (bOf 59) 164 = .ok (.iload 4, 2)) rfl
theorem x_59_166 : Ev d 59 166 L st μ Q = Ev d 59 171 L st μ Q := e_goto (by decide +kernel : decode (bOf 59) 166 = .ok (.goto 5, 3)) (by omega)
theorem x_59_169 : Ev d 59 169 (a0 :: a1 :: a2 :: a3 :: a4 :: .int x :: L) st μ Q = Ev d 59 171 (a0 :: a1 :: a2 :: a3 :: a4 :: .int x :: L) (.int x :: st) μ Q := e_iload (by decide +kernel : decode (bOf 59) 169 = .ok (.iload 5, 2)) rfl
theorem x_59_171 : Ev d 59 171 L [.int x] μ Q = Q (some (.int x)) μ := e_iret (by decide +kernel : decode (bOf 59) 171 = .ok (.ireturn, 1)) (by decide +kernel)
theorem c_60 : Call (d + 1) 60 [.ref r0, .int i1, .int i2] μ Q = Ev d 60 0 [.ref r0, .int i1, .int i2] [] μ Q := call_ev rfl rfl
theorem x_60_0 : Ev d 60 0 (a0 :: .int x :: L) st μ Q = Ev d 60 1 (a0 :: .int x :: L) (.int x :: st) μ Q := e_iload_n (by decide +kernel : decode (bOf 60) 0 = .ok (.iload_n 1, 1)) rfl
theorem x_60_1 : Ev d 60 1 L st μ Q = Ev d 60 2 L (.int (iI 1) :: st) μ Q := e_iconst (by decide +kernel : decode (bOf 60) 1 = .ok (.iconst 1, 1))
theorem x_60_2 : Ev d 60 2 L (.int y :: .int x :: st) μ Q = if x < y then Ev d 60 16 L st μ Q else Ev d 60 5 L st μ Q := e_icmp_lt (by decide +kernel : decode (bOf 60) 2 = .ok (.if_icmp .lt 14, 3)) (by omega)
theorem x_60_5 : Ev d 60 5 (a0 :: .int x :: L) st μ Q = Ev d 60 6 (a0 :: .int x :: L) (.int x :: st) μ Q := e_iload_n (by decide +kernel : decode (bOf 60) 5 = .ok (.iload_n 1, 1)) rfl
theorem x_60_6 : Ev d 60 6 L st μ Q = Ev d 60 8 L (.int (iI 6) :: st) μ Q := e_bipush (by decide +kernel : decode (bOf 60) 6 = .ok (.bipush 6, 2)) (by decide +kernel)
theorem x_60_8 : Ev d 60 8 L (.int y :: .int x :: st) μ Q = if y < x then Ev d 60 16 L st μ Q else Ev d 60 11 L st μ Q := e_icmp_gt (by decide +kernel : decode (bOf 60) 8 = .ok (.if_icmp .gt 8, 3)) (by omega)
theorem x_60_11 : Ev d 60 11 (a0 :: a1 :: .int x :: L) st μ Q = Ev d 60 12 (a0 :: a1 :: .int x :: L) (.int x :: st) μ Q := e_iload_n (by decide +kernel : decode (bOf 60) 11 = .ok (.iload_n 2, 1)) rfl
theorem x_60_12 : Ev d 60 12 L st μ Q = Ev d 60 13 L (.int (iI (-1)) :: st) μ Q := e_iconst (by decide +kernel : decode (bOf 60) 12 = .ok (.iconst (-1), 1))
theorem x_60_13 : Ev d 60 13 L (.int y :: .int x :: st) μ Q = if x < y then Ev d 60 16 L st μ Q else Ev d 60 18 L st μ Q := e_icmp_ge (by decide +kernel : decode (bOf 60) 13 = .ok (.if_icmp .ge 5, 3)) (by omega)
theorem x_60_16 : Ev d 60 16 L st μ Q = Ev d 60 17 L (.int (iI (-1)) :: st) μ Q := e_iconst (by decide +kernel : decode (bOf 60) 16 = .ok (.iconst (-1), 1))
theorem x_60_17 : Ev d 60 17 L [.int x] μ Q = Q (some (.int x)) μ := e_iret (by decide +kernel : decode (bOf 60) 17 = .ok (.ireturn, 1)) (by decide +kernel)
theorem x_60_18 : Ev d 60 18 (.ref r :: L) st μ Q = Ev d 60 19 (.ref r :: L) (.ref r :: st) μ Q := e_aload_n (by decide +kernel : decode (bOf 60) 18 = .ok (.aload_n 0, 1)) rfl
theorem x_60_19 (h : kd t r = 4) : Ev d 60 19 L (.ref r :: st) (t, V, A, P) Q = Ev d 60 22 L (V r 0 :: st) (t, V, A, P) Q := e_getf (by decide +kernel : decode (bOf 60) 19 = .ok (.getfield 12, 3)) (by decide +kernel) (by decide +kernel) h
theorem x_60_22 (h : kd t r = 3) : Ev d 60 22 L (.ref r :: st) (t, V, A, P) Q = Ev d 60 25 L (V r 3 :: st) (t, V, A, P) Q := e_getf (by decide +kernel : decode (bOf 60) 22 = .ok (.getfield 63, 3)) (by decide +kernel) (by decide +kernel) h
theorem x_60_25 : Ev d 60 25 (a0 :: .int x :: L) st μ Q = Ev d 60 26 (a0 :: .int x :: L) (.int x :: st) μ Q := e_iload_n (by decide +kernel : decode (bOf 60) 25 = .ok (.iload_n 1, 1)) rfl
theorem x_60_26 : Ev d 60 26 L (.int y :: .int x :: st) μ Q = if x < y then Ev d 60 29 L st μ Q else Ev d 60 32 L st μ Q := e_icmp_ge (by decide +kernel : decode (bOf 60) 26 = .ok (.if_icmp .ge 6, 3)) (by omega)
theorem x_60_29 : Ev d 60 29 L st μ Q = Ev d 60 31 L (.int (iI (-2)) :: st) μ Q := e_bipush (by decide +kernel : decode (bOf 60) 29 = .ok (.bipush (-2), 2)) (by decide +kernel)
theorem x_60_31 : Ev d 60 31 L [.int x] μ Q = Q (some (.int x)) μ := e_iret (by decide +kernel : decode (bOf 60) 31 = .ok (.ireturn, 1)) (by decide +kernel)
theorem x_60_32 : Ev d 60 32 (a0 :: a1 :: .int x :: L) st μ Q = Ev d 60 33 (a0 :: a1 :: .int x :: L) (.int x :: st) μ Q := e_iload_n (by decide +kernel : decode (bOf 60) 32 = .ok (.iload_n 2, 1)) rfl
theorem x_60_33 : Ev d 60 33 (a0 :: .int x :: L) st μ Q = Ev d 60 34 (a0 :: .int x :: L) (.int x :: st) μ Q := e_iload_n (by decide +kernel : decode (bOf 60) 33 = .ok (.iload_n 1, 1)) rfl
theorem x_60_34 : Ev d 60 34 L (.int y :: .int x :: st) μ Q = if x < y then Ev d 60 40 L st μ Q else Ev d 60 37 L st μ Q := e_icmp_lt (by decide +kernel : decode (bOf 60) 34 = .ok (.if_icmp .lt 6, 3)) (by omega)
theorem x_60_37 : Ev d 60 37 L st μ Q = Ev d 60 39 L (.int (iI (-9)) :: st) μ Q := e_bipush (by decide +kernel : decode (bOf 60) 37 = .ok (.bipush (-9), 2)) (by decide +kernel)
theorem x_60_39 : Ev d 60 39 L [.int x] μ Q = Q (some (.int x)) μ := e_iret (by decide +kernel : decode (bOf 60) 39 = .ok (.ireturn, 1)) (by decide +kernel)
theorem x_60_40 : Ev d 60 40 (.ref r :: L) st μ Q = Ev d 60 41 (.ref r :: L) (.ref r :: st) μ Q := e_aload_n (by decide +kernel : decode (bOf 60) 40 = .ok (.aload_n 0, 1)) rfl
theorem x_60_41 (h : kd t r = 4) : Ev d 60 41 L (.ref r :: st) (t, V, A, P) Q = Ev d 60 44 L (V r 7 :: st) (t, V, A, P) Q := e_getf (by decide +kernel : decode (bOf 60) 41 = .ok (.getfield 44, 3)) (by decide +kernel) (by decide +kernel) h
theorem x_60_44 : Ev d 60 44 (.ref r :: L) st μ Q = Ev d 60 45 (.ref r :: L) (.ref r :: st) μ Q := e_aload_n (by decide +kernel : decode (bOf 60) 44 = .ok (.aload_n 0, 1)) rfl
theorem x_60_45 (h : kd t r = 4) : Ev d 60 45 L (.ref r :: st) (t, V, A, P) Q = Ev d 60 48 L (V r 0 :: st) (t, V, A, P) Q := e_getf (by decide +kernel : decode (bOf 60) 45 = .ok (.getfield 12, 3)) (by decide +kernel) (by decide +kernel) h
theorem x_60_48 : Ev d 60 48 (a0 :: .int x :: L) st μ Q = Ev d 60 49 (a0 :: .int x :: L) (.int x :: st) μ Q := e_iload_n (by decide +kernel : decode (bOf 60) 48 = .ok (.iload_n 1, 1)) rfl
theorem x_60_49 (h : kd t r = 0) : Ev d 60 49 L [b1, b0, .ref r] (t, V, A, P) Q = Call d 8 [.ref r, b0, b1] (t, V, A, P) (fun v μ1 => Ev d 60 52 L (v.toList ++ []) μ1 Q) := e_callV (a := [b0, b1]) (r := []) (by decide +kernel : decode (bOf 60) 49 = .ok (.invokevirtual 187, 3)) (by decide +kernel) (by decide +kernel) (by decide +kernel) (by omega) rfl (by simp) (by decide +kernel) h
theorem x_60_52 : Ev d 60 52 (a0 :: a1 :: .int x :: L) st μ Q = Ev d 60 53 (a0 :: a1 :: .int x :: L) (.int x :: st) μ Q := e_iload_n (by decide +kernel : decode (bOf 60) 52 = .ok (.iload_n 2, 1)) rfl
theorem x_60_53 : Ev d 60 53 L st μ Q = Ev d 60 54 L (.int (iI (-1)) :: st) μ Q := e_iconst (by decide +kernel : decode (bOf 60) 53 = .ok (.iconst (-1), 1))
theorem x_60_54 : Ev d 60 54 L (.int y :: .int x :: st) μ Q = if x = y then Ev d 60 57 L st μ Q else Ev d 60 67 L st μ Q := e_icmp_ne (by decide +kernel : decode (bOf 60) 54 = .ok (.if_icmp .ne 13, 3)) (by omega)
theorem x_60_57 : Ev d 60 57 (.ref r :: L) st μ Q = Ev d 60 58 (.ref r :: L) (.ref r :: st) μ Q := e_aload_n (by decide +kernel : decode (bOf 60) 57 = .ok (.aload_n 0, 1)) rfl
theorem x_60_58 (h : kd t r = 4) : Ev d 60 58 L (.ref r :: st) (t, V, A, P) Q = Ev d 60 61 L (V r 7 :: st) (t, V, A, P) Q := e_getf (by decide +kernel : decode (bOf 60) 58 = .ok (.getfield 44, 3)) (by decide +kernel) (by decide +kernel) h
theorem x_60_61 (h : kd t r = 0) : Ev d 60 61 L (.ref r :: st) (t, V, A, P) Q = Ev d 60 64 L (V r 5 :: st) (t, V, A, P) Q := e_getf (by decide +kernel : decode (bOf 60) 61 = .ok (.getfield 191, 3)) (by decide +kernel) (by decide +kernel) h
theorem x_60_64 : Ev d 60 64 L st μ Q = Ev d 60 75 L st μ Q := e_goto (by decide +kernel : decode (bOf 60) 64 = .ok (.goto 11, 3)) (by omega)
theorem x_60_67 : Ev d 60 67 (.ref r :: L) st μ Q = Ev d 60 68 (.ref r :: L) (.ref r :: st) μ Q := e_aload_n (by decide +kernel : decode (bOf 60) 67 = .ok (.aload_n 0, 1)) rfl
theorem x_60_68 (h : kd t r = 4) : Ev d 60 68 L (.ref r :: st) (t, V, A, P) Q = Ev d 60 71 L (V r 7 :: st) (t, V, A, P) Q := e_getf (by decide +kernel : decode (bOf 60) 68 = .ok (.getfield 44, 3)) (by decide +kernel) (by decide +kernel) h
theorem x_60_71 : Ev d 60 71 (a0 :: a1 :: .int x :: L) st μ Q = Ev d 60 72 (a0 :: a1 :: .int x :: L) (.int x :: st) μ Q := e_iload_n (by decide +kernel : decode (bOf 60) 71 = .ok (.iload_n 2, 1)) rfl
theorem x_60_72 (h : kd t r = 0) : Ev d 60 72 L [b0, .ref r] (t, V, A, P) Q = Call d 10 [.ref r, b0] (t, V, A, P) (fun v μ1 => Ev d 60 75 L (v.toList ++ []) μ1 Q) := e_callV (a := [b0]) (r := []) (by decide +kernel : decode (bOf 60) 72 = .ok (.invokevirtual 194, 3)) (by decide +kernel) (by decide +kernel) (by decide +kernel) (by omega) rfl (by simp) (by decide +kernel) h
theorem x_60_75 : Ev d 60 75 L [.int x] μ Q = Q (some (.int x)) μ := e_iret (by decide +kernel : decode (bOf 60) 75 = .ok (.ireturn, 1)) (by decide +kernel)
theorem c_61 : Call (d + 1) 61 [.ref r0, .int i1] μ Q = Ev d 61 0 [.ref r0, .int i1, .null, .null, .null, .null] [] μ Q := call_ev rfl rfl
theorem x_61_0 : Ev d 61 0 L st μ Q = Ev d 61 1 L (.long (Int64.ofInt 0) :: st) μ Q := e_lconst (by decide +kernel : decode (bOf 61) 0 = .ok (.lconst 0, 1))
theorem x_61_1 (h : a1.category = 1) (h2 : b0.category = 1) : Ev d 61 1 (a0 :: a1 :: a2 :: b0 :: L) (.long w :: st) μ Q = Ev d 61 2 (a0 :: a1 :: .long w :: .null :: L) st μ Q := e_lstore_n (by decide +kernel : decode (bOf 61) 1 = .ok (.lstore_n 2, 1)) (by show stOK _ 2 = true ∧ 2 + 1 < _ ∧ (List.getD _ (2 + 1) Value.null).category = 1; simp [stOK, h, h2])
theorem x_61_2 : Ev d 61 2 (.ref r :: L) st μ Q = Ev d 61 3 (.ref r :: L) (.ref r :: st) μ Q := e_aload_n (by decide +kernel : decode (bOf 61) 2 = .ok (.aload_n 0, 1)) rfl
theorem x_61_3 (h : kd t r = 4) : Ev d 61 3 L (.ref r :: st) (t, V, A, P) Q = Ev d 61 6 L (V r 8 :: st) (t, V, A, P) Q := e_getf (by decide +kernel : decode (bOf 61) 3 = .ok (.getfield 51, 3)) (by decide +kernel) (by decide +kernel) h
theorem x_61_6 : Ev d 61 6 L st μ Q = Ev d 61 7 L (.int (iI (-1)) :: st) μ Q := e_iconst (by decide +kernel : decode (bOf 61) 6 = .ok (.iconst (-1), 1))
theorem x_61_7 (h : kd t r = 2) : Ev d 61 7 L [b0, .ref r] (t, V, A, P) Q = Call d 24 [.ref r, b0] (t, V, A, P) (fun v μ1 => Ev d 61 10 L (v.toList ++ []) μ1 Q) := e_callV (a := [b0]) (r := []) (by decide +kernel : decode (bOf 61) 7 = .ok (.invokevirtual 175, 3)) (by decide +kernel) (by decide +kernel) (by decide +kernel) (by omega) rfl (by simp) (by decide +kernel) h
theorem x_61_10 : Ev d 61 10 L st μ Q = Ev d 61 11 L (.int (iI 0) :: st) μ Q := e_iconst (by decide +kernel : decode (bOf 61) 10 = .ok (.iconst 0, 1))
theorem x_61_11 (h : a3.category = 1) : Ev d 61 11 (a0 :: a1 :: a2 :: a3 :: a4 :: L) (.int x :: st) μ Q = Ev d 61 13 (a0 :: a1 :: a2 :: a3 :: .int x :: L) st μ Q := e_istore (by decide +kernel : decode (bOf 61) 11 = .ok (.istore 4, 2)) (by show stOK _ 4 = true; simp [stOK, h])
theorem x_61_13 : Ev d 61 13 (a0 :: a1 :: a2 :: a3 :: .int x :: L) st μ Q = Ev d 61 15 (a0 :: a1 :: a2 :: a3 :: .int x :: L) (.int x :: st) μ Q := e_iload (by decide +kernel : decode (bOf 61) 13 = .ok (.iload 4, 2)) rfl
theorem x_61_15 : Ev d 61 15 (.ref r :: L) st μ Q = Ev d 61 16 (.ref r :: L) (.ref r :: st) μ Q := e_aload_n (by decide +kernel : decode (bOf 61) 15 = .ok (.aload_n 0, 1)) rfl
theorem x_61_16 (h : kd t r = 4) : Ev d 61 16 L (.ref r :: st) (t, V, A, P) Q = Ev d 61 19 L (V r 0 :: st) (t, V, A, P) Q := e_getf (by decide +kernel : decode (bOf 61) 16 = .ok (.getfield 12, 3)) (by decide +kernel) (by decide +kernel) h
theorem x_61_19 (h : kd t r = 3) : Ev d 61 19 L [.ref r, s0] (t, V, A, P) Q = Call d 35 [.ref r] (t, V, A, P) (fun v μ1 => Ev d 61 22 L (v.toList ++ [s0]) μ1 Q) := e_callV (a := []) (r := [s0]) (by decide +kernel : decode (bOf 61) 19 = .ok (.invokevirtual 178, 3)) (by decide +kernel) (by decide +kernel) (by decide +kernel) (by omega) rfl (by simp) (by decide +kernel) h
theorem x_61_22 : Ev d 61 22 L (.int y :: .int x :: st) μ Q = if x < y then Ev d 61 25 L st μ Q else Ev d 61 64 L st μ Q := e_icmp_ge (by decide +kernel : decode (bOf 61) 22 = .ok (.if_icmp .ge 42, 3)) (by omega)
theorem x_61_25 : Ev d 61 25 (.ref r :: L) st μ Q = Ev d 61 26 (.ref r :: L) (.ref r :: st) μ Q := e_aload_n (by decide +kernel : decode (bOf 61) 25 = .ok (.aload_n 0, 1)) rfl
theorem x_61_26 (h : kd t r = 4) : Ev d 61 26 L (.ref r :: st) (t, V, A, P) Q = Ev d 61 29 L (V r 8 :: st) (t, V, A, P) Q := e_getf (by decide +kernel : decode (bOf 61) 26 = .ok (.getfield 51, 3)) (by decide +kernel) (by decide +kernel) h
theorem x_61_29 : Ev d 61 29 (.ref r :: L) st μ Q = Ev d 61 30 (.ref r :: L) (.ref r :: st) μ Q := e_aload_n (by decide +kernel : decode (bOf 61) 29 = .ok (.aload_n 0, 1)) rfl
theorem x_61_30 (h : kd t r = 4) : Ev d 61 30 L (.ref r :: st) (t, V, A, P) Q = Ev d 61 33 L (V r 0 :: st) (t, V, A, P) Q := e_getf (by decide +kernel : decode (bOf 61) 30 = .ok (.getfield 12, 3)) (by decide +kernel) (by decide +kernel) h
theorem x_61_33 : Ev d 61 33 (a0 :: a1 :: a2 :: a3 :: .int x :: L) st μ Q = Ev d 61 35 (a0 :: a1 :: a2 :: a3 :: .int x :: L) (.int x :: st) μ Q := e_iload (by decide +kernel : decode (bOf 61) 33 = .ok (.iload 4, 2)) rfl
theorem x_61_35 (h : kd t r = 3) : Ev d 61 35 L [b0, .ref r, s0] (t, V, A, P) Q = Call d 37 [.ref r, b0] (t, V, A, P) (fun v μ1 => Ev d 61 38 L (v.toList ++ [s0]) μ1 Q) := e_callV (a := [b0]) (r := [s0]) (by decide +kernel : decode (bOf 61) 35 = .ok (.invokevirtual 87, 3)) (by decide +kernel) (by decide +kernel) (by decide +kernel) (by omega) rfl (by simp) (by decide +kernel) h
theorem x_61_38 (h : kd t r = 2) : Ev d 61 38 L [b0, .ref r] (t, V, A, P) Q = Call d 26 [.ref r, b0] (t, V, A, P) (fun v μ1 => Ev d 61 41 L (v.toList ++ []) μ1 Q) := e_callV (a := [b0]) (r := []) (by decide +kernel : decode (bOf 61) 38 = .ok (.invokevirtual 181, 3)) (by decide +kernel) (by decide +kernel) (by decide +kernel) (by omega) rfl (by simp) (by decide +kernel) h
theorem x_61_41 : Ev d 61 41 (a0 :: a1 :: .long w :: L) st μ Q = Ev d 61 42 (a0 :: a1 :: .long w :: L) (.long w :: st) μ Q := e_lload_n (by decide +kernel : decode (bOf 61) 41 = .ok (.lload_n 2, 1)) rfl
theorem x_61_42 : Ev d 61 42 (.ref r :: L) st μ Q = Ev d 61 43 (.ref r :: L) (.ref r :: st) μ Q := e_aload_n (by decide +kernel : decode (bOf 61) 42 = .ok (.aload_n 0, 1)) rfl
theorem x_61_43 (h : kd t r = 4) : Ev d 61 43 L (.ref r :: st) (t, V, A, P) Q = Ev d 61 46 L (V r 8 :: st) (t, V, A, P) Q := e_getf (by decide +kernel : decode (bOf 61) 43 = .ok (.getfield 51, 3)) (by decide +kernel) (by decide +kernel) h
theorem x_61_46 (h : kd t r = 2) : Ev d 61 46 L (.ref r :: st) (t, V, A, P) Q = Ev d 61 49 L (V r 1 :: st) (t, V, A, P) Q := e_getf (by decide +kernel : decode (bOf 61) 46 = .ok (.getfield 184, 3)) (by decide +kernel) (by decide +kernel) h
theorem x_61_49 : Ev d 61 49 L (.int x :: st) μ Q = Ev d 61 50 L (.long x.toInt64 :: st) μ Q := e_i2l (by decide +kernel : decode (bOf 61) 49 = .ok (.i2l, 1))
theorem x_61_50 : Ev d 61 50 (a0 :: a1 :: a2 :: a3 :: .int x :: L) st μ Q = Ev d 61 52 (a0 :: a1 :: a2 :: a3 :: .int x :: L) (.int x :: st) μ Q := e_iload (by decide +kernel : decode (bOf 61) 50 = .ok (.iload 4, 2)) rfl
theorem x_61_52 : Ev d 61 52 L st μ Q = Ev d 61 53 L (.int (iI 1) :: st) μ Q := e_iconst (by decide +kernel : decode (bOf 61) 52 = .ok (.iconst 1, 1))
theorem x_61_53 : Ev d 61 53 L (.int y :: .int x :: st) μ Q = Ev d 61 54 L (.int (x + y) :: st) μ Q := e_iadd (by decide +kernel : decode (bOf 61) 53 = .ok (.iadd, 1))
theorem x_61_54 : Ev d 61 54 L (.int x :: st) μ Q = Ev d 61 55 L (.long x.toInt64 :: st) μ Q := e_i2l (by decide +kernel : decode (bOf 61) 54 = .ok (.i2l, 1))
theorem x_61_55 : Ev d 61 55 L (.long z :: .long w :: st) μ Q = Ev d 61 56 L (.long (w * z) :: st) μ Q := e_lmul (by decide +kernel : decode (bOf 61) 55 = .ok (.lmul, 1))
theorem x_61_56 : Ev d 61 56 L (.long z :: .long w :: st) μ Q = Ev d 61 57 L (.long (w + z) :: st) μ Q := e_ladd (by decide +kernel : decode (bOf 61) 56 = .ok (.ladd, 1))
theorem x_61_57 (h : a1.category = 1) (h2 : b0.category = 1) : Ev d 61 57 (a0 :: a1 :: a2 :: b0 :: L) (.long w :: st) μ Q = Ev d 61 58 (a0 :: a1 :: .long w :: .null :: L) st μ Q := e_lstore_n (by decide +kernel : decode (bOf 61) 57 = .ok (.lstore_n 2, 1)) (by show stOK _ 2 = true ∧ 2 + 1 < _ ∧ (List.getD _ (2 + 1) Value.null).category = 1; simp [stOK, h, h2])
theorem x_61_58 (h : a3.category = 1) : Ev d 61 58 (a0 :: a1 :: a2 :: a3 :: .int x :: L) st μ Q = Ev d 61 61 (a0 :: a1 :: a2 :: a3 :: .int (x + (iI 1)) :: L) st μ Q := e_iinc (by decide +kernel : decode (bOf 61) 58 = .ok (.iinc 4 1, 3)) rfl (by simp [stOK, h])
theorem x_61_61 : Ev d 61 61 L st μ Q = Ev d 61 13 L st μ Q := e_goto (by decide +kernel : decode (bOf 61) 61 = .ok (.goto (-48), 3)) (by omega)
theorem x_61_64 : Ev d 61 64 (a0 :: a1 :: .long w :: L) st μ Q = Ev d 61 65 (a0 :: a1 :: .long w :: L) (.long w :: st) μ Q := e_lload_n (by decide +kernel : decode (bOf 61) 64 = .ok (.lload_n 2, 1)) rfl
theorem x_61_65 : Ev d 61 65 (a0 :: .int x :: L) st μ Q = Ev d 61 66 (a0 :: .int x :: L) (.int x :: st) μ Q := e_iload_n (by decide +kernel : decode (bOf 61) 65 = .ok (.iload_n 1, 1)) rfl
theorem x_61_66 : Ev d 61 66 L (.int x :: st) μ Q = Ev d 61 67 L (.long x.toInt64 :: st) μ Q := e_i2l (by decide +kernel : decode (bOf 61) 66 = .ok (.i2l, 1))
theorem x_61_67 : Ev d 61 67 L (.long z :: .long w :: st) μ Q = Ev d 61 68 L (.long (w * z) :: st) μ Q := e_lmul (by decide +kernel : decode (bOf 61) 67 = .ok (.lmul, 1))
theorem x_61_68 (h : a3.category = 1) (h2 : b0.category = 1) : Ev d 61 68 (a0 :: a1 :: a2 :: a3 :: a4 :: b0 :: L) (.long w :: st) μ Q = Ev d 61 70 (a0 :: a1 :: a2 :: a3 :: .long w :: .null :: L) st μ Q := e_lstore (by decide +kernel : decode (bOf 61) 68 = .ok (.lstore 4, 2)) (by show stOK _ 4 = true ∧ 4 + 1 < _ ∧ (List.getD _ (4 + 1) Value.null).category = 1; simp [stOK, h, h2])
theorem x_61_70 : Ev d 61 70 (a0 :: a1 :: a2 :: a3 :: .long w :: L) st μ Q = Ev d 61 72 (a0 :: a1 :: a2 :: a3 :: .long w :: L) (.long w :: st) μ Q := e_lload (by decide +kernel : decode (bOf 61) 70 = .ok (.lload 4, 2)) rfl
theorem x_61_72 : Ev d 61 72 L st μ Q = Ev d 61 75 L (.long (Int64.ofInt (-999999)) :: st) μ Q := e_ldc2_w (by decide +kernel : decode (bOf 61) 72 = .ok (.ldc2_w 197, 3)) (by decide +kernel)
theorem x_61_75 : Ev d 61 75 L (.long z :: .long w :: st) μ Q = Ev d 61 76 L (.int (lg_cmp w z) :: st) μ Q := e_lcmp (by decide +kernel : decode (bOf 61) 75 = .ok (.lcmp, 1))
theorem x_61_76 : Ev d 61 76 L (.int x :: st) μ Q = if x < iI 0 then Ev d 61 88 L st μ Q else Ev d 61 79 L st μ Q := e_if_lt (by decide +kernel : decode (bOf 61) 76 = .ok (.ifCond .lt 12, 3)) (by omega)
theorem x_61_79 : Ev d 61 79 (a0 :: a1 :: a2 :: a3 :: .long w :: L) st μ Q = Ev d 61 81 (a0 :: a1 :: a2 :: a3 :: .long w :: L) (.long w :: st) μ Q := e_lload (by decide +kernel : decode (bOf 61) 79 = .ok (.lload 4, 2)) rfl
theorem x_61_81 : Ev d 61 81 L st μ Q = Ev d 61 84 L (.long (Int64.ofInt (999999)) :: st) μ Q := e_ldc2_w (by decide +kernel : decode (bOf 61) 81 = .ok (.ldc2_w 199, 3)) (by decide +kernel)
theorem x_61_84 : Ev d 61 84 L (.long z :: .long w :: st) μ Q = Ev d 61 85 L (.int (lg_cmp w z) :: st) μ Q := e_lcmp (by decide +kernel : decode (bOf 61) 84 = .ok (.lcmp, 1))
theorem x_61_85 : Ev d 61 85 L (.int x :: st) μ Q = if iI 0 < x then Ev d 61 88 L st μ Q else Ev d 61 93 L st μ Q := e_if_le (by decide +kernel : decode (bOf 61) 85 = .ok (.ifCond .le 8, 3)) (by omega)
theorem x_61_88 : Ev d 61 88 L st μ Q = Ev d 61 90 L (.int (iI (-1000000)) :: st) μ Q := e_ldc (by decide +kernel : decode (bOf 61) 88 = .ok (.ldc 152, 2)) (by decide +kernel)
theorem x_61_90 : Ev d 61 90 L st μ Q = Ev d 61 96 L st μ Q := e_goto (by decide +kernel : decode (bOf 61) 90 = .ok (.goto 6, 3)) (by omega)
theorem x_61_93 : Ev d 61 93 (a0 :: a1 :: a2 :: a3 :: .long w :: L) st μ Q = Ev d 61 95 (a0 :: a1 :: a2 :: a3 :: .long w :: L) (.long w :: st) μ Q := e_lload (by decide +kernel : decode (bOf 61) 93 = .ok (.lload 4, 2)) rfl
theorem x_61_95 : Ev d 61 95 L (.long w :: st) μ Q = Ev d 61 96 L (.int w.toInt32 :: st) μ Q := e_l2i (by decide +kernel : decode (bOf 61) 95 = .ok (.l2i, 1))
theorem x_61_96 : Ev d 61 96 L [.int x] μ Q = Q (some (.int x)) μ := e_iret (by decide +kernel : decode (bOf 61) 96 = .ok (.ireturn, 1)) (by decide +kernel)
theorem c_62 : Call (d + 1) 62 [.ref r0, .int i1] μ Q = Ev d 62 0 [.ref r0, .int i1] [] μ Q := call_ev rfl rfl
theorem x_62_0 : Ev d 62 0 (a0 :: .int x :: L) st μ Q = Ev d 62 1 (a0 :: .int x :: L) (.int x :: st) μ Q := e_iload_n (by decide +kernel : decode (bOf 62) 0 = .ok (.iload_n 1, 1)) rfl
theorem x_62_1 : Ev d 62 1 L (.int x :: st) μ Q = if x < iI 0 then Ev d 62 9 L st μ Q else Ev d 62 4 L st μ Q := e_if_lt (by decide +kernel : decode (bOf 62) 1 = .ok (.ifCond .lt 8, 3)) (by omega)
theorem x_62_4 : Ev d 62 4 (a0 :: .int x :: L) st μ Q = Ev d 62 5 (a0 :: .int x :: L) (.int x :: st) μ Q := e_iload_n (by decide +kernel : decode (bOf 62) 4 = .ok (.iload_n 1, 1)) rfl
theorem x_62_5 : Ev d 62 5 L st μ Q = Ev d 62 6 L (.int (iI 2) :: st) μ Q := e_iconst (by decide +kernel : decode (bOf 62) 5 = .ok (.iconst 2, 1))
theorem x_62_6 : Ev d 62 6 L (.int y :: .int x :: st) μ Q = if x < y then Ev d 62 11 L st μ Q else Ev d 62 9 L st μ Q := e_icmp_lt (by decide +kernel : decode (bOf 62) 6 = .ok (.if_icmp .lt 5, 3)) (by omega)
theorem x_62_9 : Ev d 62 9 L st μ Q = Ev d 62 10 L (.int (iI (-1)) :: st) μ Q := e_iconst (by decide +kernel : decode (bOf 62) 9 = .ok (.iconst (-1), 1))
theorem x_62_10 : Ev d 62 10 L [.int x] μ Q = Q (some (.int x)) μ := e_iret (by decide +kernel : decode (bOf 62) 10 = .ok (.ireturn, 1)) (by decide +kernel)
theorem x_62_11 : Ev d 62 11 (.ref r :: L) st μ Q = Ev d 62 12 (.ref r :: L) (.ref r :: st) μ Q := e_aload_n (by decide +kernel : decode (bOf 62) 11 = .ok (.aload_n 0, 1)) rfl
theorem x_62_12 (h : kd t r = 4) : Ev d 62 12 L (.ref r :: st) (t, V, A, P) Q = Ev d 62 15 L (V r 0 :: st) (t, V, A, P) Q := e_getf (by decide +kernel : decode (bOf 62) 12 = .ok (.getfield 12, 3)) (by decide +kernel) (by decide +kernel) h
theorem x_62_15 : Ev d 62 15 (.ref r :: L) st μ Q = Ev d 62 16 (.ref r :: L) (.ref r :: st) μ Q := e_aload_n (by decide +kernel : decode (bOf 62) 15 = .ok (.aload_n 0, 1)) rfl
theorem x_62_16 (h : kd t r = 4) : Ev d 62 16 L (.ref r :: st) (t, V, A, P) Q = Ev d 62 19 L (V r 2 :: st) (t, V, A, P) Q := e_getf (by decide +kernel : decode (bOf 62) 16 = .ok (.getfield 20, 3)) (by decide +kernel) (by decide +kernel) h
theorem x_62_19 : Ev d 62 19 (a0 :: .int x :: L) st μ Q = Ev d 62 20 (a0 :: .int x :: L) (.int x :: st) μ Q := e_iload_n (by decide +kernel : decode (bOf 62) 19 = .ok (.iload_n 1, 1)) rfl
theorem x_62_20 (h : kd t r = 9) (hi : inB x (ln t r) = true) : Ev d 62 20 L (.int x :: .ref r :: st) (t, V, A, P) Q = Ev d 62 21 L (va_rf (P r x.toNatClampNeg) :: st) (t, V, A, P) Q := e_aald 9 (by omega) (by decide +kernel : decode (bOf 62) 20 = .ok (.aaload, 1)) h hi
theorem x_62_21 : Ev d 62 21 L [b1, b0] μ Q = Call d 31 [b0, b1] μ (fun v μ1 => Ev d 62 24 L (v.toList ++ []) μ1 Q) := e_callS (a := [b0, b1]) (r := []) (by decide +kernel : decode (bOf 62) 21 = .ok (.invokestatic 96, 3)) (by decide +kernel) (by decide +kernel) (by omega) rfl (by simp)
theorem x_62_24 : Ev d 62 24 (.ref r :: L) st μ Q = Ev d 62 25 (.ref r :: L) (.ref r :: st) μ Q := e_aload_n (by decide +kernel : decode (bOf 62) 24 = .ok (.aload_n 0, 1)) rfl
theorem x_62_25 (h : kd t r = 4) : Ev d 62 25 L (.ref r :: st) (t, V, A, P) Q = Ev d 62 28 L (V r 3 :: st) (t, V, A, P) Q := e_getf (by decide +kernel : decode (bOf 62) 25 = .ok (.getfield 23, 3)) (by decide +kernel) (by decide +kernel) h
theorem x_62_28 : Ev d 62 28 (a0 :: .int x :: L) st μ Q = Ev d 62 29 (a0 :: .int x :: L) (.int x :: st) μ Q := e_iload_n (by decide +kernel : decode (bOf 62) 28 = .ok (.iload_n 1, 1)) rfl
theorem x_62_29 : Ev d 62 29 L st μ Q = Ev d 62 30 L (.int (iI 1) :: st) μ Q := e_iconst (by decide +kernel : decode (bOf 62) 29 = .ok (.iconst 1, 1))
theorem x_62_30 (h : kd t r = 7) (hi : inB x (ln t r) = true) (hx : isB y) : Ev d 62 30 L (.int y :: .int x :: .ref r :: st) (t, V, A, P) Q = Ev d 62 31 L st (t, V, up1 A r (upd (A r) x.toNatClampNeg y), P) Q := e_bast (by decide +kernel : decode (bOf 62) 30 = .ok (.bastore, 1)) h hi hx
theorem x_62_31 : Ev d 62 31 (.ref r :: L) st μ Q = Ev d 62 32 (.ref r :: L) (.ref r :: st) μ Q := e_aload_n (by decide +kernel : decode (bOf 62) 31 = .ok (.aload_n 0, 1)) rfl
theorem x_62_32 (h : kd t r = 4) : Ev d 62 32 L (.ref r :: st) (t, V, A, P) Q = Ev d 62 35 L (V r 0 :: st) (t, V, A, P) Q := e_getf (by decide +kernel : decode (bOf 62) 32 = .ok (.getfield 12, 3)) (by decide +kernel) (by decide +kernel) h
theorem x_62_35 (h : kd t r = 3) : Ev d 62 35 L (.ref r :: st) (t, V, A, P) Q = Ev d 62 38 L (V r 3 :: st) (t, V, A, P) Q := e_getf (by decide +kernel : decode (bOf 62) 35 = .ok (.getfield 63, 3)) (by decide +kernel) (by decide +kernel) h
theorem x_62_38 : Ev d 62 38 L [.int x] μ Q = Q (some (.int x)) μ := e_iret (by decide +kernel : decode (bOf 62) 38 = .ok (.ireturn, 1)) (by decide +kernel)
theorem c_63 : Call (d + 1) 63 [.ref r0, .int i1] μ Q = Ev d 63 0 [.ref r0, .int i1] [] μ Q := call_ev rfl rfl
theorem x_63_0 : Ev d 63 0 (a0 :: .int x :: L) st μ Q = Ev d 63 1 (a0 :: .int x :: L) (.int x :: st) μ Q := e_iload_n (by decide +kernel : decode (bOf 63) 0 = .ok (.iload_n 1, 1)) rfl
theorem x_63_1 : Ev d 63 1 L (.int x :: st) μ Q = if x < iI 0 then Ev d 63 9 L st μ Q else Ev d 63 4 L st μ Q := e_if_lt (by decide +kernel : decode (bOf 63) 1 = .ok (.ifCond .lt 8, 3)) (by omega)
theorem x_63_4 : Ev d 63 4 (a0 :: .int x :: L) st μ Q = Ev d 63 5 (a0 :: .int x :: L) (.int x :: st) μ Q := e_iload_n (by decide +kernel : decode (bOf 63) 4 = .ok (.iload_n 1, 1)) rfl
theorem x_63_5 : Ev d 63 5 L st μ Q = Ev d 63 6 L (.int (iI 2) :: st) μ Q := e_iconst (by decide +kernel : decode (bOf 63) 5 = .ok (.iconst 2, 1))
theorem x_63_6 : Ev d 63 6 L (.int y :: .int x :: st) μ Q = if x < y then Ev d 63 11 L st μ Q else Ev d 63 9 L st μ Q := e_icmp_lt (by decide +kernel : decode (bOf 63) 6 = .ok (.if_icmp .lt 5, 3)) (by omega)
theorem x_63_9 : Ev d 63 9 L st μ Q = Ev d 63 10 L (.int (iI (-1)) :: st) μ Q := e_iconst (by decide +kernel : decode (bOf 63) 9 = .ok (.iconst (-1), 1))
theorem x_63_10 : Ev d 63 10 L [.int x] μ Q = Q (some (.int x)) μ := e_iret (by decide +kernel : decode (bOf 63) 10 = .ok (.ireturn, 1)) (by decide +kernel)
theorem x_63_11 : Ev d 63 11 (.ref r :: L) st μ Q = Ev d 63 12 (.ref r :: L) (.ref r :: st) μ Q := e_aload_n (by decide +kernel : decode (bOf 63) 11 = .ok (.aload_n 0, 1)) rfl
theorem x_63_12 (h : kd t r = 4) : Ev d 63 12 L (.ref r :: st) (t, V, A, P) Q = Ev d 63 15 L (V r 3 :: st) (t, V, A, P) Q := e_getf (by decide +kernel : decode (bOf 63) 12 = .ok (.getfield 23, 3)) (by decide +kernel) (by decide +kernel) h
theorem x_63_15 : Ev d 63 15 (a0 :: .int x :: L) st μ Q = Ev d 63 16 (a0 :: .int x :: L) (.int x :: st) μ Q := e_iload_n (by decide +kernel : decode (bOf 63) 15 = .ok (.iload_n 1, 1)) rfl
theorem x_63_16 (h : kd t r = 7) (hi : inB x (ln t r) = true) : Ev d 63 16 L (.int x :: .ref r :: st) (t, V, A, P) Q = Ev d 63 17 L (.int (A r x.toNatClampNeg) :: st) (t, V, A, P) Q := e_bald (by decide +kernel : decode (bOf 63) 16 = .ok (.baload, 1)) h hi
theorem x_63_17 : Ev d 63 17 L (.int x :: st) μ Q = if x = iI 0 then Ev d 63 20 L st μ Q else Ev d 63 23 L st μ Q := e_if_ne (by decide +kernel : decode (bOf 63) 17 = .ok (.ifCond .ne 6, 3)) (by omega)
theorem x_63_20 : Ev d 63 20 L st μ Q = Ev d 63 22 L (.int (iI (-2)) :: st) μ Q := e_bipush (by decide +kernel : decode (bOf 63) 20 = .ok (.bipush (-2), 2)) (by decide +kernel)
theorem x_63_22 : Ev d 63 22 L [.int x] μ Q = Q (some (.int x)) μ := e_iret (by decide +kernel : decode (bOf 63) 22 = .ok (.ireturn, 1)) (by decide +kernel)
theorem x_63_23 : Ev d 63 23 (.ref r :: L) st μ Q = Ev d 63 24 (.ref r :: L) (.ref r :: st) μ Q := e_aload_n (by decide +kernel : decode (bOf 63) 23 = .ok (.aload_n 0, 1)) rfl
theorem x_63_24 (h : kd t r = 4) : Ev d 63 24 L (.ref r :: st) (t, V, A, P) Q = Ev d 63 27 L (V r 2 :: st) (t, V, A, P) Q := e_getf (by decide +kernel : decode (bOf 63) 24 = .ok (.getfield 20, 3)) (by decide +kernel) (by decide +kernel) h
theorem x_63_27 : Ev d 63 27 (a0 :: .int x :: L) st μ Q = Ev d 63 28 (a0 :: .int x :: L) (.int x :: st) μ Q := e_iload_n (by decide +kernel : decode (bOf 63) 27 = .ok (.iload_n 1, 1)) rfl
theorem x_63_28 (h : kd t r = 9) (hi : inB x (ln t r) = true) : Ev d 63 28 L (.int x :: .ref r :: st) (t, V, A, P) Q = Ev d 63 29 L (va_rf (P r x.toNatClampNeg) :: st) (t, V, A, P) Q := e_aald 9 (by omega) (by decide +kernel : decode (bOf 63) 28 = .ok (.aaload, 1)) h hi
theorem x_63_29 : Ev d 63 29 (.ref r :: L) st μ Q = Ev d 63 30 (.ref r :: L) (.ref r :: st) μ Q := e_aload_n (by decide +kernel : decode (bOf 63) 29 = .ok (.aload_n 0, 1)) rfl
theorem x_63_30 (h : kd t r = 4) : Ev d 63 30 L (.ref r :: st) (t, V, A, P) Q = Ev d 63 33 L (V r 0 :: st) (t, V, A, P) Q := e_getf (by decide +kernel : decode (bOf 63) 30 = .ok (.getfield 12, 3)) (by decide +kernel) (by decide +kernel) h
theorem x_63_33 : Ev d 63 33 L [b1, b0] μ Q = Call d 31 [b0, b1] μ (fun v μ1 => Ev d 63 36 L (v.toList ++ []) μ1 Q) := e_callS (a := [b0, b1]) (r := []) (by decide +kernel : decode (bOf 63) 33 = .ok (.invokestatic 96, 3)) (by decide +kernel) (by decide +kernel) (by omega) rfl (by simp)
theorem x_63_36 : Ev d 63 36 (.ref r :: L) st μ Q = Ev d 63 37 (.ref r :: L) (.ref r :: st) μ Q := e_aload_n (by decide +kernel : decode (bOf 63) 36 = .ok (.aload_n 0, 1)) rfl
theorem x_63_37 : Ev d 63 37 L st μ Q = Ev d 63 38 L (.int (iI 0) :: st) μ Q := e_iconst (by decide +kernel : decode (bOf 63) 37 = .ok (.iconst 0, 1))
theorem x_63_38 (h : kd t r = 4) : Ev d 63 38 L (.int x :: .ref r :: st) (t, V, A, P) Q = Ev d 63 41 L st (t, up1 V r (up1 (V r) 11 (.int x)), A, P) Q := e_putf (by decide +kernel : decode (bOf 63) 38 = .ok (.putfield 93, 3)) (by decide +kernel) (by decide +kernel) rfl h
theorem x_63_41 : Ev d 63 41 (.ref r :: L) st μ Q = Ev d 63 42 (.ref r :: L) (.ref r :: st) μ Q := e_aload_n (by decide +kernel : decode (bOf 63) 41 = .ok (.aload_n 0, 1)) rfl
theorem x_63_42 (h : kd t r = 4) : Ev d 63 42 L (.ref r :: st) (t, V, A, P) Q = Ev d 63 45 L (V r 0 :: st) (t, V, A, P) Q := e_getf (by decide +kernel : decode (bOf 63) 42 = .ok (.getfield 12, 3)) (by decide +kernel) (by decide +kernel) h
theorem x_63_45 (h : kd t r = 3) : Ev d 63 45 L (.ref r :: st) (t, V, A, P) Q = Ev d 63 48 L (V r 3 :: st) (t, V, A, P) Q := e_getf (by decide +kernel : decode (bOf 63) 45 = .ok (.getfield 63, 3)) (by decide +kernel) (by decide +kernel) h
theorem x_63_48 : Ev d 63 48 L [.int x] μ Q = Q (some (.int x)) μ := e_iret (by decide +kernel : decode (bOf 63) 48 = .ok (.ireturn, 1)) (by decide +kernel)
theorem c_64 : Call (d + 1) 64 [.ref r0, .int i1] μ Q = Ev d 64 0 [.ref r0, .int i1] [] μ Q := call_ev rfl rfl
theorem x_64_0 : Ev d 64 0 (a0 :: .int x :: L) st μ Q = Ev d 64 1 (a0 :: .int x :: L) (.int x :: st) μ Q := e_iload_n (by decide +kernel : decode (bOf 64) 0 = .ok (.iload_n 1, 1)) rfl
theorem x_64_1 : Ev d 64 1 L (.int x :: st) μ Q = if x = iI 0 then Ev d 64 48 L st μ Q else if x = iI 1 then Ev d 64 56 L st μ Q else if x = iI 2 then Ev d 64 67 L st μ Q else if x = iI 3 then Ev d 64 75 L st μ Q else if x = iI 4 then Ev d 64 83 L st μ Q else if x = iI 5 then Ev d 64 88 L st μ Q else if x = iI 6 then Ev d 64 96 L st μ Q else if x = iI 7 then Ev d 64 101 L st μ Q else Ev d 64 106 L st μ Q := by
  have hd : decode (bOf 64) 1 = .ok (.tableswitch 105 0 7 #[47, 55, 66, 74, 82, 87, 95, 100], 47) := by decide +kernel
  by_cases h0 : x = iI 0
  · rw [if_pos h0]; exact e_sw hd (sw_in (off := 47) h0 (by omega) (by omega) (by omega) rfl (by omega))
  rw [if_neg h0]
  by_cases h1 : x = iI 1
  · rw [if_pos h1]; exact e_sw hd (sw_in (off := 55) h1 (by omega) (by omega) (by omega) rfl (by omega))
  rw [if_neg h1]
  by_cases h2 : x = iI 2
  · rw [if_pos h2]; exact e_sw hd (sw_in (off := 66) h2 (by omega) (by omega) (by omega) rfl (by omega))
  rw [if_neg h2]
  by_cases h3 : x = iI 3
  · rw [if_pos h3]; exact e_sw hd (sw_in (off := 74) h3 (by omega) (by omega) (by omega) rfl (by omega))
  rw [if_neg h3]
  by_cases h4 : x = iI 4
  · rw [if_pos h4]; exact e_sw hd (sw_in (off := 82) h4 (by omega) (by omega) (by omega) rfl (by omega))
  rw [if_neg h4]
  by_cases h5 : x = iI 5
  · rw [if_pos h5]; exact e_sw hd (sw_in (off := 87) h5 (by omega) (by omega) (by omega) rfl (by omega))
  rw [if_neg h5]
  by_cases h6 : x = iI 6
  · rw [if_pos h6]; exact e_sw hd (sw_in (off := 95) h6 (by omega) (by omega) (by omega) rfl (by omega))
  rw [if_neg h6]
  by_cases h7 : x = iI 7
  · rw [if_pos h7]; exact e_sw hd (sw_in (off := 100) h7 (by omega) (by omega) (by omega) rfl (by omega))
  rw [if_neg h7]
  have g0 := ne_toInt h0
  have g1 := ne_toInt h1
  have g2 := ne_toInt h2
  have g3 := ne_toInt h3
  have g4 := ne_toInt h4
  have g5 := ne_toInt h5
  have g6 := ne_toInt h6
  have g7 := ne_toInt h7
  exact e_sw hd (sw_out (by omega) (by omega))
theorem x_64_48 : Ev d 64 48 (.ref r :: L) st μ Q = Ev d 64 49 (.ref r :: L) (.ref r :: st) μ Q := e_aload_n (by decide +kernel : decode (bOf 64) 48 = .ok (.aload_n 0, 1)) rfl
theorem x_64_49 (h : kd t r = 4) : Ev d 64 49 L (.ref r :: st) (t, V, A, P) Q = Ev d 64 52 L (V r 0 :: st) (t, V, A, P) Q := e_getf (by decide +kernel : decode (bOf 64) 49 = .ok (.getfield 12, 3)) (by decide +kernel) (by decide +kernel) h
theorem x_64_52 (h : kd t r = 3) : Ev d 64 52 L (.ref r :: st) (t, V, A, P) Q = Ev d 64 55 L (V r 3 :: st) (t, V, A, P) Q := e_getf (by decide +kernel : decode (bOf 64) 52 = .ok (.getfield 63, 3)) (by decide +kernel) (by decide +kernel) h
theorem x_64_55 : Ev d 64 55 L [.int x] μ Q = Q (some (.int x)) μ := e_iret (by decide +kernel : decode (bOf 64) 55 = .ok (.ireturn, 1)) (by decide +kernel)
theorem x_64_56 : Ev d 64 56 (.ref r :: L) st μ Q = Ev d 64 57 (.ref r :: L) (.ref r :: st) μ Q := e_aload_n (by decide +kernel : decode (bOf 64) 56 = .ok (.aload_n 0, 1)) rfl
theorem x_64_57 (h : kd t r = 4) : Ev d 64 57 L (.ref r :: st) (t, V, A, P) Q = Ev d 64 60 L (V r 0 :: st) (t, V, A, P) Q := e_getf (by decide +kernel : decode (bOf 64) 57 = .ok (.getfield 12, 3)) (by decide +kernel) (by decide +kernel) h
theorem x_64_60 (h : kd t r = 3) : Ev d 64 60 L (.ref r :: st) (t, V, A, P) Q = Ev d 64 63 L (V r 4 :: st) (t, V, A, P) Q := e_getf (by decide +kernel : decode (bOf 64) 60 = .ok (.getfield 201, 3)) (by decide +kernel) (by decide +kernel) h
theorem x_64_63 : Ev d 64 63 L [b0] μ Q = Call d 78 [b0] μ (fun v μ1 => Ev d 64 66 L (v.toList ++ []) μ1 Q) := e_callS (a := [b0]) (r := []) (by decide +kernel : decode (bOf 64) 63 = .ok (.invokestatic 149, 3)) (by decide +kernel) (by decide +kernel) (by omega) rfl (by simp)
theorem x_64_66 : Ev d 64 66 L [.int x] μ Q = Q (some (.int x)) μ := e_iret (by decide +kernel : decode (bOf 64) 66 = .ok (.ireturn, 1)) (by decide +kernel)
theorem x_64_67 : Ev d 64 67 (.ref r :: L) st μ Q = Ev d 64 68 (.ref r :: L) (.ref r :: st) μ Q := e_aload_n (by decide +kernel : decode (bOf 64) 67 = .ok (.aload_n 0, 1)) rfl
theorem x_64_68 (h : kd t r = 4) : Ev d 64 68 L (.ref r :: st) (t, V, A, P) Q = Ev d 64 71 L (V r 0 :: st) (t, V, A, P) Q := e_getf (by decide +kernel : decode (bOf 64) 68 = .ok (.getfield 12, 3)) (by decide +kernel) (by decide +kernel) h
theorem x_64_71 (h : kd t r = 3) : Ev d 64 71 L [.ref r] (t, V, A, P) Q = Call d 40 [.ref r] (t, V, A, P) (fun v μ1 => Ev d 64 74 L (v.toList ++ []) μ1 Q) := e_callV (a := []) (r := []) (by decide +kernel : decode (bOf 64) 71 = .ok (.invokevirtual 204, 3)) (by decide +kernel) (by decide +kernel) (by decide +kernel) (by omega) rfl (by simp) (by decide +kernel) h
theorem x_64_74 : Ev d 64 74 L [.int x] μ Q = Q (some (.int x)) μ := e_iret (by decide +kernel : decode (bOf 64) 74 = .ok (.ireturn, 1)) (by decide +kernel)
theorem x_64_75 : Ev d 64 75 (.ref r :: L) st μ Q = Ev d 64 76 (.ref r :: L) (.ref r :: st) μ Q := e_aload_n (by decide +kernel : decode (bOf 64) 75 = .ok (.aload_n 0, 1)) rfl
theorem x_64_76 (h : kd t r = 4) : Ev d 64 76 L (.ref r :: st) (t, V, A, P) Q = Ev d 64 79 L (V r 0 :: st) (t, V, A, P) Q := e_getf (by decide +kernel : decode (bOf 64) 76 = .ok (.getfield 12, 3)) (by decide +kernel) (by decide +kernel) h
theorem x_64_79 (h : kd t r = 3) : Ev d 64 79 L [.ref r] (t, V, A, P) Q = Call d 41 [.ref r] (t, V, A, P) (fun v μ1 => Ev d 64 82 L (v.toList ++ []) μ1 Q) := e_callV (a := []) (r := []) (by decide +kernel : decode (bOf 64) 79 = .ok (.invokevirtual 207, 3)) (by decide +kernel) (by decide +kernel) (by decide +kernel) (by omega) rfl (by simp) (by decide +kernel) h
theorem x_64_82 : Ev d 64 82 L [.int x] μ Q = Q (some (.int x)) μ := e_iret (by decide +kernel : decode (bOf 64) 82 = .ok (.ireturn, 1)) (by decide +kernel)
theorem x_64_83 : Ev d 64 83 (.ref r :: L) st μ Q = Ev d 64 84 (.ref r :: L) (.ref r :: st) μ Q := e_aload_n (by decide +kernel : decode (bOf 64) 83 = .ok (.aload_n 0, 1)) rfl
theorem x_64_84 (h : kd t r = 4) : Ev d 64 84 L [.ref r] (t, V, A, P) Q = Call d 68 [.ref r] (t, V, A, P) (fun v μ1 => Ev d 64 87 L (v.toList ++ []) μ1 Q) := e_callV (a := []) (r := []) (by decide +kernel : decode (bOf 64) 84 = .ok (.invokevirtual 210, 3)) (by decide +kernel) (by decide +kernel) (by decide +kernel) (by omega) rfl (by simp) (by decide +kernel) h
theorem x_64_87 : Ev d 64 87 L [.int x] μ Q = Q (some (.int x)) μ := e_iret (by decide +kernel : decode (bOf 64) 87 = .ok (.ireturn, 1)) (by decide +kernel)
theorem x_64_88 : Ev d 64 88 (.ref r :: L) st μ Q = Ev d 64 89 (.ref r :: L) (.ref r :: st) μ Q := e_aload_n (by decide +kernel : decode (bOf 64) 88 = .ok (.aload_n 0, 1)) rfl
theorem x_64_89 (h : kd t r = 4) : Ev d 64 89 L (.ref r :: st) (t, V, A, P) Q = Ev d 64 92 L (V r 0 :: st) (t, V, A, P) Q := e_getf (by decide +kernel : decode (bOf 64) 89 = .ok (.getfield 12, 3)) (by decide +kernel) (by decide +kernel) h
theorem x_64_92 (h : kd t r = 3) : Ev d 64 92 L [.ref r] (t, V, A, P) Q = Call d 42 [.ref r] (t, V, A, P) (fun v μ1 => Ev d 64 95 L (v.toList ++ []) μ1 Q) := e_callV (a := []) (r := []) (by decide +kernel : decode (bOf 64) 92 = .ok (.invokevirtual 213, 3)) (by decide +kernel) (by decide +kernel) (by decide +kernel) (by omega) rfl (by simp) (by decide +kernel) h
theorem x_64_95 : Ev d 64 95 L [.int x] μ Q = Q (some (.int x)) μ := e_iret (by decide +kernel : decode (bOf 64) 95 = .ok (.ireturn, 1)) (by decide +kernel)
theorem x_64_96 : Ev d 64 96 (.ref r :: L) st μ Q = Ev d 64 97 (.ref r :: L) (.ref r :: st) μ Q := e_aload_n (by decide +kernel : decode (bOf 64) 96 = .ok (.aload_n 0, 1)) rfl
theorem x_64_97 (h : kd t r = 4) : Ev d 64 97 L (.ref r :: st) (t, V, A, P) Q = Ev d 64 100 L (V r 9 :: st) (t, V, A, P) Q := e_getf (by decide +kernel : decode (bOf 64) 97 = .ok (.getfield 55, 3)) (by decide +kernel) (by decide +kernel) h
theorem x_64_100 : Ev d 64 100 L [.int x] μ Q = Q (some (.int x)) μ := e_iret (by decide +kernel : decode (bOf 64) 100 = .ok (.ireturn, 1)) (by decide +kernel)
theorem x_64_101 : Ev d 64 101 (.ref r :: L) st μ Q = Ev d 64 102 (.ref r :: L) (.ref r :: st) μ Q := e_aload_n (by decide +kernel : decode (bOf 64) 101 = .ok (.aload_n 0, 1)) rfl
theorem x_64_102 (h : kd t r = 4) : Ev d 64 102 L (.ref r :: st) (t, V, A, P) Q = Ev d 64 105 L (V r 11 :: st) (t, V, A, P) Q := e_getf (by decide +kernel : decode (bOf 64) 102 = .ok (.getfield 93, 3)) (by decide +kernel) (by decide +kernel) h
theorem x_64_105 : Ev d 64 105 L [.int x] μ Q = Q (some (.int x)) μ := e_iret (by decide +kernel : decode (bOf 64) 105 = .ok (.ireturn, 1)) (by decide +kernel)
theorem x_64_106 : Ev d 64 106 L st μ Q = Ev d 64 107 L (.int (iI (-1)) :: st) μ Q := e_iconst (by decide +kernel : decode (bOf 64) 106 = .ok (.iconst (-1), 1))
theorem x_64_107 : Ev d 64 107 L [.int x] μ Q = Q (some (.int x)) μ := e_iret (by decide +kernel : decode (bOf 64) 107 = .ok (.ireturn, 1)) (by decide +kernel)
theorem c_65 : Call (d + 1) 65 [.ref r0, .int i1] μ Q = Ev d 65 0 [.ref r0, .int i1] [] μ Q := call_ev rfl rfl
theorem x_65_0 : Ev d 65 0 (.ref r :: L) st μ Q = Ev d 65 1 (.ref r :: L) (.ref r :: st) μ Q := e_aload_n (by decide +kernel : decode (bOf 65) 0 = .ok (.aload_n 0, 1)) rfl
theorem x_65_1 (h : kd t r = 4) : Ev d 65 1 L (.ref r :: st) (t, V, A, P) Q = Ev d 65 4 L (V r 0 :: st) (t, V, A, P) Q := e_getf (by decide +kernel : decode (bOf 65) 1 = .ok (.getfield 12, 3)) (by decide +kernel) (by decide +kernel) h
theorem x_65_4 (h : kd t r = 3) : Ev d 65 4 L (.ref r :: st) (t, V, A, P) Q = Ev d 65 7 L (V r 3 :: st) (t, V, A, P) Q := e_getf (by decide +kernel : decode (bOf 65) 4 = .ok (.getfield 63, 3)) (by decide +kernel) (by decide +kernel) h
theorem x_65_7 : Ev d 65 7 L st μ Q = Ev d 65 9 L (.int (iI 32) :: st) μ Q := e_bipush (by decide +kernel : decode (bOf 65) 7 = .ok (.bipush 32, 2)) (by decide +kernel)
theorem x_65_9 : Ev d 65 9 L (.int y :: .int x :: st) μ Q = if x < y then Ev d 65 15 L st μ Q else Ev d 65 12 L st μ Q := e_icmp_lt (by decide +kernel : decode (bOf 65) 9 = .ok (.if_icmp .lt 6, 3)) (by omega)
theorem x_65_12 : Ev d 65 12 L st μ Q = Ev d 65 14 L (.int (iI (-3)) :: st) μ Q := e_bipush (by decide +kernel : decode (bOf 65) 12 = .ok (.bipush (-3), 2)) (by decide +kernel)
theorem x_65_14 : Ev d 65 14 L [.int x] μ Q = Q (some (.int x)) μ := e_iret (by decide +kernel : decode (bOf 65) 14 = .ok (.ireturn, 1)) (by decide +kernel)
theorem x_65_15 : Ev d 65 15 (.ref r :: L) st μ Q = Ev d 65 16 (.ref r :: L) (.ref r :: st) μ Q := e_aload_n (by decide +kernel : decode (bOf 65) 15 = .ok (.aload_n 0, 1)) rfl
theorem x_65_16 (h : kd t r = 4) : Ev d 65 16 L [.ref r] (t, V, A, P) Q = Call d 66 [.ref r] (t, V, A, P) (fun v μ1 => Ev d 65 19 L (v.toList ++ []) μ1 Q) := e_callV (a := []) (r := []) (by decide +kernel : decode (bOf 65) 16 = .ok (.invokevirtual 69, 3)) (by decide +kernel) (by decide +kernel) (by decide +kernel) (by omega) rfl (by simp) (by decide +kernel) h
theorem x_65_19 : Ev d 65 19 (.ref r :: L) st μ Q = Ev d 65 20 (.ref r :: L) (.ref r :: st) μ Q := e_aload_n (by decide +kernel : decode (bOf 65) 19 = .ok (.aload_n 0, 1)) rfl
theorem x_65_20 (h : kd t r = 4) : Ev d 65 20 L (.ref r :: st) (t, V, A, P) Q = Ev d 65 23 L (V r 0 :: st) (t, V, A, P) Q := e_getf (by decide +kernel : decode (bOf 65) 20 = .ok (.getfield 12, 3)) (by decide +kernel) (by decide +kernel) h
theorem x_65_23 : Ev d 65 23 (a0 :: .int x :: L) st μ Q = Ev d 65 24 (a0 :: .int x :: L) (.int x :: st) μ Q := e_iload_n (by decide +kernel : decode (bOf 65) 23 = .ok (.iload_n 1, 1)) rfl
theorem x_65_24 (h : kd t r = 3) : Ev d 65 24 L [b0, .ref r] (t, V, A, P) Q = Call d 32 [.ref r, b0] (t, V, A, P) (fun v μ1 => Ev d 65 27 L (v.toList ++ []) μ1 Q) := e_callV (a := [b0]) (r := []) (by decide +kernel : decode (bOf 65) 24 = .ok (.invokevirtual 72, 3)) (by decide +kernel) (by decide +kernel) (by decide +kernel) (by omega) rfl (by simp) (by decide +kernel) h
theorem x_65_27 : Ev d 65 27 L [.int x] μ Q = Q (some (.int x)) μ := e_iret (by decide +kernel : decode (bOf 65) 27 = .ok (.ireturn, 1)) (by decide +kernel)
theorem c_66 : Call (d + 1) 66 [.ref r0] μ Q = Ev d 66 0 [.ref r0] [] μ Q := call_ev rfl rfl
theorem x_66_0 : Ev d 66 0 (.ref r :: L) st μ Q = Ev d 66 1 (.ref r :: L) (.ref r :: st) μ Q := e_aload_n (by decide +kernel : decode (bOf 66) 0 = .ok (.aload_n 0, 1)) rfl
theorem x_66_1 (h : kd t r = 4) : Ev d 66 1 L (.ref r :: st) (t, V, A, P) Q = Ev d 66 4 L (V r 11 :: st) (t, V, A, P) Q := e_getf (by decide +kernel : decode (bOf 66) 1 = .ok (.getfield 93, 3)) (by decide +kernel) (by decide +kernel) h
theorem x_66_4 : Ev d 66 4 L st μ Q = Ev d 66 6 L (.int (iI 6) :: st) μ Q := e_bipush (by decide +kernel : decode (bOf 66) 4 = .ok (.bipush 6, 2)) (by decide +kernel)
theorem x_66_6 : Ev d 66 6 L (.int y :: .int x :: st) μ Q = if x < y then Ev d 66 13 L st μ Q else Ev d 66 9 L st μ Q := e_icmp_lt (by decide +kernel : decode (bOf 66) 6 = .ok (.if_icmp .lt 7, 3)) (by omega)
theorem x_66_9 : Ev d 66 9 (.ref r :: L) st μ Q = Ev d 66 10 (.ref r :: L) (.ref r :: st) μ Q := e_aload_n (by decide +kernel : decode (bOf 66) 9 = .ok (.aload_n 0, 1)) rfl
theorem x_66_10 (h : kd t r = 4) : Ev d 66 10 L [.ref r] (t, V, A, P) Q = Call d 67 [.ref r] (t, V, A, P) (fun v μ1 => Ev d 66 13 L (v.toList ++ []) μ1 Q) := e_callV (a := []) (r := []) (by decide +kernel : decode (bOf 66) 10 = .ok (.invokevirtual 216, 3)) (by decide +kernel) (by decide +kernel) (by decide +kernel) (by omega) rfl (by simp) (by decide +kernel) h
theorem x_66_13 : Ev d 66 13 (.ref r :: L) st μ Q = Ev d 66 14 (.ref r :: L) (.ref r :: st) μ Q := e_aload_n (by decide +kernel : decode (bOf 66) 13 = .ok (.aload_n 0, 1)) rfl
theorem x_66_14 (h : kd t r = 4) : Ev d 66 14 L (.ref r :: st) (t, V, A, P) Q = Ev d 66 17 L (V r 11 :: st) (t, V, A, P) Q := e_getf (by decide +kernel : decode (bOf 66) 14 = .ok (.getfield 93, 3)) (by decide +kernel) (by decide +kernel) h
theorem x_66_17 : Ev d 66 17 L (.int x :: st) μ Q = if x < iI 0 then Ev d 66 29 L st μ Q else Ev d 66 20 L st μ Q := e_if_lt (by decide +kernel : decode (bOf 66) 17 = .ok (.ifCond .lt 12, 3)) (by omega)
theorem x_66_20 : Ev d 66 20 (.ref r :: L) st μ Q = Ev d 66 21 (.ref r :: L) (.ref r :: st) μ Q := e_aload_n (by decide +kernel : decode (bOf 66) 20 = .ok (.aload_n 0, 1)) rfl
theorem x_66_21 (h : kd t r = 4) : Ev d 66 21 L (.ref r :: st) (t, V, A, P) Q = Ev d 66 24 L (V r 11 :: st) (t, V, A, P) Q := e_getf (by decide +kernel : decode (bOf 66) 21 = .ok (.getfield 93, 3)) (by decide +kernel) (by decide +kernel) h
theorem x_66_24 : Ev d 66 24 L st μ Q = Ev d 66 26 L (.int (iI 6) :: st) μ Q := e_bipush (by decide +kernel : decode (bOf 66) 24 = .ok (.bipush 6, 2)) (by decide +kernel)
theorem x_66_26 : Ev d 66 26 L (.int y :: .int x :: st) μ Q = if x < y then Ev d 66 30 L st μ Q else Ev d 66 29 L st μ Q := e_icmp_lt (by decide +kernel : decode (bOf 66) 26 = .ok (.if_icmp .lt 4, 3)) (by omega)
theorem x_66_29 : Ev d 66 29 L [] μ Q = Q none μ := e_ret (by decide +kernel : decode (bOf 66) 29 = .ok (.return_, 1)) (by decide +kernel)
theorem x_66_30 : Ev d 66 30 (.ref r :: L) st μ Q = Ev d 66 31 (.ref r :: L) (.ref r :: st) μ Q := e_aload_n (by decide +kernel : decode (bOf 66) 30 = .ok (.aload_n 0, 1)) rfl
theorem x_66_31 (h : kd t r = 4) : Ev d 66 31 L (.ref r :: st) (t, V, A, P) Q = Ev d 66 34 L (V r 0 :: st) (t, V, A, P) Q := e_getf (by decide +kernel : decode (bOf 66) 31 = .ok (.getfield 12, 3)) (by decide +kernel) (by decide +kernel) h
theorem x_66_34 : Ev d 66 34 (.ref r :: L) st μ Q = Ev d 66 35 (.ref r :: L) (.ref r :: st) μ Q := e_aload_n (by decide +kernel : decode (bOf 66) 34 = .ok (.aload_n 0, 1)) rfl
theorem x_66_35 (h : kd t r = 4) : Ev d 66 35 L (.ref r :: st) (t, V, A, P) Q = Ev d 66 38 L (V r 1 :: st) (t, V, A, P) Q := e_getf (by decide +kernel : decode (bOf 66) 35 = .ok (.getfield 16, 3)) (by decide +kernel) (by decide +kernel) h
theorem x_66_38 : Ev d 66 38 (.ref r :: L) st μ Q = Ev d 66 39 (.ref r :: L) (.ref r :: st) μ Q := e_aload_n (by decide +kernel : decode (bOf 66) 38 = .ok (.aload_n 0, 1)) rfl
theorem x_66_39 (h : kd t r = 4) : Ev d 66 39 L (.ref r :: st) (t, V, A, P) Q = Ev d 66 42 L (V r 11 :: st) (t, V, A, P) Q := e_getf (by decide +kernel : decode (bOf 66) 39 = .ok (.getfield 93, 3)) (by decide +kernel) (by decide +kernel) h
theorem x_66_42 (h : kd t r = 9) (hi : inB x (ln t r) = true) : Ev d 66 42 L (.int x :: .ref r :: st) (t, V, A, P) Q = Ev d 66 43 L (va_rf (P r x.toNatClampNeg) :: st) (t, V, A, P) Q := e_aald 9 (by omega) (by decide +kernel : decode (bOf 66) 42 = .ok (.aaload, 1)) h hi
theorem x_66_43 : Ev d 66 43 L [b1, b0] μ Q = Call d 31 [b0, b1] μ (fun v μ1 => Ev d 66 46 L (v.toList ++ []) μ1 Q) := e_callS (a := [b0, b1]) (r := []) (by decide +kernel : decode (bOf 66) 43 = .ok (.invokestatic 96, 3)) (by decide +kernel) (by decide +kernel) (by omega) rfl (by simp)
theorem x_66_46 : Ev d 66 46 (.ref r :: L) st μ Q = Ev d 66 47 (.ref r :: L) (.ref r :: st) μ Q := e_aload_n (by decide +kernel : decode (bOf 66) 46 = .ok (.aload_n 0, 1)) rfl
theorem x_66_47 : Ev d 66 47 L (.ref r :: st) μ Q = Ev d 66 48 L (.ref r :: .ref r :: st) μ Q := e_dup_a (by decide +kernel : decode (bOf 66) 47 = .ok (.dup, 1))
theorem x_66_48 (h : kd t r = 4) : Ev d 66 48 L (.ref r :: st) (t, V, A, P) Q = Ev d 66 51 L (V r 11 :: st) (t, V, A, P) Q := e_getf (by decide +kernel : decode (bOf 66) 48 = .ok (.getfield 93, 3)) (by decide +kernel) (by decide +kernel) h
theorem x_66_51 : Ev d 66 51 L st μ Q = Ev d 66 52 L (.int (iI 1) :: st) μ Q := e_iconst (by decide +kernel : decode (bOf 66) 51 = .ok (.iconst 1, 1))
theorem x_66_52 : Ev d 66 52 L (.int y :: .int x :: st) μ Q = Ev d 66 53 L (.int (x + y) :: st) μ Q := e_iadd (by decide +kernel : decode (bOf 66) 52 = .ok (.iadd, 1))
theorem x_66_53 (h : kd t r = 4) : Ev d 66 53 L (.int x :: .ref r :: st) (t, V, A, P) Q = Ev d 66 56 L st (t, up1 V r (up1 (V r) 11 (.int x)), A, P) Q := e_putf (by decide +kernel : decode (bOf 66) 53 = .ok (.putfield 93, 3)) (by decide +kernel) (by decide +kernel) rfl h
theorem x_66_56 : Ev d 66 56 L [] μ Q = Q none μ := e_ret (by decide +kernel : decode (bOf 66) 56 = .ok (.return_, 1)) (by decide +kernel)
theorem c_67 : Call (d + 1) 67 [.ref r0] μ Q = Ev d 67 0 [.ref r0, .null, .null] [] μ Q := call_ev rfl rfl
theorem x_67_0 : Ev d 67 0 (.ref r :: L) st μ Q = Ev d 67 1 (.ref r :: L) (.ref r :: st) μ Q := e_aload_n (by decide +kernel : decode (bOf 67) 0 = .ok (.aload_n 0, 1)) rfl
theorem x_67_1 (h : kd t r = 4) : Ev d 67 1 L (.ref r :: st) (t, V, A, P) Q = Ev d 67 4 L (V r 1 :: st) (t, V, A, P) Q := e_getf (by decide +kernel : decode (bOf 67) 1 = .ok (.getfield 16, 3)) (by decide +kernel) (by decide +kernel) h
theorem x_67_4 : Ev d 67 4 L st μ Q = Ev d 67 5 L (.int (iI 0) :: st) μ Q := e_iconst (by decide +kernel : decode (bOf 67) 4 = .ok (.iconst 0, 1))
theorem x_67_5 (h : kd t r = 9) (hi : inB x (ln t r) = true) : Ev d 67 5 L (.int x :: .ref r :: st) (t, V, A, P) Q = Ev d 67 6 L (va_rf (P r x.toNatClampNeg) :: st) (t, V, A, P) Q := e_aald 9 (by omega) (by decide +kernel : decode (bOf 67) 5 = .ok (.aaload, 1)) h hi
theorem x_67_6 (h : a0.category = 1) : Ev d 67 6 (a0 :: a1 :: L) (.ref r :: st) μ Q = Ev d 67 7 (a0 :: .ref r :: L) st μ Q := e_astore_n (by decide +kernel : decode (bOf 67) 6 = .ok (.astore_n 1, 1)) (by show stOK _ 1 = true; simp [stOK, h])
theorem x_67_7 : Ev d 67 7 L st μ Q = Ev d 67 8 L (.int (iI 1) :: st) μ Q := e_iconst (by decide +kernel : decode (bOf 67) 7 = .ok (.iconst 1, 1))
theorem x_67_8 (h : a1.category = 1) : Ev d 67 8 (a0 :: a1 :: a2 :: L) (.int x :: st) μ Q = Ev d 67 9 (a0 :: a1 :: .int x :: L) st μ Q := e_istore_n (by decide +kernel : decode (bOf 67) 8 = .ok (.istore_n 2, 1)) (by show stOK _ 2 = true; simp [stOK, h])
theorem x_67_9 : Ev d 67 9 (a0 :: a1 :: .int x :: L) st μ Q = Ev d 67 10 (a0 :: a1 :: .int x :: L) (.int x :: st) μ Q := e_iload_n (by decide +kernel : decode (bOf 67) 9 = .ok (.iload_n 2, 1)) rfl
theorem x_67_10 : Ev d 67 10 L st μ Q = Ev d 67 12 L (.int (iI 6) :: st) μ Q := e_bipush (by decide +kernel : decode (bOf 67) 10 = .ok (.bipush 6, 2)) (by decide +kernel)
theorem x_67_12 : Ev d 67 12 L (.int y :: .int x :: st) μ Q = if x < y then Ev d 67 15 L st μ Q else Ev d 67 35 L st μ Q := e_icmp_ge (by decide +kernel : decode (bOf 67) 12 = .ok (.if_icmp .ge 23, 3)) (by omega)
theorem x_67_15 : Ev d 67 15 (.ref r :: L) st μ Q = Ev d 67 16 (.ref r :: L) (.ref r :: st) μ Q := e_aload_n (by decide +kernel : decode (bOf 67) 15 = .ok (.aload_n 0, 1)) rfl
theorem x_67_16 (h : kd t r = 4) : Ev d 67 16 L (.ref r :: st) (t, V, A, P) Q = Ev d 67 19 L (V r 1 :: st) (t, V, A, P) Q := e_getf (by decide +kernel : decode (bOf 67) 16 = .ok (.getfield 16, 3)) (by decide +kernel) (by decide +kernel) h
theorem x_67_19 : Ev d 67 19 (a0 :: a1 :: .int x :: L) st μ Q = Ev d 67 20 (a0 :: a1 :: .int x :: L) (.int x :: st) μ Q := e_iload_n (by decide +kernel : decode (bOf 67) 19 = .ok (.iload_n 2, 1)) rfl
theorem x_67_20 : Ev d 67 20 L st μ Q = Ev d 67 21 L (.int (iI 1) :: st) μ Q := e_iconst (by decide +kernel : decode (bOf 67) 20 = .ok (.iconst 1, 1))
theorem x_67_21 : Ev d 67 21 L (.int y :: .int x :: st) μ Q = Ev d 67 22 L (.int (x - y) :: st) μ Q := e_isub (by decide +kernel : decode (bOf 67) 21 = .ok (.isub, 1))
theorem x_67_22 : Ev d 67 22 (.ref r :: L) st μ Q = Ev d 67 23 (.ref r :: L) (.ref r :: st) μ Q := e_aload_n (by decide +kernel : decode (bOf 67) 22 = .ok (.aload_n 0, 1)) rfl
theorem x_67_23 (h : kd t r = 4) : Ev d 67 23 L (.ref r :: st) (t, V, A, P) Q = Ev d 67 26 L (V r 1 :: st) (t, V, A, P) Q := e_getf (by decide +kernel : decode (bOf 67) 23 = .ok (.getfield 16, 3)) (by decide +kernel) (by decide +kernel) h
theorem x_67_26 : Ev d 67 26 (a0 :: a1 :: .int x :: L) st μ Q = Ev d 67 27 (a0 :: a1 :: .int x :: L) (.int x :: st) μ Q := e_iload_n (by decide +kernel : decode (bOf 67) 26 = .ok (.iload_n 2, 1)) rfl
theorem x_67_27 (h : kd t r = 9) (hi : inB x (ln t r) = true) : Ev d 67 27 L (.int x :: .ref r :: st) (t, V, A, P) Q = Ev d 67 28 L (va_rf (P r x.toNatClampNeg) :: st) (t, V, A, P) Q := e_aald 9 (by omega) (by decide +kernel : decode (bOf 67) 27 = .ok (.aaload, 1)) h hi
theorem x_67_28 (h : kd t r = 9) (hv : kd t q = 3) (hi : inB x (ln t r) = true) : Ev d 67 28 L (.ref q :: .int x :: .ref r :: st) (t, V, A, P) Q = Ev d 67 29 L st (t, V, A, up1 P r (up1 (P r) x.toNatClampNeg (some q))) Q := e_aast9 (by decide +kernel : decode (bOf 67) 28 = .ok (.aastore, 1)) h hv hi
theorem x_67_29 (h : a1.category = 1) : Ev d 67 29 (a0 :: a1 :: .int x :: L) st μ Q = Ev d 67 32 (a0 :: a1 :: .int (x + (iI 1)) :: L) st μ Q := e_iinc (by decide +kernel : decode (bOf 67) 29 = .ok (.iinc 2 1, 3)) rfl (by simp [stOK, h])
theorem x_67_32 : Ev d 67 32 L st μ Q = Ev d 67 9 L st μ Q := e_goto (by decide +kernel : decode (bOf 67) 32 = .ok (.goto (-23), 3)) (by omega)
theorem x_67_35 : Ev d 67 35 (.ref r :: L) st μ Q = Ev d 67 36 (.ref r :: L) (.ref r :: st) μ Q := e_aload_n (by decide +kernel : decode (bOf 67) 35 = .ok (.aload_n 0, 1)) rfl
theorem x_67_36 (h : kd t r = 4) : Ev d 67 36 L (.ref r :: st) (t, V, A, P) Q = Ev d 67 39 L (V r 1 :: st) (t, V, A, P) Q := e_getf (by decide +kernel : decode (bOf 67) 36 = .ok (.getfield 16, 3)) (by decide +kernel) (by decide +kernel) h
theorem x_67_39 : Ev d 67 39 L st μ Q = Ev d 67 40 L (.int (iI 5) :: st) μ Q := e_iconst (by decide +kernel : decode (bOf 67) 39 = .ok (.iconst 5, 1))
theorem x_67_40 : Ev d 67 40 (a0 :: .ref r :: L) st μ Q = Ev d 67 41 (a0 :: .ref r :: L) (.ref r :: st) μ Q := e_aload_n (by decide +kernel : decode (bOf 67) 40 = .ok (.aload_n 1, 1)) rfl
theorem x_67_41 (h : kd t r = 9) (hv : kd t q = 3) (hi : inB x (ln t r) = true) : Ev d 67 41 L (.ref q :: .int x :: .ref r :: st) (t, V, A, P) Q = Ev d 67 42 L st (t, V, A, up1 P r (up1 (P r) x.toNatClampNeg (some q))) Q := e_aast9 (by decide +kernel : decode (bOf 67) 41 = .ok (.aastore, 1)) h hv hi
theorem x_67_42 : Ev d 67 42 (.ref r :: L) st μ Q = Ev d 67 43 (.ref r :: L) (.ref r :: st) μ Q := e_aload_n (by decide +kernel : decode (bOf 67) 42 = .ok (.aload_n 0, 1)) rfl
theorem x_67_43 : Ev d 67 43 L st μ Q = Ev d 67 44 L (.int (iI 5) :: st) μ Q := e_iconst (by decide +kernel : decode (bOf 67) 43 = .ok (.iconst 5, 1))
theorem x_67_44 (h : kd t r = 4) : Ev d 67 44 L (.int x :: .ref r :: st) (t, V, A, P) Q = Ev d 67 47 L st (t, up1 V r (up1 (V r) 11 (.int x)), A, P) Q := e_putf (by decide +kernel : decode (bOf 67) 44 = .ok (.putfield 93, 3)) (by decide +kernel) (by decide +kernel) rfl h
theorem x_67_47 : Ev d 67 47 L [] μ Q = Q none μ := e_ret (by decide +kernel : decode (bOf 67) 47 = .ok (.return_, 1)) (by decide +kernel)
theorem c_68 : Call (d + 1) 68 [.ref r0] μ Q = Ev d 68 0 [.ref r0, .null] [] μ Q := call_ev rfl rfl
theorem x_68_0 : Ev d 68 0 (.ref r :: L) st μ Q = Ev d 68 1 (.ref r :: L) (.ref r :: st) μ Q := e_aload_n (by decide +kernel : decode (bOf 68) 0 = .ok (.aload_n 0, 1)) rfl
theorem x_68_1 (h : kd t r = 4) : Ev d 68 1 L (.ref r :: st) (t, V, A, P) Q = Ev d 68 4 L (V r 8 :: st) (t, V, A, P) Q := e_getf (by decide +kernel : decode (bOf 68) 1 = .ok (.getfield 51, 3)) (by decide +kernel) (by decide +kernel) h
theorem x_68_4 : Ev d 68 4 L st μ Q = Ev d 68 5 L (.int (iI (-1)) :: st) μ Q := e_iconst (by decide +kernel : decode (bOf 68) 4 = .ok (.iconst (-1), 1))
theorem x_68_5 (h : kd t r = 2) : Ev d 68 5 L [b0, .ref r] (t, V, A, P) Q = Call d 24 [.ref r, b0] (t, V, A, P) (fun v μ1 => Ev d 68 8 L (v.toList ++ []) μ1 Q) := e_callV (a := [b0]) (r := []) (by decide +kernel : decode (bOf 68) 5 = .ok (.invokevirtual 175, 3)) (by decide +kernel) (by decide +kernel) (by decide +kernel) (by omega) rfl (by simp) (by decide +kernel) h
theorem x_68_8 : Ev d 68 8 L st μ Q = Ev d 68 9 L (.int (iI 0) :: st) μ Q := e_iconst (by decide +kernel : decode (bOf 68) 8 = .ok (.iconst 0, 1))
theorem x_68_9 (h : a0.category = 1) : Ev d 68 9 (a0 :: a1 :: L) (.int x :: st) μ Q = Ev d 68 10 (a0 :: .int x :: L) st μ Q := e_istore_n (by decide +kernel : decode (bOf 68) 9 = .ok (.istore_n 1, 1)) (by show stOK _ 1 = true; simp [stOK, h])
theorem x_68_10 : Ev d 68 10 (a0 :: .int x :: L) st μ Q = Ev d 68 11 (a0 :: .int x :: L) (.int x :: st) μ Q := e_iload_n (by decide +kernel : decode (bOf 68) 10 = .ok (.iload_n 1, 1)) rfl
theorem x_68_11 : Ev d 68 11 (.ref r :: L) st μ Q = Ev d 68 12 (.ref r :: L) (.ref r :: st) μ Q := e_aload_n (by decide +kernel : decode (bOf 68) 11 = .ok (.aload_n 0, 1)) rfl
theorem x_68_12 (h : kd t r = 4) : Ev d 68 12 L (.ref r :: st) (t, V, A, P) Q = Ev d 68 15 L (V r 0 :: st) (t, V, A, P) Q := e_getf (by decide +kernel : decode (bOf 68) 12 = .ok (.getfield 12, 3)) (by decide +kernel) (by decide +kernel) h
theorem x_68_15 (h : kd t r = 3) : Ev d 68 15 L [.ref r, s0] (t, V, A, P) Q = Call d 35 [.ref r] (t, V, A, P) (fun v μ1 => Ev d 68 18 L (v.toList ++ [s0]) μ1 Q) := e_callV (a := []) (r := [s0]) (by decide +kernel : decode (bOf 68) 15 = .ok (.invokevirtual 178, 3)) (by decide +kernel) (by decide +kernel) (by decide +kernel) (by omega) rfl (by simp) (by decide +kernel) h
theorem x_68_18 : Ev d 68 18 L (.int y :: .int x :: st) μ Q = if x < y then Ev d 68 21 L st μ Q else Ev d 68 42 L st μ Q := e_icmp_ge (by decide +kernel : decode (bOf 68) 18 = .ok (.if_icmp .ge 24, 3)) (by omega)
theorem x_68_21 : Ev d 68 21 (.ref r :: L) st μ Q = Ev d 68 22 (.ref r :: L) (.ref r :: st) μ Q := e_aload_n (by decide +kernel : decode (bOf 68) 21 = .ok (.aload_n 0, 1)) rfl
theorem x_68_22 (h : kd t r = 4) : Ev d 68 22 L (.ref r :: st) (t, V, A, P) Q = Ev d 68 25 L (V r 8 :: st) (t, V, A, P) Q := e_getf (by decide +kernel : decode (bOf 68) 22 = .ok (.getfield 51, 3)) (by decide +kernel) (by decide +kernel) h
theorem x_68_25 : Ev d 68 25 (.ref r :: L) st μ Q = Ev d 68 26 (.ref r :: L) (.ref r :: st) μ Q := e_aload_n (by decide +kernel : decode (bOf 68) 25 = .ok (.aload_n 0, 1)) rfl
theorem x_68_26 (h : kd t r = 4) : Ev d 68 26 L (.ref r :: st) (t, V, A, P) Q = Ev d 68 29 L (V r 0 :: st) (t, V, A, P) Q := e_getf (by decide +kernel : decode (bOf 68) 26 = .ok (.getfield 12, 3)) (by decide +kernel) (by decide +kernel) h
theorem x_68_29 : Ev d 68 29 (a0 :: .int x :: L) st μ Q = Ev d 68 30 (a0 :: .int x :: L) (.int x :: st) μ Q := e_iload_n (by decide +kernel : decode (bOf 68) 29 = .ok (.iload_n 1, 1)) rfl
theorem x_68_30 (h : kd t r = 3) : Ev d 68 30 L [b0, .ref r, s0] (t, V, A, P) Q = Call d 37 [.ref r, b0] (t, V, A, P) (fun v μ1 => Ev d 68 33 L (v.toList ++ [s0]) μ1 Q) := e_callV (a := [b0]) (r := [s0]) (by decide +kernel : decode (bOf 68) 30 = .ok (.invokevirtual 87, 3)) (by decide +kernel) (by decide +kernel) (by decide +kernel) (by omega) rfl (by simp) (by decide +kernel) h
theorem x_68_33 (h : kd t r = 2) : Ev d 68 33 L [b0, .ref r] (t, V, A, P) Q = Call d 26 [.ref r, b0] (t, V, A, P) (fun v μ1 => Ev d 68 36 L (v.toList ++ []) μ1 Q) := e_callV (a := [b0]) (r := []) (by decide +kernel : decode (bOf 68) 33 = .ok (.invokevirtual 181, 3)) (by decide +kernel) (by decide +kernel) (by decide +kernel) (by omega) rfl (by simp) (by decide +kernel) h
theorem x_68_36 (h : a0.category = 1) : Ev d 68 36 (a0 :: .int x :: L) st μ Q = Ev d 68 39 (a0 :: .int (x + (iI 1)) :: L) st μ Q := e_iinc (by decide +kernel : decode (bOf 68) 36 = .ok (.iinc 1 1, 3)) rfl (by simp [stOK, h])
theorem x_68_39 : Ev d 68 39 L st μ Q = Ev d 68 10 L st μ Q := e_goto (by decide +kernel : decode (bOf 68) 39 = .ok (.goto (-29), 3)) (by omega)
theorem x_68_42 : Ev d 68 42 (.ref r :: L) st μ Q = Ev d 68 43 (.ref r :: L) (.ref r :: st) μ Q := e_aload_n (by decide +kernel : decode (bOf 68) 42 = .ok (.aload_n 0, 1)) rfl
theorem x_68_43 (h : kd t r = 4) : Ev d 68 43 L (.ref r :: st) (t, V, A, P) Q = Ev d 68 46 L (V r 8 :: st) (t, V, A, P) Q := e_getf (by decide +kernel : decode (bOf 68) 43 = .ok (.getfield 51, 3)) (by decide +kernel) (by decide +kernel) h
theorem x_68_46 (h : kd t r = 2) : Ev d 68 46 L (.ref r :: st) (t, V, A, P) Q = Ev d 68 49 L (V r 4 :: st) (t, V, A, P) Q := e_getf (by decide +kernel : decode (bOf 68) 46 = .ok (.getfield 219, 3)) (by decide +kernel) (by decide +kernel) h
theorem x_68_49 : Ev d 68 49 L [.int x] μ Q = Q (some (.int x)) μ := e_iret (by decide +kernel : decode (bOf 68) 49 = .ok (.ireturn, 1)) (by decide +kernel)
theorem c_69 : Call (d + 1) 69 [.ref r0] μ Q = Ev d 69 0 [.ref r0, .null, .null] [] μ Q := call_ev rfl rfl
theorem x_69_0 : Ev d 69 0 L st μ Q = Ev d 69 1 L (.int (iI 0) :: st) μ Q := e_iconst (by decide +kernel : decode (bOf 69) 0 = .ok (.iconst 0, 1))
theorem x_69_1 (h : a0.category = 1) : Ev d 69 1 (a0 :: a1 :: L) (.int x :: st) μ Q = Ev d 69 2 (a0 :: .int x :: L) st μ Q := e_istore_n (by decide +kernel : decode (bOf 69) 1 = .ok (.istore_n 1, 1)) (by show stOK _ 1 = true; simp [stOK, h])
theorem x_69_2 : Ev d 69 2 (.ref r :: L) st μ Q = Ev d 69 3 (.ref r :: L) (.ref r :: st) μ Q := e_aload_n (by decide +kernel : decode (bOf 69) 2 = .ok (.aload_n 0, 1)) rfl
theorem x_69_3 : Ev d 69 3 L st μ Q = Ev d 69 4 L (.int (iI 0) :: st) μ Q := e_iconst (by decide +kernel : decode (bOf 69) 3 = .ok (.iconst 0, 1))
theorem x_69_4 (h : kd t r = 4) : Ev d 69 4 L (.int x :: .ref r :: st) (t, V, A, P) Q = Ev d 69 7 L st (t, up1 V r (up1 (V r) 10 (.int x)), A, P) Q := e_putf (by decide +kernel : decode (bOf 69) 4 = .ok (.putfield 66, 3)) (by decide +kernel) (by decide +kernel) rfl h
theorem x_69_7 : Ev d 69 7 L st μ Q = Ev d 69 8 L (.int (iI 0) :: st) μ Q := e_iconst (by decide +kernel : decode (bOf 69) 7 = .ok (.iconst 0, 1))
theorem x_69_8 (h : a1.category = 1) : Ev d 69 8 (a0 :: a1 :: a2 :: L) (.int x :: st) μ Q = Ev d 69 9 (a0 :: a1 :: .int x :: L) st μ Q := e_istore_n (by decide +kernel : decode (bOf 69) 8 = .ok (.istore_n 2, 1)) (by show stOK _ 2 = true; simp [stOK, h])
theorem x_69_9 : Ev d 69 9 (a0 :: a1 :: .int x :: L) st μ Q = Ev d 69 10 (a0 :: a1 :: .int x :: L) (.int x :: st) μ Q := e_iload_n (by decide +kernel : decode (bOf 69) 9 = .ok (.iload_n 2, 1)) rfl
theorem x_69_10 : Ev d 69 10 (.ref r :: L) st μ Q = Ev d 69 11 (.ref r :: L) (.ref r :: st) μ Q := e_aload_n (by decide +kernel : decode (bOf 69) 10 = .ok (.aload_n 0, 1)) rfl
theorem x_69_11 (h : kd t r = 4) : Ev d 69 11 L (.ref r :: st) (t, V, A, P) Q = Ev d 69 14 L (V r 9 :: st) (t, V, A, P) Q := e_getf (by decide +kernel : decode (bOf 69) 11 = .ok (.getfield 55, 3)) (by decide +kernel) (by decide +kernel) h
theorem x_69_14 : Ev d 69 14 L (.int y :: .int x :: st) μ Q = if x < y then Ev d 69 17 L st μ Q else Ev d 69 45 L st μ Q := e_icmp_ge (by decide +kernel : decode (bOf 69) 14 = .ok (.if_icmp .ge 31, 3)) (by omega)
theorem x_69_17 : Ev d 69 17 (.ref r :: L) st μ Q = Ev d 69 18 (.ref r :: L) (.ref r :: st) μ Q := e_aload_n (by decide +kernel : decode (bOf 69) 17 = .ok (.aload_n 0, 1)) rfl
theorem x_69_18 : Ev d 69 18 (a0 :: a1 :: .int x :: L) st μ Q = Ev d 69 19 (a0 :: a1 :: .int x :: L) (.int x :: st) μ Q := e_iload_n (by decide +kernel : decode (bOf 69) 18 = .ok (.iload_n 2, 1)) rfl
theorem x_69_19 (h : kd t r = 4) : Ev d 69 19 L [b0, .ref r] (t, V, A, P) Q = Call d 70 [.ref r, b0] (t, V, A, P) (fun v μ1 => Ev d 69 22 L (v.toList ++ []) μ1 Q) := e_callV (a := [b0]) (r := []) (by decide +kernel : decode (bOf 69) 19 = .ok (.invokevirtual 222, 3)) (by decide +kernel) (by decide +kernel) (by decide +kernel) (by omega) rfl (by simp) (by decide +kernel) h
theorem x_69_22 : Ev d 69 22 L (.int x :: st) μ Q = if x = iI 0 then Ev d 69 39 L st μ Q else Ev d 69 25 L st μ Q := e_if_eq (by decide +kernel : decode (bOf 69) 22 = .ok (.ifCond .eq 17, 3)) (by omega)
theorem x_69_25 : Ev d 69 25 (.ref r :: L) st μ Q = Ev d 69 26 (.ref r :: L) (.ref r :: st) μ Q := e_aload_n (by decide +kernel : decode (bOf 69) 25 = .ok (.aload_n 0, 1)) rfl
theorem x_69_26 : Ev d 69 26 (a0 :: .int x :: L) st μ Q = Ev d 69 27 (a0 :: .int x :: L) (.int x :: st) μ Q := e_iload_n (by decide +kernel : decode (bOf 69) 26 = .ok (.iload_n 1, 1)) rfl
theorem x_69_27 : Ev d 69 27 (a0 :: a1 :: .int x :: L) st μ Q = Ev d 69 28 (a0 :: a1 :: .int x :: L) (.int x :: st) μ Q := e_iload_n (by decide +kernel : decode (bOf 69) 27 = .ok (.iload_n 2, 1)) rfl
theorem x_69_28 (h : kd t r = 4) : Ev d 69 28 L [b1, b0, .ref r] (t, V, A, P) Q = Call d 71 [.ref r, b0, b1] (t, V, A, P) (fun v μ1 => Ev d 69 31 L (v.toList ++ []) μ1 Q) := e_callV (a := [b0, b1]) (r := []) (by decide +kernel : decode (bOf 69) 28 = .ok (.invokevirtual 225, 3)) (by decide +kernel) (by decide +kernel) (by decide +kernel) (by omega) rfl (by simp) (by decide +kernel) h
theorem x_69_31 (h : a0.category = 1) : Ev d 69 31 (a0 :: a1 :: L) (.int x :: st) μ Q = Ev d 69 32 (a0 :: .int x :: L) st μ Q := e_istore_n (by decide +kernel : decode (bOf 69) 31 = .ok (.istore_n 1, 1)) (by show stOK _ 1 = true; simp [stOK, h])
theorem x_69_32 : Ev d 69 32 (a0 :: .int x :: L) st μ Q = Ev d 69 33 (a0 :: .int x :: L) (.int x :: st) μ Q := e_iload_n (by decide +kernel : decode (bOf 69) 32 = .ok (.iload_n 1, 1)) rfl
theorem x_69_33 : Ev d 69 33 L st μ Q = Ev d 69 34 L (.int (iI (-1)) :: st) μ Q := e_iconst (by decide +kernel : decode (bOf 69) 33 = .ok (.iconst (-1), 1))
theorem x_69_34 : Ev d 69 34 L (.int y :: .int x :: st) μ Q = if x = y then Ev d 69 37 L st μ Q else Ev d 69 39 L st μ Q := e_icmp_ne (by decide +kernel : decode (bOf 69) 34 = .ok (.if_icmp .ne 5, 3)) (by omega)
theorem x_69_37 : Ev d 69 37 (a0 :: a1 :: .int x :: L) st μ Q = Ev d 69 38 (a0 :: a1 :: .int x :: L) (.int x :: st) μ Q := e_iload_n (by decide +kernel : decode (bOf 69) 37 = .ok (.iload_n 2, 1)) rfl
theorem x_69_38 : Ev d 69 38 L [.int x] μ Q = Q (some (.int x)) μ := e_iret (by decide +kernel : decode (bOf 69) 38 = .ok (.ireturn, 1)) (by decide +kernel)
theorem x_69_39 (h : a1.category = 1) : Ev d 69 39 (a0 :: a1 :: .int x :: L) st μ Q = Ev d 69 42 (a0 :: a1 :: .int (x + (iI 1)) :: L) st μ Q := e_iinc (by decide +kernel : decode (bOf 69) 39 = .ok (.iinc 2 1, 3)) rfl (by simp [stOK, h])
theorem x_69_42 : Ev d 69 42 L st μ Q = Ev d 69 9 L st μ Q := e_goto (by decide +kernel : decode (bOf 69) 42 = .ok (.goto (-33), 3)) (by omega)
theorem x_69_45 : Ev d 69 45 (a0 :: .int x :: L) st μ Q = Ev d 69 46 (a0 :: .int x :: L) (.int x :: st) μ Q := e_iload_n (by decide +kernel : decode (bOf 69) 45 = .ok (.iload_n 1, 1)) rfl
theorem x_69_46 : Ev d 69 46 L (.int x :: st) μ Q = if x = iI 0 then Ev d 69 49 L st μ Q else Ev d 69 60 L st μ Q := e_if_ne (by decide +kernel : decode (bOf 69) 46 = .ok (.ifCond .ne 14, 3)) (by omega)
theorem x_69_49 : Ev d 69 49 (.ref r :: L) st μ Q = Ev d 69 50 (.ref r :: L) (.ref r :: st) μ Q := e_aload_n (by decide +kernel : decode (bOf 69) 49 = .ok (.aload_n 0, 1)) rfl
theorem x_69_50 (h : kd t r = 4) : Ev d 69 50 L (.ref r :: st) (t, V, A, P) Q = Ev d 69 53 L (V r 10 :: st) (t, V, A, P) Q := e_getf (by decide +kernel : decode (bOf 69) 50 = .ok (.getfield 66, 3)) (by decide +kernel) (by decide +kernel) h
theorem x_69_53 : Ev d 69 53 L (.int x :: st) μ Q = if iI 0 < x then Ev d 69 56 L st μ Q else Ev d 69 60 L st μ Q := e_if_le (by decide +kernel : decode (bOf 69) 53 = .ok (.ifCond .le 7, 3)) (by omega)
theorem x_69_56 : Ev d 69 56 L st μ Q = Ev d 69 57 L (.int (iI (-1)) :: st) μ Q := e_iconst (by decide +kernel : decode (bOf 69) 56 = .ok (.iconst (-1), 1))
theorem x_69_57 : Ev d 69 57 L st μ Q = Ev d 69 64 L st μ Q := e_goto (by decide +kernel : decode (bOf 69) 57 = .ok (.goto 7, 3)) (by omega)
theorem x_69_60 : Ev d 69 60 (.ref r :: L) st μ Q = Ev d 69 61 (.ref r :: L) (.ref r :: st) μ Q := e_aload_n (by decide +kernel : decode (bOf 69) 60 = .ok (.aload_n 0, 1)) rfl
theorem x_69_61 (h : kd t r = 4) : Ev d 69 61 L (.ref r :: st) (t, V, A, P) Q = Ev d 69 64 L (V r 9 :: st) (t, V, A, P) Q := e_getf (by decide +kernel : decode (bOf 69) 61 = .ok (.getfield 55, 3)) (by decide +kernel) (by decide +kernel) h
theorem x_69_64 : Ev d 69 64 L [.int x] μ Q = Q (some (.int x)) μ := e_iret (by decide +kernel : decode (bOf 69) 64 = .ok (.ireturn, 1)) (by decide +kernel)
theorem c_70 : Call (d + 1) 70 [.ref r0, .int i1] μ Q = Ev d 70 0 [.ref r0, .int i1] [] μ Q := call_ev rfl rfl
theorem x_70_0 : Ev d 70 0 (.ref r :: L) st μ Q = Ev d 70 1 (.ref r :: L) (.ref r :: st) μ Q := e_aload_n (by decide +kernel : decode (bOf 70) 0 = .ok (.aload_n 0, 1)) rfl
theorem x_70_1 : Ev d 70 1 (a0 :: .int x :: L) st μ Q = Ev d 70 2 (a0 :: .int x :: L) (.int x :: st) μ Q := e_iload_n (by decide +kernel : decode (bOf 70) 1 = .ok (.iload_n 1, 1)) rfl
theorem x_70_2 (h : kd t r = 4) : Ev d 70 2 L [b0, .ref r] (t, V, A, P) Q = Call d 75 [.ref r, b0] (t, V, A, P) (fun v μ1 => Ev d 70 5 L (v.toList ++ []) μ1 Q) := e_callV (a := [b0]) (r := []) (by decide +kernel : decode (bOf 70) 2 = .ok (.invokevirtual 229, 3)) (by decide +kernel) (by decide +kernel) (by decide +kernel) (by omega) rfl (by simp) (by decide +kernel) h
theorem x_70_5 : Ev d 70 5 L st μ Q = Ev d 70 7 L (.int (iI 32) :: st) μ Q := e_bipush (by decide +kernel : decode (bOf 70) 5 = .ok (.bipush 32, 2)) (by decide +kernel)
theorem x_70_7 : Ev d 70 7 L (.int y :: .int x :: st) μ Q = if x = y then Ev d 70 32 L st μ Q else Ev d 70 10 L st μ Q := e_icmp_eq (by decide +kernel : decode (bOf 70) 7 = .ok (.if_icmp .eq 25, 3)) (by omega)
theorem x_70_10 : Ev d 70 10 (.ref r :: L) st μ Q = Ev d 70 11 (.ref r :: L) (.ref r :: st) μ Q := e_aload_n (by decide +kernel : decode (bOf 70) 10 = .ok (.aload_n 0, 1)) rfl
theorem x_70_11 : Ev d 70 11 (a0 :: .int x :: L) st μ Q = Ev d 70 12 (a0 :: .int x :: L) (.int x :: st) μ Q := e_iload_n (by decide +kernel : decode (bOf 70) 11 = .ok (.iload_n 1, 1)) rfl
theorem x_70_12 (h : kd t r = 4) : Ev d 70 12 L [b0, .ref r] (t, V, A, P) Q = Call d 74 [.ref r, b0] (t, V, A, P) (fun v μ1 => Ev d 70 15 L (v.toList ++ []) μ1 Q) := e_callV (a := [b0]) (r := []) (by decide +kernel : decode (bOf 70) 12 = .ok (.invokevirtual 232, 3)) (by decide +kernel) (by decide +kernel) (by decide +kernel) (by omega) rfl (by simp) (by decide +kernel) h
theorem x_70_15 : Ev d 70 15 L (.int x :: st) μ Q = if x < iI 0 then Ev d 70 28 L st μ Q else Ev d 70 18 L st μ Q := e_if_lt (by decide +kernel : decode (bOf 70) 15 = .ok (.ifCond .lt 13, 3)) (by omega)
theorem x_70_18 : Ev d 70 18 (.ref r :: L) st μ Q = Ev d 70 19 (.ref r :: L) (.ref r :: st) μ Q := e_aload_n (by decide +kernel : decode (bOf 70) 18 = .ok (.aload_n 0, 1)) rfl
theorem x_70_19 : Ev d 70 19 (a0 :: .int x :: L) st μ Q = Ev d 70 20 (a0 :: .int x :: L) (.int x :: st) μ Q := e_iload_n (by decide +kernel : decode (bOf 70) 19 = .ok (.iload_n 1, 1)) rfl
theorem x_70_20 : Ev d 70 20 L st μ Q = Ev d 70 21 L (.int (iI 1) :: st) μ Q := e_iconst (by decide +kernel : decode (bOf 70) 20 = .ok (.iconst 1, 1))
theorem x_70_21 : Ev d 70 21 L (.int y :: .int x :: st) μ Q = Ev d 70 22 L (.int (x - y) :: st) μ Q := e_isub (by decide +kernel : decode (bOf 70) 21 = .ok (.isub, 1))
theorem x_70_22 (h : kd t r = 4) : Ev d 70 22 L [b0, .ref r] (t, V, A, P) Q = Call d 74 [.ref r, b0] (t, V, A, P) (fun v μ1 => Ev d 70 25 L (v.toList ++ []) μ1 Q) := e_callV (a := [b0]) (r := []) (by decide +kernel : decode (bOf 70) 22 = .ok (.invokevirtual 232, 3)) (by decide +kernel) (by decide +kernel) (by decide +kernel) (by omega) rfl (by simp) (by decide +kernel) h
theorem x_70_25 : Ev d 70 25 L (.int x :: st) μ Q = if x < iI 0 then Ev d 70 28 L st μ Q else Ev d 70 32 L st μ Q := e_if_ge (by decide +kernel : decode (bOf 70) 25 = .ok (.ifCond .ge 7, 3)) (by omega)
theorem x_70_28 : Ev d 70 28 L st μ Q = Ev d 70 29 L (.int (iI 1) :: st) μ Q := e_iconst (by decide +kernel : decode (bOf 70) 28 = .ok (.iconst 1, 1))
theorem x_70_29 : Ev d 70 29 L st μ Q = Ev d 70 33 L st μ Q := e_goto (by decide +kernel : decode (bOf 70) 29 = .ok (.goto 4, 3)) (by omega)
theorem x_70_32 : Ev d 70 32 L st μ Q = Ev d 70 33 L (.int (iI 0) :: st) μ Q := e_iconst (by decide +kernel : decode (bOf 70) 32 = .ok (.iconst 0, 1))
theorem x_70_33 (hx : isB x) : Ev d 70 33 L [.int x] μ Q = Q (some (.int x)) μ := e_zret (by decide +kernel : decode (bOf 70) 33 = .ok (.ireturn, 1)) (by decide +kernel) hx
theorem c_71 : Call (d + 1) 71 [.ref r0, .int i1, .int i2] μ Q = Ev d 71 0 [.ref r0, .int i1, .int i2, .null] [] μ Q := call_ev rfl rfl
theorem x_71_0 : Ev d 71 0 (.ref r :: L) st μ Q = Ev d 71 1 (.ref r :: L) (.ref r :: st) μ Q := e_aload_n (by decide +kernel : decode (bOf 71) 0 = .ok (.aload_n 0, 1)) rfl
theorem x_71_1 : Ev d 71 1 (a0 :: a1 :: .int x :: L) st μ Q = Ev d 71 2 (a0 :: a1 :: .int x :: L) (.int x :: st) μ Q := e_iload_n (by decide +kernel : decode (bOf 71) 1 = .ok (.iload_n 2, 1)) rfl
theorem x_71_2 (h : kd t r = 4) : Ev d 71 2 L [b0, .ref r] (t, V, A, P) Q = Call d 75 [.ref r, b0] (t, V, A, P) (fun v μ1 => Ev d 71 5 L (v.toList ++ []) μ1 Q) := e_callV (a := [b0]) (r := []) (by decide +kernel : decode (bOf 71) 2 = .ok (.invokevirtual 229, 3)) (by decide +kernel) (by decide +kernel) (by decide +kernel) (by omega) rfl (by simp) (by decide +kernel) h
theorem x_71_5 (h : a2.category = 1) : Ev d 71 5 (a0 :: a1 :: a2 :: a3 :: L) (.int x :: st) μ Q = Ev d 71 6 (a0 :: a1 :: a2 :: .int x :: L) st μ Q := e_istore_n (by decide +kernel : decode (bOf 71) 5 = .ok (.istore_n 3, 1)) (by show stOK _ 3 = true; simp [stOK, h])
theorem x_71_6 : Ev d 71 6 (a0 :: .int x :: L) st μ Q = Ev d 71 7 (a0 :: .int x :: L) (.int x :: st) μ Q := e_iload_n (by decide +kernel : decode (bOf 71) 6 = .ok (.iload_n 1, 1)) rfl
theorem x_71_7 : Ev d 71 7 L (.int x :: st) μ Q = if x = iI 0 then Ev d 71 32 L st μ Q else if x = iI 1 then Ev d 71 52 L st μ Q else if x = iI 2 then Ev d 71 65 L st μ Q else Ev d 71 78 L st μ Q := by
  have hd : decode (bOf 71) 7 = .ok (.tableswitch 71 0 2 #[25, 45, 58], 25) := by decide +kernel
  by_cases h0 : x = iI 0
  · rw [if_pos h0]; exact e_sw hd (sw_in (off := 25) h0 (by omega) (by omega) (by omega) rfl (by omega))
  rw [if_neg h0]
  by_cases h1 : x = iI 1
  · rw [if_pos h1]; exact e_sw hd (sw_in (off := 45) h1 (by omega) (by omega) (by omega) rfl (by omega))
  rw [if_neg h1]
  by_cases h2 : x = iI 2
  · rw [if_pos h2]; exact e_sw hd (sw_in (off := 58) h2 (by omega) (by omega) (by omega) rfl (by omega))
  rw [if_neg h2]
  have g0 := ne_toInt h0
  have g1 := ne_toInt h1
  have g2 := ne_toInt h2
  exact e_sw hd (sw_out (by omega) (by omega))
theorem x_71_32 : Ev d 71 32 (a0 :: a1 :: a2 :: .int x :: L) st μ Q = Ev d 71 33 (a0 :: a1 :: a2 :: .int x :: L) (.int x :: st) μ Q := e_iload_n (by decide +kernel : decode (bOf 71) 32 = .ok (.iload_n 3, 1)) rfl
theorem x_71_33 : Ev d 71 33 L st μ Q = Ev d 71 35 L (.int (iI 100) :: st) μ Q := e_bipush (by decide +kernel : decode (bOf 71) 33 = .ok (.bipush 100, 2)) (by decide +kernel)
theorem x_71_35 : Ev d 71 35 L (.int y :: .int x :: st) μ Q = if x = y then Ev d 71 38 L st μ Q else Ev d 71 40 L st μ Q := e_icmp_ne (by decide +kernel : decode (bOf 71) 35 = .ok (.if_icmp .ne 5, 3)) (by omega)
theorem x_71_38 : Ev d 71 38 L st μ Q = Ev d 71 39 L (.int (iI 1) :: st) μ Q := e_iconst (by decide +kernel : decode (bOf 71) 38 = .ok (.iconst 1, 1))
theorem x_71_39 : Ev d 71 39 L [.int x] μ Q = Q (some (.int x)) μ := e_iret (by decide +kernel : decode (bOf 71) 39 = .ok (.ireturn, 1)) (by decide +kernel)
theorem x_71_40 : Ev d 71 40 (a0 :: a1 :: a2 :: .int x :: L) st μ Q = Ev d 71 41 (a0 :: a1 :: a2 :: .int x :: L) (.int x :: st) μ Q := e_iload_n (by decide +kernel : decode (bOf 71) 40 = .ok (.iload_n 3, 1)) rfl
theorem x_71_41 : Ev d 71 41 L st μ Q = Ev d 71 43 L (.int (iI 107) :: st) μ Q := e_bipush (by decide +kernel : decode (bOf 71) 41 = .ok (.bipush 107, 2)) (by decide +kernel)
theorem x_71_43 : Ev d 71 43 L (.int y :: .int x :: st) μ Q = if x = y then Ev d 71 46 L st μ Q else Ev d 71 50 L st μ Q := e_icmp_ne (by decide +kernel : decode (bOf 71) 43 = .ok (.if_icmp .ne 7, 3)) (by omega)
theorem x_71_46 : Ev d 71 46 L st μ Q = Ev d 71 47 L (.int (iI 2) :: st) μ Q := e_iconst (by decide +kernel : decode (bOf 71) 46 = .ok (.iconst 2, 1))
theorem x_71_47 : Ev d 71 47 L st μ Q = Ev d 71 51 L st μ Q := e_goto (by decide +kernel : decode (bOf 71) 47 = .ok (.goto 4, 3)) (by omega)
theorem x_71_50 : Ev d 71 50 L st μ Q = Ev d 71 51 L (.int (iI (-1)) :: st) μ Q := e_iconst (by decide +kernel : decode (bOf 71) 50 = .ok (.iconst (-1), 1))
theorem x_71_51 : Ev d 71 51 L [.int x] μ Q = Q (some (.int x)) μ := e_iret (by decide +kernel : decode (bOf 71) 51 = .ok (.ireturn, 1)) (by decide +kernel)
theorem x_71_52 : Ev d 71 52 (.ref r :: L) st μ Q = Ev d 71 53 (.ref r :: L) (.ref r :: st) μ Q := e_aload_n (by decide +kernel : decode (bOf 71) 52 = .ok (.aload_n 0, 1)) rfl
theorem x_71_53 : Ev d 71 53 (.ref r :: L) st μ Q = Ev d 71 54 (.ref r :: L) (.ref r :: st) μ Q := e_aload_n (by decide +kernel : decode (bOf 71) 53 = .ok (.aload_n 0, 1)) rfl
theorem x_71_54 : Ev d 71 54 (a0 :: a1 :: .int x :: L) st μ Q = Ev d 71 55 (a0 :: a1 :: .int x :: L) (.int x :: st) μ Q := e_iload_n (by decide +kernel : decode (bOf 71) 54 = .ok (.iload_n 2, 1)) rfl
theorem x_71_55 (h : kd t r = 4) : Ev d 71 55 L [b0, .ref r, s0] (t, V, A, P) Q = Call d 73 [.ref r, b0] (t, V, A, P) (fun v μ1 => Ev d 71 58 L (v.toList ++ [s0]) μ1 Q) := e_callV (a := [b0]) (r := [s0]) (by decide +kernel : decode (bOf 71) 55 = .ok (.invokevirtual 235, 3)) (by decide +kernel) (by decide +kernel) (by decide +kernel) (by omega) rfl (by simp) (by decide +kernel) h
theorem x_71_58 : Ev d 71 58 L st μ Q = Ev d 71 59 L (.int (iI 0) :: st) μ Q := e_iconst (by decide +kernel : decode (bOf 71) 58 = .ok (.iconst 0, 1))
theorem x_71_59 : Ev d 71 59 L st μ Q = Ev d 71 61 L (.int (iI 31) :: st) μ Q := e_bipush (by decide +kernel : decode (bOf 71) 59 = .ok (.bipush 31, 2)) (by decide +kernel)
theorem x_71_61 (h : kd t r = 4) : Ev d 71 61 L [b2, b1, b0, .ref r] (t, V, A, P) Q = Call d 72 [.ref r, b0, b1, b2] (t, V, A, P) (fun v μ1 => Ev d 71 64 L (v.toList ++ []) μ1 Q) := e_callV (a := [b0, b1, b2]) (r := []) (by decide +kernel : decode (bOf 71) 61 = .ok (.invokevirtual 238, 3)) (by decide +kernel) (by decide +kernel) (by decide +kernel) (by omega) rfl (by simp) (by decide +kernel) h
theorem x_71_64 : Ev d 71 64 L [.int x] μ Q = Q (some (.int x)) μ := e_iret (by decide +kernel : decode (bOf 71) 64 = .ok (.ireturn, 1)) (by decide +kernel)
theorem x_71_65 : Ev d 71 65 (.ref r :: L) st μ Q = Ev d 71 66 (.ref r :: L) (.ref r :: st) μ Q := e_aload_n (by decide +kernel : decode (bOf 71) 65 = .ok (.aload_n 0, 1)) rfl
theorem x_71_66 : Ev d 71 66 (.ref r :: L) st μ Q = Ev d 71 67 (.ref r :: L) (.ref r :: st) μ Q := e_aload_n (by decide +kernel : decode (bOf 71) 66 = .ok (.aload_n 0, 1)) rfl
theorem x_71_67 : Ev d 71 67 (a0 :: a1 :: .int x :: L) st μ Q = Ev d 71 68 (a0 :: a1 :: .int x :: L) (.int x :: st) μ Q := e_iload_n (by decide +kernel : decode (bOf 71) 67 = .ok (.iload_n 2, 1)) rfl
theorem x_71_68 (h : kd t r = 4) : Ev d 71 68 L [b0, .ref r, s0] (t, V, A, P) Q = Call d 73 [.ref r, b0] (t, V, A, P) (fun v μ1 => Ev d 71 71 L (v.toList ++ [s0]) μ1 Q) := e_callV (a := [b0]) (r := [s0]) (by decide +kernel : decode (bOf 71) 68 = .ok (.invokevirtual 235, 3)) (by decide +kernel) (by decide +kernel) (by decide +kernel) (by omega) rfl (by simp) (by decide +kernel) h
theorem x_71_71 : Ev d 71 71 L st μ Q = Ev d 71 73 L (.int (iI 31) :: st) μ Q := e_bipush (by decide +kernel : decode (bOf 71) 71 = .ok (.bipush 31, 2)) (by decide +kernel)
theorem x_71_73 : Ev d 71 73 L st μ Q = Ev d 71 74 L (.int (iI 3) :: st) μ Q := e_iconst (by decide +kernel : decode (bOf 71) 73 = .ok (.iconst 3, 1))
theorem x_71_74 (h : kd t r = 4) : Ev d 71 74 L [b2, b1, b0, .ref r] (t, V, A, P) Q = Call d 72 [.ref r, b0, b1, b2] (t, V, A, P) (fun v μ1 => Ev d 71 77 L (v.toList ++ []) μ1 Q) := e_callV (a := [b0, b1, b2]) (r := []) (by decide +kernel : decode (bOf 71) 74 = .ok (.invokevirtual 238, 3)) (by decide +kernel) (by decide +kernel) (by decide +kernel) (by omega) rfl (by simp) (by decide +kernel) h
theorem x_71_77 : Ev d 71 77 L [.int x] μ Q = Q (some (.int x)) μ := e_iret (by decide +kernel : decode (bOf 71) 77 = .ok (.ireturn, 1)) (by decide +kernel)
theorem x_71_78 : Ev d 71 78 (a0 :: a1 :: a2 :: .int x :: L) st μ Q = Ev d 71 79 (a0 :: a1 :: a2 :: .int x :: L) (.int x :: st) μ Q := e_iload_n (by decide +kernel : decode (bOf 71) 78 = .ok (.iload_n 3, 1)) rfl
theorem x_71_79 : Ev d 71 79 L st μ Q = Ev d 71 81 L (.int (iI 59) :: st) μ Q := e_bipush (by decide +kernel : decode (bOf 71) 79 = .ok (.bipush 59, 2)) (by decide +kernel)
theorem x_71_81 : Ev d 71 81 L (.int y :: .int x :: st) μ Q = if x = y then Ev d 71 84 L st μ Q else Ev d 71 88 L st μ Q := e_icmp_ne (by decide +kernel : decode (bOf 71) 81 = .ok (.if_icmp .ne 7, 3)) (by omega)
theorem x_71_84 : Ev d 71 84 L st μ Q = Ev d 71 85 L (.int (iI 0) :: st) μ Q := e_iconst (by decide +kernel : decode (bOf 71) 84 = .ok (.iconst 0, 1))
theorem x_71_85 : Ev d 71 85 L st μ Q = Ev d 71 89 L st μ Q := e_goto (by decide +kernel : decode (bOf 71) 85 = .ok (.goto 4, 3)) (by omega)
theorem x_71_88 : Ev d 71 88 L st μ Q = Ev d 71 89 L (.int (iI (-1)) :: st) μ Q := e_iconst (by decide +kernel : decode (bOf 71) 88 = .ok (.iconst (-1), 1))
theorem x_71_89 : Ev d 71 89 L [.int x] μ Q = Q (some (.int x)) μ := e_iret (by decide +kernel : decode (bOf 71) 89 = .ok (.ireturn, 1)) (by decide +kernel)
theorem c_72 : Call (d + 1) 72 [.ref r0, .int i1, .int i2, .int i3] μ Q = Ev d 72 0 [.ref r0, .int i1, .int i2, .int i3] [] μ Q := call_ev rfl rfl
theorem x_72_0 : Ev d 72 0 (a0 :: .int x :: L) st μ Q = Ev d 72 1 (a0 :: .int x :: L) (.int x :: st) μ Q := e_iload_n (by decide +kernel : decode (bOf 72) 0 = .ok (.iload_n 1, 1)) rfl
theorem x_72_1 : Ev d 72 1 L (.int x :: st) μ Q = if x < iI 0 then Ev d 72 25 L st μ Q else Ev d 72 4 L st μ Q := e_if_lt (by decide +kernel : decode (bOf 72) 1 = .ok (.ifCond .lt 24, 3)) (by omega)
theorem x_72_4 : Ev d 72 4 (a0 :: .int x :: L) st μ Q = Ev d 72 5 (a0 :: .int x :: L) (.int x :: st) μ Q := e_iload_n (by decide +kernel : decode (bOf 72) 4 = .ok (.iload_n 1, 1)) rfl
theorem x_72_5 : Ev d 72 5 (a0 :: a1 :: a2 :: .int x :: L) st μ Q = Ev d 72 6 (a0 :: a1 :: a2 :: .int x :: L) (.int x :: st) μ Q := e_iload_n (by decide +kernel : decode (bOf 72) 5 = .ok (.iload_n 3, 1)) rfl
theorem x_72_6 : Ev d 72 6 L (.int y :: .int x :: st) μ Q = if x < y then Ev d 72 9 L st μ Q else Ev d 72 25 L st μ Q := e_icmp_ge (by decide +kernel : decode (bOf 72) 6 = .ok (.if_icmp .ge 19, 3)) (by omega)
theorem x_72_9 : Ev d 72 9 (.ref r :: L) st μ Q = Ev d 72 10 (.ref r :: L) (.ref r :: st) μ Q := e_aload_n (by decide +kernel : decode (bOf 72) 9 = .ok (.aload_n 0, 1)) rfl
theorem x_72_10 (h : kd t r = 4) : Ev d 72 10 L (.ref r :: st) (t, V, A, P) Q = Ev d 72 13 L (V r 10 :: st) (t, V, A, P) Q := e_getf (by decide +kernel : decode (bOf 72) 10 = .ok (.getfield 66, 3)) (by decide +kernel) (by decide +kernel) h
theorem x_72_13 : Ev d 72 13 L (.int x :: st) μ Q = if x < iI 0 then Ev d 72 25 L st μ Q else Ev d 72 16 L st μ Q := e_if_lt (by decide +kernel : decode (bOf 72) 13 = .ok (.ifCond .lt 12, 3)) (by omega)
theorem x_72_16 : Ev d 72 16 (.ref r :: L) st μ Q = Ev d 72 17 (.ref r :: L) (.ref r :: st) μ Q := e_aload_n (by decide +kernel : decode (bOf 72) 16 = .ok (.aload_n 0, 1)) rfl
theorem x_72_17 (h : kd t r = 4) : Ev d 72 17 L (.ref r :: st) (t, V, A, P) Q = Ev d 72 20 L (V r 10 :: st) (t, V, A, P) Q := e_getf (by decide +kernel : decode (bOf 72) 17 = .ok (.getfield 66, 3)) (by decide +kernel) (by decide +kernel) h
theorem x_72_20 : Ev d 72 20 L st μ Q = Ev d 72 22 L (.int (iI 40) :: st) μ Q := e_bipush (by decide +kernel : decode (bOf 72) 20 = .ok (.bipush 40, 2)) (by decide +kernel)
theorem x_72_22 : Ev d 72 22 L (.int y :: .int x :: st) μ Q = if x < y then Ev d 72 27 L st μ Q else Ev d 72 25 L st μ Q := e_icmp_lt (by decide +kernel : decode (bOf 72) 22 = .ok (.if_icmp .lt 5, 3)) (by omega)
theorem x_72_25 : Ev d 72 25 L st μ Q = Ev d 72 26 L (.int (iI (-1)) :: st) μ Q := e_iconst (by decide +kernel : decode (bOf 72) 25 = .ok (.iconst (-1), 1))
theorem x_72_26 : Ev d 72 26 L [.int x] μ Q = Q (some (.int x)) μ := e_iret (by decide +kernel : decode (bOf 72) 26 = .ok (.ireturn, 1)) (by decide +kernel)
theorem x_72_27 : Ev d 72 27 (.ref r :: L) st μ Q = Ev d 72 28 (.ref r :: L) (.ref r :: st) μ Q := e_aload_n (by decide +kernel : decode (bOf 72) 27 = .ok (.aload_n 0, 1)) rfl
theorem x_72_28 (h : kd t r = 4) : Ev d 72 28 L (.ref r :: st) (t, V, A, P) Q = Ev d 72 31 L (V r 5 :: st) (t, V, A, P) Q := e_getf (by decide +kernel : decode (bOf 72) 28 = .ok (.getfield 31, 3)) (by decide +kernel) (by decide +kernel) h
theorem x_72_31 : Ev d 72 31 (.ref r :: L) st μ Q = Ev d 72 32 (.ref r :: L) (.ref r :: st) μ Q := e_aload_n (by decide +kernel : decode (bOf 72) 31 = .ok (.aload_n 0, 1)) rfl
theorem x_72_32 (h : kd t r = 4) : Ev d 72 32 L (.ref r :: st) (t, V, A, P) Q = Ev d 72 35 L (V r 10 :: st) (t, V, A, P) Q := e_getf (by decide +kernel : decode (bOf 72) 32 = .ok (.getfield 66, 3)) (by decide +kernel) (by decide +kernel) h
theorem x_72_35 : Ev d 72 35 (a0 :: a1 :: .int x :: L) st μ Q = Ev d 72 36 (a0 :: a1 :: .int x :: L) (.int x :: st) μ Q := e_iload_n (by decide +kernel : decode (bOf 72) 35 = .ok (.iload_n 2, 1)) rfl
theorem x_72_36 : Ev d 72 36 (a0 :: .int x :: L) st μ Q = Ev d 72 37 (a0 :: .int x :: L) (.int x :: st) μ Q := e_iload_n (by decide +kernel : decode (bOf 72) 36 = .ok (.iload_n 1, 1)) rfl
theorem x_72_37 : Ev d 72 37 L (.int y :: .int x :: st) μ Q = Ev d 72 38 L (.int (x + y) :: st) μ Q := e_iadd (by decide +kernel : decode (bOf 72) 37 = .ok (.iadd, 1))
theorem x_72_38 (h : kd t r = 6) (hi : inB x (ln t r) = true) : Ev d 72 38 L (.int y :: .int x :: .ref r :: st) (t, V, A, P) Q = Ev d 72 39 L st (t, V, up1 A r (upd (A r) x.toNatClampNeg y), P) Q := e_iast (by decide +kernel : decode (bOf 72) 38 = .ok (.iastore, 1)) h hi
theorem x_72_39 : Ev d 72 39 (.ref r :: L) st μ Q = Ev d 72 40 (.ref r :: L) (.ref r :: st) μ Q := e_aload_n (by decide +kernel : decode (bOf 72) 39 = .ok (.aload_n 0, 1)) rfl
theorem x_72_40 : Ev d 72 40 L (.ref r :: st) μ Q = Ev d 72 41 L (.ref r :: .ref r :: st) μ Q := e_dup_a (by decide +kernel : decode (bOf 72) 40 = .ok (.dup, 1))
theorem x_72_41 (h : kd t r = 4) : Ev d 72 41 L (.ref r :: st) (t, V, A, P) Q = Ev d 72 44 L (V r 10 :: st) (t, V, A, P) Q := e_getf (by decide +kernel : decode (bOf 72) 41 = .ok (.getfield 66, 3)) (by decide +kernel) (by decide +kernel) h
theorem x_72_44 : Ev d 72 44 L st μ Q = Ev d 72 45 L (.int (iI 1) :: st) μ Q := e_iconst (by decide +kernel : decode (bOf 72) 44 = .ok (.iconst 1, 1))
theorem x_72_45 : Ev d 72 45 L (.int y :: .int x :: st) μ Q = Ev d 72 46 L (.int (x + y) :: st) μ Q := e_iadd (by decide +kernel : decode (bOf 72) 45 = .ok (.iadd, 1))
theorem x_72_46 (h : kd t r = 4) : Ev d 72 46 L (.int x :: .ref r :: st) (t, V, A, P) Q = Ev d 72 49 L st (t, up1 V r (up1 (V r) 10 (.int x)), A, P) Q := e_putf (by decide +kernel : decode (bOf 72) 46 = .ok (.putfield 66, 3)) (by decide +kernel) (by decide +kernel) rfl h
theorem x_72_49 : Ev d 72 49 L st μ Q = Ev d 72 50 L (.int (iI 3) :: st) μ Q := e_iconst (by decide +kernel : decode (bOf 72) 49 = .ok (.iconst 3, 1))
theorem x_72_50 : Ev d 72 50 L [.int x] μ Q = Q (some (.int x)) μ := e_iret (by decide +kernel : decode (bOf 72) 50 = .ok (.ireturn, 1)) (by decide +kernel)
theorem c_73 : Call (d + 1) 73 [.ref r0, .int i1] μ Q = Ev d 73 0 [.ref r0, .int i1, .null, .null, .null] [] μ Q := call_ev rfl rfl
theorem x_73_0 : Ev d 73 0 (.ref r :: L) st μ Q = Ev d 73 1 (.ref r :: L) (.ref r :: st) μ Q := e_aload_n (by decide +kernel : decode (bOf 73) 0 = .ok (.aload_n 0, 1)) rfl
theorem x_73_1 : Ev d 73 1 (a0 :: .int x :: L) st μ Q = Ev d 73 2 (a0 :: .int x :: L) (.int x :: st) μ Q := e_iload_n (by decide +kernel : decode (bOf 73) 1 = .ok (.iload_n 1, 1)) rfl
theorem x_73_2 (h : kd t r = 4) : Ev d 73 2 L [b0, .ref r] (t, V, A, P) Q = Call d 74 [.ref r, b0] (t, V, A, P) (fun v μ1 => Ev d 73 5 L (v.toList ++ []) μ1 Q) := e_callV (a := [b0]) (r := []) (by decide +kernel : decode (bOf 73) 2 = .ok (.invokevirtual 232, 3)) (by decide +kernel) (by decide +kernel) (by decide +kernel) (by omega) rfl (by simp) (by decide +kernel) h
theorem x_73_5 (h : a1.category = 1) : Ev d 73 5 (a0 :: a1 :: a2 :: L) (.int x :: st) μ Q = Ev d 73 6 (a0 :: a1 :: .int x :: L) st μ Q := e_istore_n (by decide +kernel : decode (bOf 73) 5 = .ok (.istore_n 2, 1)) (by show stOK _ 2 = true; simp [stOK, h])
theorem x_73_6 : Ev d 73 6 (.ref r :: L) st μ Q = Ev d 73 7 (.ref r :: L) (.ref r :: st) μ Q := e_aload_n (by decide +kernel : decode (bOf 73) 6 = .ok (.aload_n 0, 1)) rfl
theorem x_73_7 : Ev d 73 7 (a0 :: .int x :: L) st μ Q = Ev d 73 8 (a0 :: .int x :: L) (.int x :: st) μ Q := e_iload_n (by decide +kernel : decode (bOf 73) 7 = .ok (.iload_n 1, 1)) rfl
theorem x_73_8 : Ev d 73 8 L st μ Q = Ev d 73 9 L (.int (iI 1) :: st) μ Q := e_iconst (by decide +kernel : decode (bOf 73) 8 = .ok (.iconst 1, 1))
theorem x_73_9 : Ev d 73 9 L (.int y :: .int x :: st) μ Q = Ev d 73 10 L (.int (x + y) :: st) μ Q := e_iadd (by decide +kernel : decode (bOf 73) 9 = .ok (.iadd, 1))
theorem x_73_10 (h : kd t r = 4) : Ev d 73 10 L [b0, .ref r] (t, V, A, P) Q = Call d 74 [.ref r, b0] (t, V, A, P) (fun v μ1 => Ev d 73 13 L (v.toList ++ []) μ1 Q) := e_callV (a := [b0]) (r := []) (by decide +kernel : decode (bOf 73) 10 = .ok (.invokevirtual 232, 3)) (by decide +kernel) (by decide +kernel) (by decide +kernel) (by omega) rfl (by simp) (by decide +kernel) h
theorem x_73_13 (h : a2.category = 1) : Ev d 73 13 (a0 :: a1 :: a2 :: a3 :: L) (.int x :: st) μ Q = Ev d 73 14 (a0 :: a1 :: a2 :: .int x :: L) st μ Q := e_istore_n (by decide +kernel : decode (bOf 73) 13 = .ok (.istore_n 3, 1)) (by show stOK _ 3 = true; simp [stOK, h])
theorem x_73_14 : Ev d 73 14 (a0 :: a1 :: .int x :: L) st μ Q = Ev d 73 15 (a0 :: a1 :: .int x :: L) (.int x :: st) μ Q := e_iload_n (by decide +kernel : decode (bOf 73) 14 = .ok (.iload_n 2, 1)) rfl
theorem x_73_15 : Ev d 73 15 L (.int x :: st) μ Q = if x < iI 0 then Ev d 73 22 L st μ Q else Ev d 73 18 L st μ Q := e_if_lt (by decide +kernel : decode (bOf 73) 15 = .ok (.ifCond .lt 7, 3)) (by omega)
theorem x_73_18 : Ev d 73 18 (a0 :: a1 :: a2 :: .int x :: L) st μ Q = Ev d 73 19 (a0 :: a1 :: a2 :: .int x :: L) (.int x :: st) μ Q := e_iload_n (by decide +kernel : decode (bOf 73) 18 = .ok (.iload_n 3, 1)) rfl
theorem x_73_19 : Ev d 73 19 L (.int x :: st) μ Q = if x < iI 0 then Ev d 73 22 L st μ Q else Ev d 73 24 L st μ Q := e_if_ge (by decide +kernel : decode (bOf 73) 19 = .ok (.ifCond .ge 5, 3)) (by omega)
theorem x_73_22 : Ev d 73 22 (a0 :: a1 :: .int x :: L) st μ Q = Ev d 73 23 (a0 :: a1 :: .int x :: L) (.int x :: st) μ Q := e_iload_n (by decide +kernel : decode (bOf 73) 22 = .ok (.iload_n 2, 1)) rfl
theorem x_73_23 : Ev d 73 23 L [.int x] μ Q = Q (some (.int x)) μ := e_iret (by decide +kernel : decode (bOf 73) 23 = .ok (.ireturn, 1)) (by decide +kernel)
theorem x_73_24 : Ev d 73 24 (.ref r :: L) st μ Q = Ev d 73 25 (.ref r :: L) (.ref r :: st) μ Q := e_aload_n (by decide +kernel : decode (bOf 73) 24 = .ok (.aload_n 0, 1)) rfl
theorem x_73_25 : Ev d 73 25 (a0 :: .int x :: L) st μ Q = Ev d 73 26 (a0 :: .int x :: L) (.int x :: st) μ Q := e_iload_n (by decide +kernel : decode (bOf 73) 25 = .ok (.iload_n 1, 1)) rfl
theorem x_73_26 : Ev d 73 26 L st μ Q = Ev d 73 27 L (.int (iI 2) :: st) μ Q := e_iconst (by decide +kernel : decode (bOf 73) 26 = .ok (.iconst 2, 1))
theorem x_73_27 : Ev d 73 27 L (.int y :: .int x :: st) μ Q = Ev d 73 28 L (.int (x + y) :: st) μ Q := e_iadd (by decide +kernel : decode (bOf 73) 27 = .ok (.iadd, 1))
theorem x_73_28 (h : kd t r = 4) : Ev d 73 28 L [b0, .ref r] (t, V, A, P) Q = Call d 74 [.ref r, b0] (t, V, A, P) (fun v μ1 => Ev d 73 31 L (v.toList ++ []) μ1 Q) := e_callV (a := [b0]) (r := []) (by decide +kernel : decode (bOf 73) 28 = .ok (.invokevirtual 232, 3)) (by decide +kernel) (by decide +kernel) (by decide +kernel) (by omega) rfl (by simp) (by decide +kernel) h
theorem x_73_31 : Ev d 73 31 L (.int x :: st) μ Q = if x < iI 0 then Ev d 73 38 L st μ Q else Ev d 73 34 L st μ Q := e_if_lt (by decide +kernel : decode (bOf 73) 31 = .ok (.ifCond .lt 7, 3)) (by omega)
theorem x_73_34 : Ev d 73 34 L st μ Q = Ev d 73 35 L (.int (iI 1) :: st) μ Q := e_iconst (by decide +kernel : decode (bOf 73) 34 = .ok (.iconst 1, 1))
theorem x_73_35 : Ev d 73 35 L st μ Q = Ev d 73 39 L st μ Q := e_goto (by decide +kernel : decode (bOf 73) 35 = .ok (.goto 4, 3)) (by omega)
theorem x_73_38 : Ev d 73 38 L st μ Q = Ev d 73 39 L (.int (iI 0) :: st) μ Q := e_iconst (by decide +kernel : decode (bOf 73) 38 = .ok (.iconst 0, 1))
theorem x_73_39 (h : a3.category = 1) : Ev d 73 39 (a0 :: a1 :: a2 :: a3 :: a4 :: L) (.int x :: st) μ Q = Ev d 73 41 (a0 :: a1 :: a2 :: a3 :: .int x :: L) st μ Q := e_istore (by decide +kernel : decode (bOf 73) 39 = .ok (.istore 4, 2)) (by show stOK _ 4 = true; simp [stOK, h])
theorem x_73_41 : Ev d 73 41 (a0 :: a1 :: .int x :: L) st μ Q = Ev d 73 42 (a0 :: a1 :: .int x :: L) (.int x :: st) μ Q := e_iload_n (by decide +kernel : decode (bOf 73) 41 = .ok (.iload_n 2, 1)) rfl
theorem x_73_42 : Ev d 73 42 L (.int x :: st) μ Q = if x = iI 0 then Ev d 73 50 L st μ Q else Ev d 73 45 L st μ Q := e_if_eq (by decide +kernel : decode (bOf 73) 42 = .ok (.ifCond .eq 8, 3)) (by omega)
theorem x_73_45 : Ev d 73 45 (a0 :: a1 :: a2 :: a3 :: .int x :: L) st μ Q = Ev d 73 47 (a0 :: a1 :: a2 :: a3 :: .int x :: L) (.int x :: st) μ Q := e_iload (by decide +kernel : decode (bOf 73) 45 = .ok (.iload 4, 2)) rfl
theorem x_73_47 : Ev d 73 47 L (.int x :: st) μ Q = if x = iI 0 then Ev d 73 54 L st μ Q else Ev d 73 50 L st μ Q := e_if_eq (by decide +kernel : decode (bOf 73) 47 = .ok (.ifCond .eq 7, 3)) (by omega)
theorem x_73_50 : Ev d 73 50 L st μ Q = Ev d 73 51 L (.int (iI (-1)) :: st) μ Q := e_iconst (by decide +kernel : decode (bOf 73) 50 = .ok (.iconst (-1), 1))
theorem x_73_51 : Ev d 73 51 L st μ Q = Ev d 73 60 L st μ Q := e_goto (by decide +kernel : decode (bOf 73) 51 = .ok (.goto 9, 3)) (by omega)
theorem x_73_54 : Ev d 73 54 L st μ Q = Ev d 73 56 L (.int (iI 10) :: st) μ Q := e_bipush (by decide +kernel : decode (bOf 73) 54 = .ok (.bipush 10, 2)) (by decide +kernel)
theorem x_73_56 : Ev d 73 56 (a0 :: a1 :: .int x :: L) st μ Q = Ev d 73 57 (a0 :: a1 :: .int x :: L) (.int x :: st) μ Q := e_iload_n (by decide +kernel : decode (bOf 73) 56 = .ok (.iload_n 2, 1)) rfl
theorem x_73_57 : Ev d 73 57 L (.int y :: .int x :: st) μ Q = Ev d 73 58 L (.int (x * y) :: st) μ Q := e_imul (by decide +kernel : decode (bOf 73) 57 = .ok (.imul, 1))
theorem x_73_58 : Ev d 73 58 (a0 :: a1 :: a2 :: .int x :: L) st μ Q = Ev d 73 59 (a0 :: a1 :: a2 :: .int x :: L) (.int x :: st) μ Q := e_iload_n (by decide +kernel : decode (bOf 73) 58 = .ok (.iload_n 3, 1)) rfl
theorem x_73_59 : Ev d 73 59 L (.int y :: .int x :: st) μ Q = Ev d 73 60 L (.int (x + y) :: st) μ Q := e_iadd (by decide +kernel : decode (bOf 73) 59 = .ok (.iadd, 1))
theorem x_73_60 : Ev d 73 60 L [.int x] μ Q = Q (some (.int x)) μ := e_iret (by decide +kernel : decode (bOf 73) 60 = .ok (.ireturn, 1)) (by decide +kernel)
theorem c_74 : Call (d + 1) 74 [.ref r0, .int i1] μ Q = Ev d 74 0 [.ref r0, .int i1, .null] [] μ Q := call_ev rfl rfl
theorem x_74_0 : Ev d 74 0 (.ref r :: L) st μ Q = Ev d 74 1 (.ref r :: L) (.ref r :: st) μ Q := e_aload_n (by decide +kernel : decode (bOf 74) 0 = .ok (.aload_n 0, 1)) rfl
theorem x_74_1 : Ev d 74 1 (a0 :: .int x :: L) st μ Q = Ev d 74 2 (a0 :: .int x :: L) (.int x :: st) μ Q := e_iload_n (by decide +kernel : decode (bOf 74) 1 = .ok (.iload_n 1, 1)) rfl
theorem x_74_2 (h : kd t r = 4) : Ev d 74 2 L [b0, .ref r] (t, V, A, P) Q = Call d 75 [.ref r, b0] (t, V, A, P) (fun v μ1 => Ev d 74 5 L (v.toList ++ []) μ1 Q) := e_callV (a := [b0]) (r := []) (by decide +kernel : decode (bOf 74) 2 = .ok (.invokevirtual 229, 3)) (by decide +kernel) (by decide +kernel) (by decide +kernel) (by omega) rfl (by simp) (by decide +kernel) h
theorem x_74_5 (h : a1.category = 1) : Ev d 74 5 (a0 :: a1 :: a2 :: L) (.int x :: st) μ Q = Ev d 74 6 (a0 :: a1 :: .int x :: L) st μ Q := e_istore_n (by decide +kernel : decode (bOf 74) 5 = .ok (.istore_n 2, 1)) (by show stOK _ 2 = true; simp [stOK, h])
theorem x_74_6 : Ev d 74 6 (a0 :: a1 :: .int x :: L) st μ Q = Ev d 74 7 (a0 :: a1 :: .int x :: L) (.int x :: st) μ Q := e_iload_n (by decide +kernel : decode (bOf 74) 6 = .ok (.iload_n 2, 1)) rfl
theorem x_74_7 : Ev d 74 7 L st μ Q = Ev d 74 9 L (.int (iI 48) :: st) μ Q := e_bipush (by decide +kernel : decode (bOf 74) 7 = .ok (.bipush 48, 2)) (by decide +kernel)
theorem x_74_9 : Ev d 74 9 L (.int y :: .int x :: st) μ Q = if x < y then Ev d 74 25 L st μ Q else Ev d 74 12 L st μ Q := e_icmp_lt (by decide +kernel : decode (bOf 74) 9 = .ok (.if_icmp .lt 16, 3)) (by omega)
theorem x_74_12 : Ev d 74 12 (a0 :: a1 :: .int x :: L) st μ Q = Ev d 74 13 (a0 :: a1 :: .int x :: L) (.int x :: st) μ Q := e_iload_n (by decide +kernel : decode (bOf 74) 12 = .ok (.iload_n 2, 1)) rfl
theorem x_74_13 : Ev d 74 13 L st μ Q = Ev d 74 15 L (.int (iI 57) :: st) μ Q := e_bipush (by decide +kernel : decode (bOf 74) 13 = .ok (.bipush 57, 2)) (by decide +kernel)
theorem x_74_15 : Ev d 74 15 L (.int y :: .int x :: st) μ Q = if y < x then Ev d 74 25 L st μ Q else Ev d 74 18 L st μ Q := e_icmp_gt (by decide +kernel : decode (bOf 74) 15 = .ok (.if_icmp .gt 10, 3)) (by omega)
theorem x_74_18 : Ev d 74 18 (a0 :: a1 :: .int x :: L) st μ Q = Ev d 74 19 (a0 :: a1 :: .int x :: L) (.int x :: st) μ Q := e_iload_n (by decide +kernel : decode (bOf 74) 18 = .ok (.iload_n 2, 1)) rfl
theorem x_74_19 : Ev d 74 19 L st μ Q = Ev d 74 21 L (.int (iI 48) :: st) μ Q := e_bipush (by decide +kernel : decode (bOf 74) 19 = .ok (.bipush 48, 2)) (by decide +kernel)
theorem x_74_21 : Ev d 74 21 L (.int y :: .int x :: st) μ Q = Ev d 74 22 L (.int (x - y) :: st) μ Q := e_isub (by decide +kernel : decode (bOf 74) 21 = .ok (.isub, 1))
theorem x_74_22 : Ev d 74 22 L st μ Q = Ev d 74 26 L st μ Q := e_goto (by decide +kernel : decode (bOf 74) 22 = .ok (.goto 4, 3)) (by omega)
theorem x_74_25 : Ev d 74 25 L st μ Q = Ev d 74 26 L (.int (iI (-1)) :: st) μ Q := e_iconst (by decide +kernel : decode (bOf 74) 25 = .ok (.iconst (-1), 1))
theorem x_74_26 : Ev d 74 26 L [.int x] μ Q = Q (some (.int x)) μ := e_iret (by decide +kernel : decode (bOf 74) 26 = .ok (.ireturn, 1)) (by decide +kernel)
theorem c_75 : Call (d + 1) 75 [.ref r0, .int i1] μ Q = Ev d 75 0 [.ref r0, .int i1] [] μ Q := call_ev rfl rfl
theorem x_75_0 : Ev d 75 0 (a0 :: .int x :: L) st μ Q = Ev d 75 1 (a0 :: .int x :: L) (.int x :: st) μ Q := e_iload_n (by decide +kernel : decode (bOf 75) 0 = .ok (.iload_n 1, 1)) rfl
theorem x_75_1 : Ev d 75 1 L (.int x :: st) μ Q = if x < iI 0 then Ev d 75 27 L st μ Q else Ev d 75 4 L st μ Q := e_if_lt (by decide +kernel : decode (bOf 75) 1 = .ok (.ifCond .lt 26, 3)) (by omega)
theorem x_75_4 : Ev d 75 4 (a0 :: .int x :: L) st μ Q = Ev d 75 5 (a0 :: .int x :: L) (.int x :: st) μ Q := e_iload_n (by decide +kernel : decode (bOf 75) 4 = .ok (.iload_n 1, 1)) rfl
theorem x_75_5 : Ev d 75 5 (.ref r :: L) st μ Q = Ev d 75 6 (.ref r :: L) (.ref r :: st) μ Q := e_aload_n (by decide +kernel : decode (bOf 75) 5 = .ok (.aload_n 0, 1)) rfl
theorem x_75_6 (h : kd t r = 4) : Ev d 75 6 L (.ref r :: st) (t, V, A, P) Q = Ev d 75 9 L (V r 9 :: st) (t, V, A, P) Q := e_getf (by decide +kernel : decode (bOf 75) 6 = .ok (.getfield 55, 3)) (by decide +kernel) (by decide +kernel) h
theorem x_75_9 : Ev d 75 9 L (.int y :: .int x :: st) μ Q = if x < y then Ev d 75 12 L st μ Q else Ev d 75 27 L st μ Q := e_icmp_ge (by decide +kernel : decode (bOf 75) 9 = .ok (.if_icmp .ge 18, 3)) (by omega)
theorem x_75_12 : Ev d 75 12 (a0 :: .int x :: L) st μ Q = Ev d 75 13 (a0 :: .int x :: L) (.int x :: st) μ Q := e_iload_n (by decide +kernel : decode (bOf 75) 12 = .ok (.iload_n 1, 1)) rfl
theorem x_75_13 : Ev d 75 13 L st μ Q = Ev d 75 15 L (.int (iI 120) :: st) μ Q := e_bipush (by decide +kernel : decode (bOf 75) 13 = .ok (.bipush 120, 2)) (by decide +kernel)
theorem x_75_15 : Ev d 75 15 L (.int y :: .int x :: st) μ Q = if x < y then Ev d 75 18 L st μ Q else Ev d 75 27 L st μ Q := e_icmp_ge (by decide +kernel : decode (bOf 75) 15 = .ok (.if_icmp .ge 12, 3)) (by omega)
theorem x_75_18 : Ev d 75 18 (.ref r :: L) st μ Q = Ev d 75 19 (.ref r :: L) (.ref r :: st) μ Q := e_aload_n (by decide +kernel : decode (bOf 75) 18 = .ok (.aload_n 0, 1)) rfl
theorem x_75_19 (h : kd t r = 4) : Ev d 75 19 L (.ref r :: st) (t, V, A, P) Q = Ev d 75 22 L (V r 4 :: st) (t, V, A, P) Q := e_getf (by decide +kernel : decode (bOf 75) 19 = .ok (.getfield 27, 3)) (by decide +kernel) (by decide +kernel) h
theorem x_75_22 : Ev d 75 22 (a0 :: .int x :: L) st μ Q = Ev d 75 23 (a0 :: .int x :: L) (.int x :: st) μ Q := e_iload_n (by decide +kernel : decode (bOf 75) 22 = .ok (.iload_n 1, 1)) rfl
theorem x_75_23 (h : kd t r = 6) (hi : inB x (ln t r) = true) : Ev d 75 23 L (.int x :: .ref r :: st) (t, V, A, P) Q = Ev d 75 24 L (.int (A r x.toNatClampNeg) :: st) (t, V, A, P) Q := e_iald (by decide +kernel : decode (bOf 75) 23 = .ok (.iaload, 1)) h hi
theorem x_75_24 : Ev d 75 24 L st μ Q = Ev d 75 28 L st μ Q := e_goto (by decide +kernel : decode (bOf 75) 24 = .ok (.goto 4, 3)) (by omega)
theorem x_75_27 : Ev d 75 27 L st μ Q = Ev d 75 28 L (.int (iI (-1)) :: st) μ Q := e_iconst (by decide +kernel : decode (bOf 75) 27 = .ok (.iconst (-1), 1))
theorem x_75_28 : Ev d 75 28 L [.int x] μ Q = Q (some (.int x)) μ := e_iret (by decide +kernel : decode (bOf 75) 28 = .ok (.ireturn, 1)) (by decide +kernel)
theorem c_76 : Call (d + 1) 76 [.int i0, .int i1] μ Q = Ev d 76 0 [.int i0, .int i1] [] μ Q := call_ev rfl rfl
theorem x_76_0 : Ev d 76 0 (.int x :: L) st μ Q = Ev d 76 1 (.int x :: L) (.int x :: st) μ Q := e_iload_n (by decide +kernel : decode (bOf 76) 0 = .ok (.iload_n 0, 1)) rfl
theorem x_76_1 : Ev d 76 1 L (.int x :: st) μ Q = if x < iI 0 then Ev d 76 23 L st μ Q else Ev d 76 4 L st μ Q := e_if_lt (by decide +kernel : decode (bOf 76) 1 = .ok (.ifCond .lt 22, 3)) (by omega)
theorem x_76_4 : Ev d 76 4 (.int x :: L) st μ Q = Ev d 76 5 (.int x :: L) (.int x :: st) μ Q := e_iload_n (by decide +kernel : decode (bOf 76) 4 = .ok (.iload_n 0, 1)) rfl
theorem x_76_5 : Ev d 76 5 L st μ Q = Ev d 76 7 L (.int (iI 6) :: st) μ Q := e_bipush (by decide +kernel : decode (bOf 76) 5 = .ok (.bipush 6, 2)) (by decide +kernel)
theorem x_76_7 : Ev d 76 7 L (.int y :: .int x :: st) μ Q = if x < y then Ev d 76 10 L st μ Q else Ev d 76 23 L st μ Q := e_icmp_ge (by decide +kernel : decode (bOf 76) 7 = .ok (.if_icmp .ge 16, 3)) (by omega)
theorem x_76_10 : Ev d 76 10 (a0 :: .int x :: L) st μ Q = Ev d 76 11 (a0 :: .int x :: L) (.int x :: st) μ Q := e_iload_n (by decide +kernel : decode (bOf 76) 10 = .ok (.iload_n 1, 1)) rfl
theorem x_76_11 : Ev d 76 11 L (.int x :: st) μ Q = if x < iI 0 then Ev d 76 23 L st μ Q else Ev d 76 14 L st μ Q := e_if_lt (by decide +kernel : decode (bOf 76) 11 = .ok (.ifCond .lt 12, 3)) (by omega)
theorem x_76_14 : Ev d 76 14 (a0 :: .int x :: L) st μ Q = Ev d 76 15 (a0 :: .int x :: L) (.int x :: st) μ Q := e_iload_n (by decide +kernel : decode (bOf 76) 14 = .ok (.iload_n 1, 1)) rfl
theorem x_76_15 : Ev d 76 15 L st μ Q = Ev d 76 16 L (.int (iI 1) :: st) μ Q := e_iconst (by decide +kernel : decode (bOf 76) 15 = .ok (.iconst 1, 1))
theorem x_76_16 : Ev d 76 16 L (.int y :: .int x :: st) μ Q = if y < x then Ev d 76 23 L st μ Q else Ev d 76 19 L st μ Q := e_icmp_gt (by decide +kernel : decode (bOf 76) 16 = .ok (.if_icmp .gt 7, 3)) (by omega)
theorem x_76_19 : Ev d 76 19 L st μ Q = Ev d 76 20 L (.int (iI 1) :: st) μ Q := e_iconst (by decide +kernel : decode (bOf 76) 19 = .ok (.iconst 1, 1))
theorem x_76_20 : Ev d 76 20 L st μ Q = Ev d 76 24 L st μ Q := e_goto (by decide +kernel : decode (bOf 76) 20 = .ok (.goto 4, 3)) (by omega)
theorem x_76_23 : Ev d 76 23 L st μ Q = Ev d 76 24 L (.int (iI 0) :: st) μ Q := e_iconst (by decide +kernel : decode (bOf 76) 23 = .ok (.iconst 0, 1))
theorem x_76_24 (hx : isB x) : Ev d 76 24 L [.int x] μ Q = Q (some (.int x)) μ := e_zret (by decide +kernel : decode (bOf 76) 24 = .ok (.ireturn, 1)) (by decide +kernel) hx
theorem c_77 : Call (d + 1) 77 [.int i0] μ Q = Ev d 77 0 [.int i0] [] μ Q := call_ev rfl rfl
theorem x_77_0 : Ev d 77 0 (.int x :: L) st μ Q = Ev d 77 1 (.int x :: L) (.int x :: st) μ Q := e_iload_n (by decide +kernel : decode (bOf 77) 0 = .ok (.iload_n 0, 1)) rfl
theorem x_77_1 : Ev d 77 1 L st μ Q = Ev d 77 2 L (.int (iI 1) :: st) μ Q := e_iconst (by decide +kernel : decode (bOf 77) 1 = .ok (.iconst 1, 1))
theorem x_77_2 : Ev d 77 2 L (.int y :: .int x :: st) μ Q = if x = y then Ev d 77 5 L st μ Q else Ev d 77 9 L st μ Q := e_icmp_ne (by decide +kernel : decode (bOf 77) 2 = .ok (.if_icmp .ne 7, 3)) (by omega)
theorem x_77_5 : Ev d 77 5 L st μ Q = Ev d 77 6 L (.int (iI 1) :: st) μ Q := e_iconst (by decide +kernel : decode (bOf 77) 5 = .ok (.iconst 1, 1))
theorem x_77_6 : Ev d 77 6 L st μ Q = Ev d 77 10 L st μ Q := e_goto (by decide +kernel : decode (bOf 77) 6 = .ok (.goto 4, 3)) (by omega)
theorem x_77_9 : Ev d 77 9 L st μ Q = Ev d 77 10 L (.int (iI (-1)) :: st) μ Q := e_iconst (by decide +kernel : decode (bOf 77) 9 = .ok (.iconst (-1), 1))
theorem x_77_10 : Ev d 77 10 L [.int x] μ Q = Q (some (.int x)) μ := e_iret (by decide +kernel : decode (bOf 77) 10 = .ok (.ireturn, 1)) (by decide +kernel)
theorem c_78 : Call (d + 1) 78 [.int i0] μ Q = Ev d 78 0 [.int i0] [] μ Q := call_ev rfl rfl
theorem x_78_0 : Ev d 78 0 (.int x :: L) st μ Q = Ev d 78 1 (.int x :: L) (.int x :: st) μ Q := e_iload_n (by decide +kernel : decode (bOf 78) 0 = .ok (.iload_n 0, 1)) rfl
theorem x_78_1 : Ev d 78 1 L st μ Q = Ev d 78 2 L (.int (iI 1) :: st) μ Q := e_iconst (by decide +kernel : decode (bOf 78) 1 = .ok (.iconst 1, 1))
theorem x_78_2 : Ev d 78 2 L (.int y :: .int x :: st) μ Q = if x = y then Ev d 78 5 L st μ Q else Ev d 78 9 L st μ Q := e_icmp_ne (by decide +kernel : decode (bOf 78) 2 = .ok (.if_icmp .ne 7, 3)) (by omega)
theorem x_78_5 : Ev d 78 5 L st μ Q = Ev d 78 6 L (.int (iI 1) :: st) μ Q := e_iconst (by decide +kernel : decode (bOf 78) 5 = .ok (.iconst 1, 1))
theorem x_78_6 : Ev d 78 6 L st μ Q = Ev d 78 10 L st μ Q := e_goto (by decide +kernel : decode (bOf 78) 6 = .ok (.goto 4, 3)) (by omega)
theorem x_78_9 : Ev d 78 9 L st μ Q = Ev d 78 10 L (.int (iI 0) :: st) μ Q := e_iconst (by decide +kernel : decode (bOf 78) 9 = .ok (.iconst 0, 1))
theorem x_78_10 : Ev d 78 10 L [.int x] μ Q = Q (some (.int x)) μ := e_iret (by decide +kernel : decode (bOf 78) 10 = .ok (.ireturn, 1)) (by decide +kernel)
end Xc
