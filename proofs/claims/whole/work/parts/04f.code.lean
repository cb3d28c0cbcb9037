section Xf
variable {d : Nat} {L st : List Value} {μ : mM} {Q : Option Value → mM → Prop} {t : mL} {V : Nat → Nat → Value} {A : Nat → Nat → Int32} {P : Nat → Nat → Option Nat} {N S : Nat} {K : Nat → Nat × Nat}
variable {a0 a1 a2 a3 a4 a5 a6 a7 a8 a9 a10 a11 a12 b0 b1 b2 b3 s0 s1 s2 s3 : Value} {x y i0 i1 i2 i3 i4 : Int32} {w z : Int64} {r q r0 r1 r2 : Nat}
theorem c_130 : Call (d + 1) 130 [.int i0] μ Q = Ev d 130 0 [.int i0] [] μ Q := call_ev rfl rfl
theorem x_130_0 : Ev d 130 0 (.int x :: L) st μ Q = Ev d 130 1 (.int x :: L) (.int x :: st) μ Q := e_iload_n (by decide +kernel : decode (bOf 130) 0 = .ok (.iload_n 0, 1)) rfl
theorem x_130_1 : Ev d 130 1 (.int x :: L) st μ Q = Ev d 130 2 (.int x :: L) (.int x :: st) μ Q := e_iload_n (by decide +kernel : decode (bOf 130) 1 = .ok (.iload_n 0, 1)) rfl
theorem x_130_2 : Ev d 130 2 L st μ Q = Ev d 130 3 L (.int (iI 1) :: st) μ Q := e_iconst (by decide +kernel : decode (bOf 130) 2 = .ok (.iconst 1, 1))
theorem x_130_3 : Ev d 130 3 L (.int y :: .int x :: st) μ Q = Ev d 130 4 L (.int (x.toUInt32 >>> (y.toUInt32 &&& Int32.toUInt32 31)).toInt32 :: st) μ Q := e_iushr (by decide +kernel : decode (bOf 130) 3 = .ok (.iushr, 1))
theorem x_130_4 : Ev d 130 4 L st μ Q = Ev d 130 7 L (.int (iI 1431655765) :: st) μ Q := e_ldc_w (by decide +kernel : decode (bOf 130) 4 = .ok (.ldc_w 265, 3)) (by decide +kernel)
theorem x_130_7 : Ev d 130 7 L (.int y :: .int x :: st) μ Q = Ev d 130 8 L (.int (x &&& y) :: st) μ Q := e_iand (by decide +kernel : decode (bOf 130) 7 = .ok (.iand, 1))
theorem x_130_8 : Ev d 130 8 L (.int y :: .int x :: st) μ Q = Ev d 130 9 L (.int (x - y) :: st) μ Q := e_isub (by decide +kernel : decode (bOf 130) 8 = .ok (.isub, 1))
theorem x_130_9 : Ev d 130 9 (a0 :: L) (.int x :: st) μ Q = Ev d 130 10 (.int x :: L) st μ Q := e_istore_n (by decide +kernel : decode (bOf 130) 9 = .ok (.istore_n 0, 1)) (by show stOK _ 0 = true; simp [stOK])
theorem x_130_10 : Ev d 130 10 (.int x :: L) st μ Q = Ev d 130 11 (.int x :: L) (.int x :: st) μ Q := e_iload_n (by decide +kernel : decode (bOf 130) 10 = .ok (.iload_n 0, 1)) rfl
theorem x_130_11 : Ev d 130 11 L st μ Q = Ev d 130 14 L (.int (iI 858993459) :: st) μ Q := e_ldc_w (by decide +kernel : decode (bOf 130) 11 = .ok (.ldc_w 266, 3)) (by decide +kernel)
theorem x_130_14 : Ev d 130 14 L (.int y :: .int x :: st) μ Q = Ev d 130 15 L (.int (x &&& y) :: st) μ Q := e_iand (by decide +kernel : decode (bOf 130) 14 = .ok (.iand, 1))
theorem x_130_15 : Ev d 130 15 (.int x :: L) st μ Q = Ev d 130 16 (.int x :: L) (.int x :: st) μ Q := e_iload_n (by decide +kernel : decode (bOf 130) 15 = .ok (.iload_n 0, 1)) rfl
theorem x_130_16 : Ev d 130 16 L st μ Q = Ev d 130 17 L (.int (iI 2) :: st) μ Q := e_iconst (by decide +kernel : decode (bOf 130) 16 = .ok (.iconst 2, 1))
theorem x_130_17 : Ev d 130 17 L (.int y :: .int x :: st) μ Q = Ev d 130 18 L (.int (x.toUInt32 >>> (y.toUInt32 &&& Int32.toUInt32 31)).toInt32 :: st) μ Q := e_iushr (by decide +kernel : decode (bOf 130) 17 = .ok (.iushr, 1))
theorem x_130_18 : Ev d 130 18 L st μ Q = Ev d 130 21 L (.int (iI 858993459) :: st) μ Q := e_ldc_w (by decide +kernel : decode (bOf 130) 18 = .ok (.ldc_w 266, 3)) (by decide +kernel)
theorem x_130_21 : Ev d 130 21 L (.int y :: .int x :: st) μ Q = Ev d 130 22 L (.int (x &&& y) :: st) μ Q := e_iand (by decide +kernel : decode (bOf 130) 21 = .ok (.iand, 1))
theorem x_130_22 : Ev d 130 22 L (.int y :: .int x :: st) μ Q = Ev d 130 23 L (.int (x + y) :: st) μ Q := e_iadd (by decide +kernel : decode (bOf 130) 22 = .ok (.iadd, 1))
theorem x_130_23 : Ev d 130 23 (a0 :: L) (.int x :: st) μ Q = Ev d 130 24 (.int x :: L) st μ Q := e_istore_n (by decide +kernel : decode (bOf 130) 23 = .ok (.istore_n 0, 1)) (by show stOK _ 0 = true; simp [stOK])
theorem x_130_24 : Ev d 130 24 (.int x :: L) st μ Q = Ev d 130 25 (.int x :: L) (.int x :: st) μ Q := e_iload_n (by decide +kernel : decode (bOf 130) 24 = .ok (.iload_n 0, 1)) rfl
theorem x_130_25 : Ev d 130 25 (.int x :: L) st μ Q = Ev d 130 26 (.int x :: L) (.int x :: st) μ Q := e_iload_n (by decide +kernel : decode (bOf 130) 25 = .ok (.iload_n 0, 1)) rfl
theorem x_130_26 : Ev d 130 26 L st μ Q = Ev d 130 27 L (.int (iI 4) :: st) μ Q := e_iconst (by decide +kernel : decode (bOf 130) 26 = .ok (.iconst 4, 1))
theorem x_130_27 : Ev d 130 27 L (.int y :: .int x :: st) μ Q = Ev d 130 28 L (.int (x.toUInt32 >>> (y.toUInt32 &&& Int32.toUInt32 31)).toInt32 :: st) μ Q := e_iushr (by decide +kernel : decode (bOf 130) 27 = .ok (.iushr, 1))
theorem x_130_28 : Ev d 130 28 L (.int y :: .int x :: st) μ Q = Ev d 130 29 L (.int (x + y) :: st) μ Q := e_iadd (by decide +kernel : decode (bOf 130) 28 = .ok (.iadd, 1))
theorem x_130_29 : Ev d 130 29 L st μ Q = Ev d 130 32 L (.int (iI 252645135) :: st) μ Q := e_ldc_w (by decide +kernel : decode (bOf 130) 29 = .ok (.ldc_w 267, 3)) (by decide +kernel)
theorem x_130_32 : Ev d 130 32 L (.int y :: .int x :: st) μ Q = Ev d 130 33 L (.int (x &&& y) :: st) μ Q := e_iand (by decide +kernel : decode (bOf 130) 32 = .ok (.iand, 1))
theorem x_130_33 : Ev d 130 33 (a0 :: L) (.int x :: st) μ Q = Ev d 130 34 (.int x :: L) st μ Q := e_istore_n (by decide +kernel : decode (bOf 130) 33 = .ok (.istore_n 0, 1)) (by show stOK _ 0 = true; simp [stOK])
theorem x_130_34 : Ev d 130 34 (.int x :: L) st μ Q = Ev d 130 35 (.int x :: L) (.int x :: st) μ Q := e_iload_n (by decide +kernel : decode (bOf 130) 34 = .ok (.iload_n 0, 1)) rfl
theorem x_130_35 : Ev d 130 35 (.int x :: L) st μ Q = Ev d 130 36 (.int x :: L) (.int x :: st) μ Q := e_iload_n (by decide +kernel : decode (bOf 130) 35 = .ok (.iload_n 0, 1)) rfl
theorem x_130_36 : Ev d 130 36 L st μ Q = Ev d 130 38 L (.int (iI 8) :: st) μ Q := e_bipush (by decide +kernel : decode (bOf 130) 36 = .ok (.bipush 8, 2)) (by decide +kernel)
theorem x_130_38 : Ev d 130 38 L (.int y :: .int x :: st) μ Q = Ev d 130 39 L (.int (x.toUInt32 >>> (y.toUInt32 &&& Int32.toUInt32 31)).toInt32 :: st) μ Q := e_iushr (by decide +kernel : decode (bOf 130) 38 = .ok (.iushr, 1))
theorem x_130_39 : Ev d 130 39 L (.int y :: .int x :: st) μ Q = Ev d 130 40 L (.int (x + y) :: st) μ Q := e_iadd (by decide +kernel : decode (bOf 130) 39 = .ok (.iadd, 1))
theorem x_130_40 : Ev d 130 40 (a0 :: L) (.int x :: st) μ Q = Ev d 130 41 (.int x :: L) st μ Q := e_istore_n (by decide +kernel : decode (bOf 130) 40 = .ok (.istore_n 0, 1)) (by show stOK _ 0 = true; simp [stOK])
theorem x_130_41 : Ev d 130 41 (.int x :: L) st μ Q = Ev d 130 42 (.int x :: L) (.int x :: st) μ Q := e_iload_n (by decide +kernel : decode (bOf 130) 41 = .ok (.iload_n 0, 1)) rfl
theorem x_130_42 : Ev d 130 42 (.int x :: L) st μ Q = Ev d 130 43 (.int x :: L) (.int x :: st) μ Q := e_iload_n (by decide +kernel : decode (bOf 130) 42 = .ok (.iload_n 0, 1)) rfl
theorem x_130_43 : Ev d 130 43 L st μ Q = Ev d 130 45 L (.int (iI 16) :: st) μ Q := e_bipush (by decide +kernel : decode (bOf 130) 43 = .ok (.bipush 16, 2)) (by decide +kernel)
theorem x_130_45 : Ev d 130 45 L (.int y :: .int x :: st) μ Q = Ev d 130 46 L (.int (x.toUInt32 >>> (y.toUInt32 &&& Int32.toUInt32 31)).toInt32 :: st) μ Q := e_iushr (by decide +kernel : decode (bOf 130) 45 = .ok (.iushr, 1))
theorem x_130_46 : Ev d 130 46 L (.int y :: .int x :: st) μ Q = Ev d 130 47 L (.int (x + y) :: st) μ Q := e_iadd (by decide +kernel : decode (bOf 130) 46 = .ok (.iadd, 1))
theorem x_130_47 : Ev d 130 47 (a0 :: L) (.int x :: st) μ Q = Ev d 130 48 (.int x :: L) st μ Q := e_istore_n (by decide +kernel : decode (bOf 130) 47 = .ok (.istore_n 0, 1)) (by show stOK _ 0 = true; simp [stOK])
theorem x_130_48 : Ev d 130 48 (.int x :: L) st μ Q = Ev d 130 49 (.int x :: L) (.int x :: st) μ Q := e_iload_n (by decide +kernel : decode (bOf 130) 48 = .ok (.iload_n 0, 1)) rfl
theorem x_130_49 : Ev d 130 49 L st μ Q = Ev d 130 51 L (.int (iI 63) :: st) μ Q := e_bipush (by decide +kernel : decode (bOf 130) 49 = .ok (.bipush 63, 2)) (by decide +kernel)
theorem x_130_51 : Ev d 130 51 L (.int y :: .int x :: st) μ Q = Ev d 130 52 L (.int (x &&& y) :: st) μ Q := e_iand (by decide +kernel : decode (bOf 130) 51 = .ok (.iand, 1))
theorem x_130_52 : Ev d 130 52 L [.int x] μ Q = Q (some (.int x)) μ := e_iret (by decide +kernel : decode (bOf 130) 52 = .ok (.ireturn, 1)) (by decide +kernel)
theorem c_132 : Call (d + 1) 132 [.ref r0] μ Q = Ev d 132 0 [.ref r0, .null, .null, .null] [] μ Q := call_ev rfl rfl
theorem x_132_0 : Ev d 132 0 L st ((N, S, K), V, A, P) Q = Ev d 132 3 L (.ref N :: st) ((N + 1, S + 12, up1 K N (4, 12)), up1 V N (rw' [.null, .null, .null, .null, .null, .null, .null, .null, .null, .int 0, .int 0, .int 0]), A, P) Q := e_new 12 [.null, .null, .null, .null, .null, .null, .null, .null, .null, .int 0, .int 0, .int 0] (by decide +kernel : decode (bOf 132) 0 = .ok (.new 7, 3)) (by decide +kernel) (by decide +kernel) (by decide +kernel) (by decide +kernel)
theorem x_132_3 : Ev d 132 3 L (.ref r :: st) μ Q = Ev d 132 4 L (.ref r :: .ref r :: st) μ Q := e_dup_a (by decide +kernel : decode (bOf 132) 3 = .ok (.dup, 1))
theorem x_132_4 : Ev d 132 4 L [.ref r, s0] μ Q = Call d 43 [.ref r] μ (fun v μ1 => Ev d 132 7 L (v.toList ++ [s0]) μ1 Q) := e_callI (a := []) (r := [s0]) (by decide +kernel : decode (bOf 132) 4 = .ok (.invokespecial 9, 3)) (by decide +kernel) (by decide +kernel) (by decide +kernel) (by decide +kernel) (by omega) rfl (by simp)
theorem x_132_7 (h : a0.category = 1) : Ev d 132 7 (a0 :: a1 :: L) (.ref r :: st) μ Q = Ev d 132 8 (a0 :: .ref r :: L) st μ Q := e_astore_n (by decide +kernel : decode (bOf 132) 7 = .ok (.astore_n 1, 1)) (by show stOK _ 1 = true; simp [stOK, h])
theorem x_132_8 : Ev d 132 8 L st ((N, S, K), V, A, P) Q = Ev d 132 11 L (.ref N :: st) ((N + 1, S + 32, up1 K N (5, 32)), up1 V N (rw' [.int 0, .null, .null, .int 0, .null, .null, .null, .int 0, .null, .int 0, .null, .null, .int 0, .int 0, .int 0, .int 0, .int 0, .int 0, .int 0, .null, .null, .null, .null, .int 0, .int 0, .null, .int 0, .int 0, .int 0, .int 0, .null, .null]), A, P) Q := e_new 32 [.int 0, .null, .null, .int 0, .null, .null, .null, .int 0, .null, .int 0, .null, .null, .int 0, .int 0, .int 0, .int 0, .int 0, .int 0, .int 0, .null, .null, .null, .null, .int 0, .int 0, .null, .int 0, .int 0, .int 0, .int 0, .null, .null] (by decide +kernel : decode (bOf 132) 8 = .ok (.new 10, 3)) (by decide +kernel) (by decide +kernel) (by decide +kernel) (by decide +kernel)
theorem x_132_11 : Ev d 132 11 L (.ref r :: st) μ Q = Ev d 132 12 L (.ref r :: .ref r :: st) μ Q := e_dup_a (by decide +kernel : decode (bOf 132) 11 = .ok (.dup, 1))
theorem x_132_12 : Ev d 132 12 L [.ref r, s0] μ Q = Call d 78 [.ref r] μ (fun v μ1 => Ev d 132 15 L (v.toList ++ [s0]) μ1 Q) := e_callI (a := []) (r := [s0]) (by decide +kernel : decode (bOf 132) 12 = .ok (.invokespecial 12, 3)) (by decide +kernel) (by decide +kernel) (by decide +kernel) (by decide +kernel) (by omega) rfl (by simp)
theorem x_132_15 (h : a1.category = 1) : Ev d 132 15 (a0 :: a1 :: a2 :: L) (.ref r :: st) μ Q = Ev d 132 16 (a0 :: a1 :: .ref r :: L) st μ Q := e_astore_n (by decide +kernel : decode (bOf 132) 15 = .ok (.astore_n 2, 1)) (by show stOK _ 2 = true; simp [stOK, h])
theorem x_132_16 : Ev d 132 16 L st μ Q = Ev d 132 17 L (.int (iI 0) :: st) μ Q := e_iconst (by decide +kernel : decode (bOf 132) 16 = .ok (.iconst 0, 1))
theorem x_132_17 (h : a2.category = 1) : Ev d 132 17 (a0 :: a1 :: a2 :: a3 :: L) (.int x :: st) μ Q = Ev d 132 18 (a0 :: a1 :: a2 :: .int x :: L) st μ Q := e_istore_n (by decide +kernel : decode (bOf 132) 17 = .ok (.istore_n 3, 1)) (by show stOK _ 3 = true; simp [stOK, h])
theorem x_132_18 : Ev d 132 18 (a0 :: a1 :: a2 :: .int x :: L) st μ Q = Ev d 132 19 (a0 :: a1 :: a2 :: .int x :: L) (.int x :: st) μ Q := e_iload_n (by decide +kernel : decode (bOf 132) 18 = .ok (.iload_n 3, 1)) rfl
theorem x_132_19 : Ev d 132 19 (.ref r :: L) st μ Q = Ev d 132 20 (.ref r :: L) (.ref r :: st) μ Q := e_aload_n (by decide +kernel : decode (bOf 132) 19 = .ok (.aload_n 0, 1)) rfl
theorem x_132_20 (h : kd t r = 10) : Ev d 132 20 L (.ref r :: st) (t, V, A, P) Q = Ev d 132 21 L (.int (Int32.ofNat (ln t r)) :: st) (t, V, A, P) Q := e_alen (by decide +kernel : decode (bOf 132) 20 = .ok (.arraylength, 1)) h
theorem x_132_21 : Ev d 132 21 L st μ Q = Ev d 132 22 L (.int (iI 5) :: st) μ Q := e_iconst (by decide +kernel : decode (bOf 132) 21 = .ok (.iconst 5, 1))
theorem x_132_22 : Ev d 132 22 L (.int y :: .int x :: st) μ Q = Ev d 132 23 L (.int (x - y) :: st) μ Q := e_isub (by decide +kernel : decode (bOf 132) 22 = .ok (.isub, 1))
theorem x_132_23 : Ev d 132 23 L (.int y :: .int x :: st) μ Q = if y < x then Ev d 132 661 L st μ Q else Ev d 132 26 L st μ Q := e_icmp_gt (by decide +kernel : decode (bOf 132) 23 = .ok (.if_icmp .gt 638, 3)) (by omega)
theorem x_132_26 : Ev d 132 26 (.ref r :: L) st μ Q = Ev d 132 27 (.ref r :: L) (.ref r :: st) μ Q := e_aload_n (by decide +kernel : decode (bOf 132) 26 = .ok (.aload_n 0, 1)) rfl
theorem x_132_27 : Ev d 132 27 (a0 :: a1 :: a2 :: .int x :: L) st μ Q = Ev d 132 28 (a0 :: a1 :: a2 :: .int x :: L) (.int x :: st) μ Q := e_iload_n (by decide +kernel : decode (bOf 132) 27 = .ok (.iload_n 3, 1)) rfl
theorem x_132_28 (h : kd t r = 10) (hi : inB x (ln t r) = true) : Ev d 132 28 L (.int x :: .ref r :: st) (t, V, A, P) Q = Ev d 132 29 L (.int (A r x.toNatClampNeg) :: st) (t, V, A, P) Q := e_iald_ro (by decide +kernel : decode (bOf 132) 28 = .ok (.iaload, 1)) h hi
theorem x_132_29 : Ev d 132 29 L st μ Q = Ev d 132 31 L (.int (iI 31) :: st) μ Q := e_bipush (by decide +kernel : decode (bOf 132) 29 = .ok (.bipush 31, 2)) (by decide +kernel)
theorem x_132_31 : Ev d 132 31 L (.int y :: .int x :: st) μ Q = Ev d 132 32 L (.int (x &&& y) :: st) μ Q := e_iand (by decide +kernel : decode (bOf 132) 31 = .ok (.iand, 1))
theorem x_132_32 : Ev d 132 32 L (.int x :: st) μ Q = if x = iI 0 then Ev d 132 132 L st μ Q else if x = iI 1 then Ev d 132 155 L st μ Q else if x = iI 2 then Ev d 132 168 L st μ Q else if x = iI 3 then Ev d 132 181 L st μ Q else if x = iI 4 then Ev d 132 204 L st μ Q else if x = iI 5 then Ev d 132 227 L st μ Q else if x = iI 6 then Ev d 132 250 L st μ Q else if x = iI 7 then Ev d 132 263 L st μ Q else if x = iI 8 then Ev d 132 276 L st μ Q else if x = iI 9 then Ev d 132 309 L st μ Q else if x = iI 10 then Ev d 132 332 L st μ Q else if x = iI 11 then Ev d 132 355 L st μ Q else if x = iI 12 then Ev d 132 378 L st μ Q else if x = iI 13 then Ev d 132 431 L st μ Q else if x = iI 14 then Ev d 132 474 L st μ Q else if x = iI 15 then Ev d 132 497 L st μ Q else if x = iI 16 then Ev d 132 530 L st μ Q else if x = iI 17 then Ev d 132 563 L st μ Q else if x = iI 18 then Ev d 132 586 L st μ Q else if x = iI 19 then Ev d 132 609 L st μ Q else if x = iI 20 then Ev d 132 632 L st μ Q else Ev d 132 655 L st μ Q := by
  have hd : decode (bOf 132) 32 = .ok (.tableswitch 623 0 20 #[100, 123, 136, 149, 172, 195, 218, 231, 244, 277, 300, 323, 346, 399, 442, 465, 498, 531, 554, 577, 600], 100) := by decide +kernel
  by_cases h0 : x = iI 0
  · rw [if_pos h0]; exact e_sw hd (sw_in (off := 100) h0 (by omega) (by omega) (by omega) rfl (by omega))
  rw [if_neg h0]
  by_cases h1 : x = iI 1
  · rw [if_pos h1]; exact e_sw hd (sw_in (off := 123) h1 (by omega) (by omega) (by omega) rfl (by omega))
  rw [if_neg h1]
  by_cases h2 : x = iI 2
  · rw [if_pos h2]; exact e_sw hd (sw_in (off := 136) h2 (by omega) (by omega) (by omega) rfl (by omega))
  rw [if_neg h2]
  by_cases h3 : x = iI 3
  · rw [if_pos h3]; exact e_sw hd (sw_in (off := 149) h3 (by omega) (by omega) (by omega) rfl (by omega))
  rw [if_neg h3]
  by_cases h4 : x = iI 4
  · rw [if_pos h4]; exact e_sw hd (sw_in (off := 172) h4 (by omega) (by omega) (by omega) rfl (by omega))
  rw [if_neg h4]
  by_cases h5 : x = iI 5
  · rw [if_pos h5]; exact e_sw hd (sw_in (off := 195) h5 (by omega) (by omega) (by omega) rfl (by omega))
  rw [if_neg h5]
  by_cases h6 : x = iI 6
  · rw [if_pos h6]; exact e_sw hd (sw_in (off := 218) h6 (by omega) (by omega) (by omega) rfl (by omega))
  rw [if_neg h6]
  by_cases h7 : x = iI 7
  · rw [if_pos h7]; exact e_sw hd (sw_in (off := 231) h7 (by omega) (by omega) (by omega) rfl (by omega))
  rw [if_neg h7]
  by_cases h8 : x = iI 8
  · rw [if_pos h8]; exact e_sw hd (sw_in (off := 244) h8 (by omega) (by omega) (by omega) rfl (by omega))
  rw [if_neg h8]
  by_cases h9 : x = iI 9
  · rw [if_pos h9]; exact e_sw hd (sw_in (off := 277) h9 (by omega) (by omega) (by omega) rfl (by omega))
  rw [if_neg h9]
  by_cases h10 : x = iI 10
  · rw [if_pos h10]; exact e_sw hd (sw_in (off := 300) h10 (by omega) (by omega) (by omega) rfl (by omega))
  rw [if_neg h10]
  by_cases h11 : x = iI 11
  · rw [if_pos h11]; exact e_sw hd (sw_in (off := 323) h11 (by omega) (by omega) (by omega) rfl (by omega))
  rw [if_neg h11]
  by_cases h12 : x = iI 12
  · rw [if_pos h12]; exact e_sw hd (sw_in (off := 346) h12 (by omega) (by omega) (by omega) rfl (by omega))
  rw [if_neg h12]
  by_cases h13 : x = iI 13
  · rw [if_pos h13]; exact e_sw hd (sw_in (off := 399) h13 (by omega) (by omega) (by omega) rfl (by omega))
  rw [if_neg h13]
  by_cases h14 : x = iI 14
  · rw [if_pos h14]; exact e_sw hd (sw_in (off := 442) h14 (by omega) (by omega) (by omega) rfl (by omega))
  rw [if_neg h14]
  by_cases h15 : x = iI 15
  · rw [if_pos h15]; exact e_sw hd (sw_in (off := 465) h15 (by omega) (by omega) (by omega) rfl (by omega))
  rw [if_neg h15]
  by_cases h16 : x = iI 16
  · rw [if_pos h16]; exact e_sw hd (sw_in (off := 498) h16 (by omega) (by omega) (by omega) rfl (by omega))
  rw [if_neg h16]
  by_cases h17 : x = iI 17
  · rw [if_pos h17]; exact e_sw hd (sw_in (off := 531) h17 (by omega) (by omega) (by omega) rfl (by omega))
  rw [if_neg h17]
  by_cases h18 : x = iI 18
  · rw [if_pos h18]; exact e_sw hd (sw_in (off := 554) h18 (by omega) (by omega) (by omega) rfl (by omega))
  rw [if_neg h18]
  by_cases h19 : x = iI 19
  · rw [if_pos h19]; exact e_sw hd (sw_in (off := 577) h19 (by omega) (by omega) (by omega) rfl (by omega))
  rw [if_neg h19]
  by_cases h20 : x = iI 20
  · rw [if_pos h20]; exact e_sw hd (sw_in (off := 600) h20 (by omega) (by omega) (by omega) rfl (by omega))
  rw [if_neg h20]
  have g0 := ne_toInt h0
  have g1 := ne_toInt h1
  have g2 := ne_toInt h2
  have g3 := ne_toInt h3
  have g4 := ne_toInt h4
  have g5 := ne_toInt h5
  have g6 := ne_toInt h6
  have g7 := ne_toInt h7
  have g8 := ne_toInt h8
  have g9 := ne_toInt h9
  have g10 := ne_toInt h10
  have g11 := ne_toInt h11
  have g12 := ne_toInt h12
  have g13 := ne_toInt h13
  have g14 := ne_toInt h14
  have g15 := ne_toInt h15
  have g16 := ne_toInt h16
  have g17 := ne_toInt h17
  have g18 := ne_toInt h18
  have g19 := ne_toInt h19
  have g20 := ne_toInt h20
  exact e_sw hd (sw_out (by omega) (by omega))
theorem x_132_132 : Ev d 132 132 (a0 :: .ref r :: L) st μ Q = Ev d 132 133 (a0 :: .ref r :: L) (.ref r :: st) μ Q := e_aload_n (by decide +kernel : decode (bOf 132) 132 = .ok (.aload_n 1, 1)) rfl
theorem x_132_133 : Ev d 132 133 (.ref r :: L) st μ Q = Ev d 132 134 (.ref r :: L) (.ref r :: st) μ Q := e_aload_n (by decide +kernel : decode (bOf 132) 133 = .ok (.aload_n 0, 1)) rfl
theorem x_132_134 : Ev d 132 134 (a0 :: a1 :: a2 :: .int x :: L) st μ Q = Ev d 132 135 (a0 :: a1 :: a2 :: .int x :: L) (.int x :: st) μ Q := e_iload_n (by decide +kernel : decode (bOf 132) 134 = .ok (.iload_n 3, 1)) rfl
theorem x_132_135 : Ev d 132 135 L st μ Q = Ev d 132 136 L (.int (iI 1) :: st) μ Q := e_iconst (by decide +kernel : decode (bOf 132) 135 = .ok (.iconst 1, 1))
theorem x_132_136 : Ev d 132 136 L (.int y :: .int x :: st) μ Q = Ev d 132 137 L (.int (x + y) :: st) μ Q := e_iadd (by decide +kernel : decode (bOf 132) 136 = .ok (.iadd, 1))
theorem x_132_137 (h : kd t r = 10) (hi : inB x (ln t r) = true) : Ev d 132 137 L (.int x :: .ref r :: st) (t, V, A, P) Q = Ev d 132 138 L (.int (A r x.toNatClampNeg) :: st) (t, V, A, P) Q := e_iald_ro (by decide +kernel : decode (bOf 132) 137 = .ok (.iaload, 1)) h hi
theorem x_132_138 (h : kd t r = 4) : Ev d 132 138 L [b0, .ref r] (t, V, A, P) Q = Call d 44 [.ref r, b0] (t, V, A, P) (fun v μ1 => Ev d 132 141 L (v.toList ++ []) μ1 Q) := e_callV (a := [b0]) (r := []) (by decide +kernel : decode (bOf 132) 138 = .ok (.invokevirtual 13, 3)) (by decide +kernel) (by decide +kernel) (by decide +kernel) (by omega) rfl (by simp) (by decide +kernel) h
theorem x_132_141 : Ev d 132 141 (a0 :: a1 :: .ref r :: L) st μ Q = Ev d 132 142 (a0 :: a1 :: .ref r :: L) (.ref r :: st) μ Q := e_aload_n (by decide +kernel : decode (bOf 132) 141 = .ok (.aload_n 2, 1)) rfl
theorem x_132_142 : Ev d 132 142 (.ref r :: L) st μ Q = Ev d 132 143 (.ref r :: L) (.ref r :: st) μ Q := e_aload_n (by decide +kernel : decode (bOf 132) 142 = .ok (.aload_n 0, 1)) rfl
theorem x_132_143 : Ev d 132 143 (a0 :: a1 :: a2 :: .int x :: L) st μ Q = Ev d 132 144 (a0 :: a1 :: a2 :: .int x :: L) (.int x :: st) μ Q := e_iload_n (by decide +kernel : decode (bOf 132) 143 = .ok (.iload_n 3, 1)) rfl
theorem x_132_144 : Ev d 132 144 L st μ Q = Ev d 132 145 L (.int (iI 1) :: st) μ Q := e_iconst (by decide +kernel : decode (bOf 132) 144 = .ok (.iconst 1, 1))
theorem x_132_145 : Ev d 132 145 L (.int y :: .int x :: st) μ Q = Ev d 132 146 L (.int (x + y) :: st) μ Q := e_iadd (by decide +kernel : decode (bOf 132) 145 = .ok (.iadd, 1))
theorem x_132_146 (h : kd t r = 10) (hi : inB x (ln t r) = true) : Ev d 132 146 L (.int x :: .ref r :: st) (t, V, A, P) Q = Ev d 132 147 L (.int (A r x.toNatClampNeg) :: st) (t, V, A, P) Q := e_iald_ro (by decide +kernel : decode (bOf 132) 146 = .ok (.iaload, 1)) h hi
theorem x_132_147 (h : kd t r = 5) : Ev d 132 147 L [b0, .ref r, s0] (t, V, A, P) Q = Call d 87 [.ref r, b0] (t, V, A, P) (fun v μ1 => Ev d 132 150 L (v.toList ++ [s0]) μ1 Q) := e_callV (a := [b0]) (r := [s0]) (by decide +kernel : decode (bOf 132) 147 = .ok (.invokevirtual 17, 3)) (by decide +kernel) (by decide +kernel) (by decide +kernel) (by omega) rfl (by simp) (by decide +kernel) h
theorem x_132_150 : Ev d 132 150 L (.int y :: .int x :: st) μ Q = if x = y then Ev d 132 655 L st μ Q else Ev d 132 153 L st μ Q := e_icmp_eq (by decide +kernel : decode (bOf 132) 150 = .ok (.if_icmp .eq 505, 3)) (by omega)
theorem x_132_153 : Ev d 132 153 L st μ Q = Ev d 132 154 L (.int (iI 0) :: st) μ Q := e_iconst (by decide +kernel : decode (bOf 132) 153 = .ok (.iconst 0, 1))
theorem x_132_154 (hx : isB x) : Ev d 132 154 L [.int x] μ Q = Q (some (.int x)) μ := e_zret (by decide +kernel : decode (bOf 132) 154 = .ok (.ireturn, 1)) (by decide +kernel) hx
theorem x_132_155 : Ev d 132 155 (a0 :: .ref r :: L) st μ Q = Ev d 132 156 (a0 :: .ref r :: L) (.ref r :: st) μ Q := e_aload_n (by decide +kernel : decode (bOf 132) 155 = .ok (.aload_n 1, 1)) rfl
theorem x_132_156 (h : kd t r = 4) : Ev d 132 156 L [.ref r] (t, V, A, P) Q = Call d 45 [.ref r] (t, V, A, P) (fun v μ1 => Ev d 132 159 L (v.toList ++ []) μ1 Q) := e_callV (a := []) (r := []) (by decide +kernel : decode (bOf 132) 156 = .ok (.invokevirtual 18, 3)) (by decide +kernel) (by decide +kernel) (by decide +kernel) (by omega) rfl (by simp) (by decide +kernel) h
theorem x_132_159 : Ev d 132 159 (a0 :: a1 :: .ref r :: L) st μ Q = Ev d 132 160 (a0 :: a1 :: .ref r :: L) (.ref r :: st) μ Q := e_aload_n (by decide +kernel : decode (bOf 132) 159 = .ok (.aload_n 2, 1)) rfl
theorem x_132_160 (h : kd t r = 5) : Ev d 132 160 L [.ref r, s0] (t, V, A, P) Q = Call d 88 [.ref r] (t, V, A, P) (fun v μ1 => Ev d 132 163 L (v.toList ++ [s0]) μ1 Q) := e_callV (a := []) (r := [s0]) (by decide +kernel : decode (bOf 132) 160 = .ok (.invokevirtual 22, 3)) (by decide +kernel) (by decide +kernel) (by decide +kernel) (by omega) rfl (by simp) (by decide +kernel) h
theorem x_132_163 : Ev d 132 163 L (.int y :: .int x :: st) μ Q = if x = y then Ev d 132 655 L st μ Q else Ev d 132 166 L st μ Q := e_icmp_eq (by decide +kernel : decode (bOf 132) 163 = .ok (.if_icmp .eq 492, 3)) (by omega)
theorem x_132_166 : Ev d 132 166 L st μ Q = Ev d 132 167 L (.int (iI 0) :: st) μ Q := e_iconst (by decide +kernel : decode (bOf 132) 166 = .ok (.iconst 0, 1))
theorem x_132_167 (hx : isB x) : Ev d 132 167 L [.int x] μ Q = Q (some (.int x)) μ := e_zret (by decide +kernel : decode (bOf 132) 167 = .ok (.ireturn, 1)) (by decide +kernel) hx
theorem x_132_168 : Ev d 132 168 (a0 :: .ref r :: L) st μ Q = Ev d 132 169 (a0 :: .ref r :: L) (.ref r :: st) μ Q := e_aload_n (by decide +kernel : decode (bOf 132) 168 = .ok (.aload_n 1, 1)) rfl
theorem x_132_169 (h : kd t r = 4) : Ev d 132 169 L [.ref r] (t, V, A, P) Q = Call d 46 [.ref r] (t, V, A, P) (fun v μ1 => Ev d 132 172 L (v.toList ++ []) μ1 Q) := e_callV (a := []) (r := []) (by decide +kernel : decode (bOf 132) 169 = .ok (.invokevirtual 23, 3)) (by decide +kernel) (by decide +kernel) (by decide +kernel) (by omega) rfl (by simp) (by decide +kernel) h
theorem x_132_172 : Ev d 132 172 (a0 :: a1 :: .ref r :: L) st μ Q = Ev d 132 173 (a0 :: a1 :: .ref r :: L) (.ref r :: st) μ Q := e_aload_n (by decide +kernel : decode (bOf 132) 172 = .ok (.aload_n 2, 1)) rfl
theorem x_132_173 (h : kd t r = 5) : Ev d 132 173 L [.ref r, s0] (t, V, A, P) Q = Call d 92 [.ref r] (t, V, A, P) (fun v μ1 => Ev d 132 176 L (v.toList ++ [s0]) μ1 Q) := e_callV (a := []) (r := [s0]) (by decide +kernel : decode (bOf 132) 173 = .ok (.invokevirtual 26, 3)) (by decide +kernel) (by decide +kernel) (by decide +kernel) (by omega) rfl (by simp) (by decide +kernel) h
theorem x_132_176 : Ev d 132 176 L (.int y :: .int x :: st) μ Q = if x = y then Ev d 132 655 L st μ Q else Ev d 132 179 L st μ Q := e_icmp_eq (by decide +kernel : decode (bOf 132) 176 = .ok (.if_icmp .eq 479, 3)) (by omega)
theorem x_132_179 : Ev d 132 179 L st μ Q = Ev d 132 180 L (.int (iI 0) :: st) μ Q := e_iconst (by decide +kernel : decode (bOf 132) 179 = .ok (.iconst 0, 1))
theorem x_132_180 (hx : isB x) : Ev d 132 180 L [.int x] μ Q = Q (some (.int x)) μ := e_zret (by decide +kernel : decode (bOf 132) 180 = .ok (.ireturn, 1)) (by decide +kernel) hx
theorem x_132_181 : Ev d 132 181 (a0 :: .ref r :: L) st μ Q = Ev d 132 182 (a0 :: .ref r :: L) (.ref r :: st) μ Q := e_aload_n (by decide +kernel : decode (bOf 132) 181 = .ok (.aload_n 1, 1)) rfl
theorem x_132_182 : Ev d 132 182 (.ref r :: L) st μ Q = Ev d 132 183 (.ref r :: L) (.ref r :: st) μ Q := e_aload_n (by decide +kernel : decode (bOf 132) 182 = .ok (.aload_n 0, 1)) rfl
theorem x_132_183 : Ev d 132 183 (a0 :: a1 :: a2 :: .int x :: L) st μ Q = Ev d 132 184 (a0 :: a1 :: a2 :: .int x :: L) (.int x :: st) μ Q := e_iload_n (by decide +kernel : decode (bOf 132) 183 = .ok (.iload_n 3, 1)) rfl
theorem x_132_184 : Ev d 132 184 L st μ Q = Ev d 132 185 L (.int (iI 1) :: st) μ Q := e_iconst (by decide +kernel : decode (bOf 132) 184 = .ok (.iconst 1, 1))
theorem x_132_185 : Ev d 132 185 L (.int y :: .int x :: st) μ Q = Ev d 132 186 L (.int (x + y) :: st) μ Q := e_iadd (by decide +kernel : decode (bOf 132) 185 = .ok (.iadd, 1))
theorem x_132_186 (h : kd t r = 10) (hi : inB x (ln t r) = true) : Ev d 132 186 L (.int x :: .ref r :: st) (t, V, A, P) Q = Ev d 132 187 L (.int (A r x.toNatClampNeg) :: st) (t, V, A, P) Q := e_iald_ro (by decide +kernel : decode (bOf 132) 186 = .ok (.iaload, 1)) h hi
theorem x_132_187 (h : kd t r = 4) : Ev d 132 187 L [b0, .ref r] (t, V, A, P) Q = Call d 47 [.ref r, b0] (t, V, A, P) (fun v μ1 => Ev d 132 190 L (v.toList ++ []) μ1 Q) := e_callV (a := [b0]) (r := []) (by decide +kernel : decode (bOf 132) 187 = .ok (.invokevirtual 27, 3)) (by decide +kernel) (by decide +kernel) (by decide +kernel) (by omega) rfl (by simp) (by decide +kernel) h
theorem x_132_190 : Ev d 132 190 (a0 :: a1 :: .ref r :: L) st μ Q = Ev d 132 191 (a0 :: a1 :: .ref r :: L) (.ref r :: st) μ Q := e_aload_n (by decide +kernel : decode (bOf 132) 190 = .ok (.aload_n 2, 1)) rfl
theorem x_132_191 : Ev d 132 191 (.ref r :: L) st μ Q = Ev d 132 192 (.ref r :: L) (.ref r :: st) μ Q := e_aload_n (by decide +kernel : decode (bOf 132) 191 = .ok (.aload_n 0, 1)) rfl
theorem x_132_192 : Ev d 132 192 (a0 :: a1 :: a2 :: .int x :: L) st μ Q = Ev d 132 193 (a0 :: a1 :: a2 :: .int x :: L) (.int x :: st) μ Q := e_iload_n (by decide +kernel : decode (bOf 132) 192 = .ok (.iload_n 3, 1)) rfl
theorem x_132_193 : Ev d 132 193 L st μ Q = Ev d 132 194 L (.int (iI 1) :: st) μ Q := e_iconst (by decide +kernel : decode (bOf 132) 193 = .ok (.iconst 1, 1))
theorem x_132_194 : Ev d 132 194 L (.int y :: .int x :: st) μ Q = Ev d 132 195 L (.int (x + y) :: st) μ Q := e_iadd (by decide +kernel : decode (bOf 132) 194 = .ok (.iadd, 1))
theorem x_132_195 (h : kd t r = 10) (hi : inB x (ln t r) = true) : Ev d 132 195 L (.int x :: .ref r :: st) (t, V, A, P) Q = Ev d 132 196 L (.int (A r x.toNatClampNeg) :: st) (t, V, A, P) Q := e_iald_ro (by decide +kernel : decode (bOf 132) 195 = .ok (.iaload, 1)) h hi
theorem x_132_196 (h : kd t r = 5) : Ev d 132 196 L [b0, .ref r, s0] (t, V, A, P) Q = Call d 96 [.ref r, b0] (t, V, A, P) (fun v μ1 => Ev d 132 199 L (v.toList ++ [s0]) μ1 Q) := e_callV (a := [b0]) (r := [s0]) (by decide +kernel : decode (bOf 132) 196 = .ok (.invokevirtual 30, 3)) (by decide +kernel) (by decide +kernel) (by decide +kernel) (by omega) rfl (by simp) (by decide +kernel) h
theorem x_132_199 : Ev d 132 199 L (.int y :: .int x :: st) μ Q = if x = y then Ev d 132 655 L st μ Q else Ev d 132 202 L st μ Q := e_icmp_eq (by decide +kernel : decode (bOf 132) 199 = .ok (.if_icmp .eq 456, 3)) (by omega)
theorem x_132_202 : Ev d 132 202 L st μ Q = Ev d 132 203 L (.int (iI 0) :: st) μ Q := e_iconst (by decide +kernel : decode (bOf 132) 202 = .ok (.iconst 0, 1))
theorem x_132_203 (hx : isB x) : Ev d 132 203 L [.int x] μ Q = Q (some (.int x)) μ := e_zret (by decide +kernel : decode (bOf 132) 203 = .ok (.ireturn, 1)) (by decide +kernel) hx
theorem x_132_204 : Ev d 132 204 (a0 :: .ref r :: L) st μ Q = Ev d 132 205 (a0 :: .ref r :: L) (.ref r :: st) μ Q := e_aload_n (by decide +kernel : decode (bOf 132) 204 = .ok (.aload_n 1, 1)) rfl
theorem x_132_205 : Ev d 132 205 (.ref r :: L) st μ Q = Ev d 132 206 (.ref r :: L) (.ref r :: st) μ Q := e_aload_n (by decide +kernel : decode (bOf 132) 205 = .ok (.aload_n 0, 1)) rfl
theorem x_132_206 : Ev d 132 206 (a0 :: a1 :: a2 :: .int x :: L) st μ Q = Ev d 132 207 (a0 :: a1 :: a2 :: .int x :: L) (.int x :: st) μ Q := e_iload_n (by decide +kernel : decode (bOf 132) 206 = .ok (.iload_n 3, 1)) rfl
theorem x_132_207 : Ev d 132 207 L st μ Q = Ev d 132 208 L (.int (iI 1) :: st) μ Q := e_iconst (by decide +kernel : decode (bOf 132) 207 = .ok (.iconst 1, 1))
theorem x_132_208 : Ev d 132 208 L (.int y :: .int x :: st) μ Q = Ev d 132 209 L (.int (x + y) :: st) μ Q := e_iadd (by decide +kernel : decode (bOf 132) 208 = .ok (.iadd, 1))
theorem x_132_209 (h : kd t r = 10) (hi : inB x (ln t r) = true) : Ev d 132 209 L (.int x :: .ref r :: st) (t, V, A, P) Q = Ev d 132 210 L (.int (A r x.toNatClampNeg) :: st) (t, V, A, P) Q := e_iald_ro (by decide +kernel : decode (bOf 132) 209 = .ok (.iaload, 1)) h hi
theorem x_132_210 (h : kd t r = 4) : Ev d 132 210 L [b0, .ref r] (t, V, A, P) Q = Call d 48 [.ref r, b0] (t, V, A, P) (fun v μ1 => Ev d 132 213 L (v.toList ++ []) μ1 Q) := e_callV (a := [b0]) (r := []) (by decide +kernel : decode (bOf 132) 210 = .ok (.invokevirtual 31, 3)) (by decide +kernel) (by decide +kernel) (by decide +kernel) (by omega) rfl (by simp) (by decide +kernel) h
theorem x_132_213 : Ev d 132 213 (a0 :: a1 :: .ref r :: L) st μ Q = Ev d 132 214 (a0 :: a1 :: .ref r :: L) (.ref r :: st) μ Q := e_aload_n (by decide +kernel : decode (bOf 132) 213 = .ok (.aload_n 2, 1)) rfl
theorem x_132_214 : Ev d 132 214 (.ref r :: L) st μ Q = Ev d 132 215 (.ref r :: L) (.ref r :: st) μ Q := e_aload_n (by decide +kernel : decode (bOf 132) 214 = .ok (.aload_n 0, 1)) rfl
theorem x_132_215 : Ev d 132 215 (a0 :: a1 :: a2 :: .int x :: L) st μ Q = Ev d 132 216 (a0 :: a1 :: a2 :: .int x :: L) (.int x :: st) μ Q := e_iload_n (by decide +kernel : decode (bOf 132) 215 = .ok (.iload_n 3, 1)) rfl
theorem x_132_216 : Ev d 132 216 L st μ Q = Ev d 132 217 L (.int (iI 1) :: st) μ Q := e_iconst (by decide +kernel : decode (bOf 132) 216 = .ok (.iconst 1, 1))
theorem x_132_217 : Ev d 132 217 L (.int y :: .int x :: st) μ Q = Ev d 132 218 L (.int (x + y) :: st) μ Q := e_iadd (by decide +kernel : decode (bOf 132) 217 = .ok (.iadd, 1))
theorem x_132_218 (h : kd t r = 10) (hi : inB x (ln t r) = true) : Ev d 132 218 L (.int x :: .ref r :: st) (t, V, A, P) Q = Ev d 132 219 L (.int (A r x.toNatClampNeg) :: st) (t, V, A, P) Q := e_iald_ro (by decide +kernel : decode (bOf 132) 218 = .ok (.iaload, 1)) h hi
theorem x_132_219 (h : kd t r = 5) : Ev d 132 219 L [b0, .ref r, s0] (t, V, A, P) Q = Call d 97 [.ref r, b0] (t, V, A, P) (fun v μ1 => Ev d 132 222 L (v.toList ++ [s0]) μ1 Q) := e_callV (a := [b0]) (r := [s0]) (by decide +kernel : decode (bOf 132) 219 = .ok (.invokevirtual 34, 3)) (by decide +kernel) (by decide +kernel) (by decide +kernel) (by omega) rfl (by simp) (by decide +kernel) h
theorem x_132_222 : Ev d 132 222 L (.int y :: .int x :: st) μ Q = if x = y then Ev d 132 655 L st μ Q else Ev d 132 225 L st μ Q := e_icmp_eq (by decide +kernel : decode (bOf 132) 222 = .ok (.if_icmp .eq 433, 3)) (by omega)
theorem x_132_225 : Ev d 132 225 L st μ Q = Ev d 132 226 L (.int (iI 0) :: st) μ Q := e_iconst (by decide +kernel : decode (bOf 132) 225 = .ok (.iconst 0, 1))
theorem x_132_226 (hx : isB x) : Ev d 132 226 L [.int x] μ Q = Q (some (.int x)) μ := e_zret (by decide +kernel : decode (bOf 132) 226 = .ok (.ireturn, 1)) (by decide +kernel) hx
theorem x_132_227 : Ev d 132 227 (a0 :: .ref r :: L) st μ Q = Ev d 132 228 (a0 :: .ref r :: L) (.ref r :: st) μ Q := e_aload_n (by decide +kernel : decode (bOf 132) 227 = .ok (.aload_n 1, 1)) rfl
theorem x_132_228 : Ev d 132 228 (.ref r :: L) st μ Q = Ev d 132 229 (.ref r :: L) (.ref r :: st) μ Q := e_aload_n (by decide +kernel : decode (bOf 132) 228 = .ok (.aload_n 0, 1)) rfl
theorem x_132_229 : Ev d 132 229 (a0 :: a1 :: a2 :: .int x :: L) st μ Q = Ev d 132 230 (a0 :: a1 :: a2 :: .int x :: L) (.int x :: st) μ Q := e_iload_n (by decide +kernel : decode (bOf 132) 229 = .ok (.iload_n 3, 1)) rfl
theorem x_132_230 : Ev d 132 230 L st μ Q = Ev d 132 231 L (.int (iI 1) :: st) μ Q := e_iconst (by decide +kernel : decode (bOf 132) 230 = .ok (.iconst 1, 1))
theorem x_132_231 : Ev d 132 231 L (.int y :: .int x :: st) μ Q = Ev d 132 232 L (.int (x + y) :: st) μ Q := e_iadd (by decide +kernel : decode (bOf 132) 231 = .ok (.iadd, 1))
theorem x_132_232 (h : kd t r = 10) (hi : inB x (ln t r) = true) : Ev d 132 232 L (.int x :: .ref r :: st) (t, V, A, P) Q = Ev d 132 233 L (.int (A r x.toNatClampNeg) :: st) (t, V, A, P) Q := e_iald_ro (by decide +kernel : decode (bOf 132) 232 = .ok (.iaload, 1)) h hi
theorem x_132_233 (h : kd t r = 4) : Ev d 132 233 L [b0, .ref r] (t, V, A, P) Q = Call d 49 [.ref r, b0] (t, V, A, P) (fun v μ1 => Ev d 132 236 L (v.toList ++ []) μ1 Q) := e_callV (a := [b0]) (r := []) (by decide +kernel : decode (bOf 132) 233 = .ok (.invokevirtual 35, 3)) (by decide +kernel) (by decide +kernel) (by decide +kernel) (by omega) rfl (by simp) (by decide +kernel) h
theorem x_132_236 : Ev d 132 236 (a0 :: a1 :: .ref r :: L) st μ Q = Ev d 132 237 (a0 :: a1 :: .ref r :: L) (.ref r :: st) μ Q := e_aload_n (by decide +kernel : decode (bOf 132) 236 = .ok (.aload_n 2, 1)) rfl
theorem x_132_237 : Ev d 132 237 (.ref r :: L) st μ Q = Ev d 132 238 (.ref r :: L) (.ref r :: st) μ Q := e_aload_n (by decide +kernel : decode (bOf 132) 237 = .ok (.aload_n 0, 1)) rfl
theorem x_132_238 : Ev d 132 238 (a0 :: a1 :: a2 :: .int x :: L) st μ Q = Ev d 132 239 (a0 :: a1 :: a2 :: .int x :: L) (.int x :: st) μ Q := e_iload_n (by decide +kernel : decode (bOf 132) 238 = .ok (.iload_n 3, 1)) rfl
theorem x_132_239 : Ev d 132 239 L st μ Q = Ev d 132 240 L (.int (iI 1) :: st) μ Q := e_iconst (by decide +kernel : decode (bOf 132) 239 = .ok (.iconst 1, 1))
theorem x_132_240 : Ev d 132 240 L (.int y :: .int x :: st) μ Q = Ev d 132 241 L (.int (x + y) :: st) μ Q := e_iadd (by decide +kernel : decode (bOf 132) 240 = .ok (.iadd, 1))
theorem x_132_241 (h : kd t r = 10) (hi : inB x (ln t r) = true) : Ev d 132 241 L (.int x :: .ref r :: st) (t, V, A, P) Q = Ev d 132 242 L (.int (A r x.toNatClampNeg) :: st) (t, V, A, P) Q := e_iald_ro (by decide +kernel : decode (bOf 132) 241 = .ok (.iaload, 1)) h hi
theorem x_132_242 (h : kd t r = 5) : Ev d 132 242 L [b0, .ref r, s0] (t, V, A, P) Q = Call d 99 [.ref r, b0] (t, V, A, P) (fun v μ1 => Ev d 132 245 L (v.toList ++ [s0]) μ1 Q) := e_callV (a := [b0]) (r := [s0]) (by decide +kernel : decode (bOf 132) 242 = .ok (.invokevirtual 38, 3)) (by decide +kernel) (by decide +kernel) (by decide +kernel) (by omega) rfl (by simp) (by decide +kernel) h
theorem x_132_245 : Ev d 132 245 L (.int y :: .int x :: st) μ Q = if x = y then Ev d 132 655 L st μ Q else Ev d 132 248 L st μ Q := e_icmp_eq (by decide +kernel : decode (bOf 132) 245 = .ok (.if_icmp .eq 410, 3)) (by omega)
theorem x_132_248 : Ev d 132 248 L st μ Q = Ev d 132 249 L (.int (iI 0) :: st) μ Q := e_iconst (by decide +kernel : decode (bOf 132) 248 = .ok (.iconst 0, 1))
theorem x_132_249 (hx : isB x) : Ev d 132 249 L [.int x] μ Q = Q (some (.int x)) μ := e_zret (by decide +kernel : decode (bOf 132) 249 = .ok (.ireturn, 1)) (by decide +kernel) hx
theorem x_132_250 : Ev d 132 250 (a0 :: .ref r :: L) st μ Q = Ev d 132 251 (a0 :: .ref r :: L) (.ref r :: st) μ Q := e_aload_n (by decide +kernel : decode (bOf 132) 250 = .ok (.aload_n 1, 1)) rfl
theorem x_132_251 (h : kd t r = 4) : Ev d 132 251 L [.ref r] (t, V, A, P) Q = Call d 50 [.ref r] (t, V, A, P) (fun v μ1 => Ev d 132 254 L (v.toList ++ []) μ1 Q) := e_callV (a := []) (r := []) (by decide +kernel : decode (bOf 132) 251 = .ok (.invokevirtual 39, 3)) (by decide +kernel) (by decide +kernel) (by decide +kernel) (by omega) rfl (by simp) (by decide +kernel) h
theorem x_132_254 : Ev d 132 254 (a0 :: a1 :: .ref r :: L) st μ Q = Ev d 132 255 (a0 :: a1 :: .ref r :: L) (.ref r :: st) μ Q := e_aload_n (by decide +kernel : decode (bOf 132) 254 = .ok (.aload_n 2, 1)) rfl
theorem x_132_255 (h : kd t r = 5) : Ev d 132 255 L [.ref r, s0] (t, V, A, P) Q = Call d 100 [.ref r] (t, V, A, P) (fun v μ1 => Ev d 132 258 L (v.toList ++ [s0]) μ1 Q) := e_callV (a := []) (r := [s0]) (by decide +kernel : decode (bOf 132) 255 = .ok (.invokevirtual 42, 3)) (by decide +kernel) (by decide +kernel) (by decide +kernel) (by omega) rfl (by simp) (by decide +kernel) h
theorem x_132_258 : Ev d 132 258 L (.int y :: .int x :: st) μ Q = if x = y then Ev d 132 655 L st μ Q else Ev d 132 261 L st μ Q := e_icmp_eq (by decide +kernel : decode (bOf 132) 258 = .ok (.if_icmp .eq 397, 3)) (by omega)
theorem x_132_261 : Ev d 132 261 L st μ Q = Ev d 132 262 L (.int (iI 0) :: st) μ Q := e_iconst (by decide +kernel : decode (bOf 132) 261 = .ok (.iconst 0, 1))
theorem x_132_262 (hx : isB x) : Ev d 132 262 L [.int x] μ Q = Q (some (.int x)) μ := e_zret (by decide +kernel : decode (bOf 132) 262 = .ok (.ireturn, 1)) (by decide +kernel) hx
theorem x_132_263 : Ev d 132 263 (a0 :: .ref r :: L) st μ Q = Ev d 132 264 (a0 :: .ref r :: L) (.ref r :: st) μ Q := e_aload_n (by decide +kernel : decode (bOf 132) 263 = .ok (.aload_n 1, 1)) rfl
theorem x_132_264 (h : kd t r = 4) : Ev d 132 264 L [.ref r] (t, V, A, P) Q = Call d 51 [.ref r] (t, V, A, P) (fun v μ1 => Ev d 132 267 L (v.toList ++ []) μ1 Q) := e_callV (a := []) (r := []) (by decide +kernel : decode (bOf 132) 264 = .ok (.invokevirtual 43, 3)) (by decide +kernel) (by decide +kernel) (by decide +kernel) (by omega) rfl (by simp) (by decide +kernel) h
theorem x_132_267 : Ev d 132 267 (a0 :: a1 :: .ref r :: L) st μ Q = Ev d 132 268 (a0 :: a1 :: .ref r :: L) (.ref r :: st) μ Q := e_aload_n (by decide +kernel : decode (bOf 132) 267 = .ok (.aload_n 2, 1)) rfl
theorem x_132_268 (h : kd t r = 5) : Ev d 132 268 L [.ref r, s0] (t, V, A, P) Q = Call d 101 [.ref r] (t, V, A, P) (fun v μ1 => Ev d 132 271 L (v.toList ++ [s0]) μ1 Q) := e_callV (a := []) (r := [s0]) (by decide +kernel : decode (bOf 132) 268 = .ok (.invokevirtual 46, 3)) (by decide +kernel) (by decide +kernel) (by decide +kernel) (by omega) rfl (by simp) (by decide +kernel) h
theorem x_132_271 : Ev d 132 271 L (.int y :: .int x :: st) μ Q = if x = y then Ev d 132 655 L st μ Q else Ev d 132 274 L st μ Q := e_icmp_eq (by decide +kernel : decode (bOf 132) 271 = .ok (.if_icmp .eq 384, 3)) (by omega)
theorem x_132_274 : Ev d 132 274 L st μ Q = Ev d 132 275 L (.int (iI 0) :: st) μ Q := e_iconst (by decide +kernel : decode (bOf 132) 274 = .ok (.iconst 0, 1))
theorem x_132_275 (hx : isB x) : Ev d 132 275 L [.int x] μ Q = Q (some (.int x)) μ := e_zret (by decide +kernel : decode (bOf 132) 275 = .ok (.ireturn, 1)) (by decide +kernel) hx
theorem x_132_276 : Ev d 132 276 (a0 :: .ref r :: L) st μ Q = Ev d 132 277 (a0 :: .ref r :: L) (.ref r :: st) μ Q := e_aload_n (by decide +kernel : decode (bOf 132) 276 = .ok (.aload_n 1, 1)) rfl
theorem x_132_277 : Ev d 132 277 (.ref r :: L) st μ Q = Ev d 132 278 (.ref r :: L) (.ref r :: st) μ Q := e_aload_n (by decide +kernel : decode (bOf 132) 277 = .ok (.aload_n 0, 1)) rfl
theorem x_132_278 : Ev d 132 278 (a0 :: a1 :: a2 :: .int x :: L) st μ Q = Ev d 132 279 (a0 :: a1 :: a2 :: .int x :: L) (.int x :: st) μ Q := e_iload_n (by decide +kernel : decode (bOf 132) 278 = .ok (.iload_n 3, 1)) rfl
theorem x_132_279 : Ev d 132 279 L st μ Q = Ev d 132 280 L (.int (iI 1) :: st) μ Q := e_iconst (by decide +kernel : decode (bOf 132) 279 = .ok (.iconst 1, 1))
theorem x_132_280 : Ev d 132 280 L (.int y :: .int x :: st) μ Q = Ev d 132 281 L (.int (x + y) :: st) μ Q := e_iadd (by decide +kernel : decode (bOf 132) 280 = .ok (.iadd, 1))
theorem x_132_281 (h : kd t r = 10) (hi : inB x (ln t r) = true) : Ev d 132 281 L (.int x :: .ref r :: st) (t, V, A, P) Q = Ev d 132 282 L (.int (A r x.toNatClampNeg) :: st) (t, V, A, P) Q := e_iald_ro (by decide +kernel : decode (bOf 132) 281 = .ok (.iaload, 1)) h hi
theorem x_132_282 : Ev d 132 282 (.ref r :: L) st μ Q = Ev d 132 283 (.ref r :: L) (.ref r :: st) μ Q := e_aload_n (by decide +kernel : decode (bOf 132) 282 = .ok (.aload_n 0, 1)) rfl
theorem x_132_283 : Ev d 132 283 (a0 :: a1 :: a2 :: .int x :: L) st μ Q = Ev d 132 284 (a0 :: a1 :: a2 :: .int x :: L) (.int x :: st) μ Q := e_iload_n (by decide +kernel : decode (bOf 132) 283 = .ok (.iload_n 3, 1)) rfl
theorem x_132_284 : Ev d 132 284 L st μ Q = Ev d 132 285 L (.int (iI 2) :: st) μ Q := e_iconst (by decide +kernel : decode (bOf 132) 284 = .ok (.iconst 2, 1))
theorem x_132_285 : Ev d 132 285 L (.int y :: .int x :: st) μ Q = Ev d 132 286 L (.int (x + y) :: st) μ Q := e_iadd (by decide +kernel : decode (bOf 132) 285 = .ok (.iadd, 1))
theorem x_132_286 (h : kd t r = 10) (hi : inB x (ln t r) = true) : Ev d 132 286 L (.int x :: .ref r :: st) (t, V, A, P) Q = Ev d 132 287 L (.int (A r x.toNatClampNeg) :: st) (t, V, A, P) Q := e_iald_ro (by decide +kernel : decode (bOf 132) 286 = .ok (.iaload, 1)) h hi
theorem x_132_287 (h : kd t r = 4) : Ev d 132 287 L [b1, b0, .ref r] (t, V, A, P) Q = Call d 52 [.ref r, b0, b1] (t, V, A, P) (fun v μ1 => Ev d 132 290 L (v.toList ++ []) μ1 Q) := e_callV (a := [b0, b1]) (r := []) (by decide +kernel : decode (bOf 132) 287 = .ok (.invokevirtual 47, 3)) (by decide +kernel) (by decide +kernel) (by decide +kernel) (by omega) rfl (by simp) (by decide +kernel) h
theorem x_132_290 : Ev d 132 290 (a0 :: a1 :: .ref r :: L) st μ Q = Ev d 132 291 (a0 :: a1 :: .ref r :: L) (.ref r :: st) μ Q := e_aload_n (by decide +kernel : decode (bOf 132) 290 = .ok (.aload_n 2, 1)) rfl
theorem x_132_291 : Ev d 132 291 (.ref r :: L) st μ Q = Ev d 132 292 (.ref r :: L) (.ref r :: st) μ Q := e_aload_n (by decide +kernel : decode (bOf 132) 291 = .ok (.aload_n 0, 1)) rfl
theorem x_132_292 : Ev d 132 292 (a0 :: a1 :: a2 :: .int x :: L) st μ Q = Ev d 132 293 (a0 :: a1 :: a2 :: .int x :: L) (.int x :: st) μ Q := e_iload_n (by decide +kernel : decode (bOf 132) 292 = .ok (.iload_n 3, 1)) rfl
theorem x_132_293 : Ev d 132 293 L st μ Q = Ev d 132 294 L (.int (iI 1) :: st) μ Q := e_iconst (by decide +kernel : decode (bOf 132) 293 = .ok (.iconst 1, 1))
theorem x_132_294 : Ev d 132 294 L (.int y :: .int x :: st) μ Q = Ev d 132 295 L (.int (x + y) :: st) μ Q := e_iadd (by decide +kernel : decode (bOf 132) 294 = .ok (.iadd, 1))
theorem x_132_295 (h : kd t r = 10) (hi : inB x (ln t r) = true) : Ev d 132 295 L (.int x :: .ref r :: st) (t, V, A, P) Q = Ev d 132 296 L (.int (A r x.toNatClampNeg) :: st) (t, V, A, P) Q := e_iald_ro (by decide +kernel : decode (bOf 132) 295 = .ok (.iaload, 1)) h hi
theorem x_132_296 : Ev d 132 296 (.ref r :: L) st μ Q = Ev d 132 297 (.ref r :: L) (.ref r :: st) μ Q := e_aload_n (by decide +kernel : decode (bOf 132) 296 = .ok (.aload_n 0, 1)) rfl
theorem x_132_297 : Ev d 132 297 (a0 :: a1 :: a2 :: .int x :: L) st μ Q = Ev d 132 298 (a0 :: a1 :: a2 :: .int x :: L) (.int x :: st) μ Q := e_iload_n (by decide +kernel : decode (bOf 132) 297 = .ok (.iload_n 3, 1)) rfl
theorem x_132_298 : Ev d 132 298 L st μ Q = Ev d 132 299 L (.int (iI 2) :: st) μ Q := e_iconst (by decide +kernel : decode (bOf 132) 298 = .ok (.iconst 2, 1))
theorem x_132_299 : Ev d 132 299 L (.int y :: .int x :: st) μ Q = Ev d 132 300 L (.int (x + y) :: st) μ Q := e_iadd (by decide +kernel : decode (bOf 132) 299 = .ok (.iadd, 1))
theorem x_132_300 (h : kd t r = 10) (hi : inB x (ln t r) = true) : Ev d 132 300 L (.int x :: .ref r :: st) (t, V, A, P) Q = Ev d 132 301 L (.int (A r x.toNatClampNeg) :: st) (t, V, A, P) Q := e_iald_ro (by decide +kernel : decode (bOf 132) 300 = .ok (.iaload, 1)) h hi
theorem x_132_301 (h : kd t r = 5) : Ev d 132 301 L [b1, b0, .ref r, s0] (t, V, A, P) Q = Call d 102 [.ref r, b0, b1] (t, V, A, P) (fun v μ1 => Ev d 132 304 L (v.toList ++ [s0]) μ1 Q) := e_callV (a := [b0, b1]) (r := [s0]) (by decide +kernel : decode (bOf 132) 301 = .ok (.invokevirtual 51, 3)) (by decide +kernel) (by decide +kernel) (by decide +kernel) (by omega) rfl (by simp) (by decide +kernel) h
theorem x_132_304 : Ev d 132 304 L (.int y :: .int x :: st) μ Q = if x = y then Ev d 132 655 L st μ Q else Ev d 132 307 L st μ Q := e_icmp_eq (by decide +kernel : decode (bOf 132) 304 = .ok (.if_icmp .eq 351, 3)) (by omega)
theorem x_132_307 : Ev d 132 307 L st μ Q = Ev d 132 308 L (.int (iI 0) :: st) μ Q := e_iconst (by decide +kernel : decode (bOf 132) 307 = .ok (.iconst 0, 1))
theorem x_132_308 (hx : isB x) : Ev d 132 308 L [.int x] μ Q = Q (some (.int x)) μ := e_zret (by decide +kernel : decode (bOf 132) 308 = .ok (.ireturn, 1)) (by decide +kernel) hx
theorem x_132_309 : Ev d 132 309 (a0 :: .ref r :: L) st μ Q = Ev d 132 310 (a0 :: .ref r :: L) (.ref r :: st) μ Q := e_aload_n (by decide +kernel : decode (bOf 132) 309 = .ok (.aload_n 1, 1)) rfl
theorem x_132_310 : Ev d 132 310 (.ref r :: L) st μ Q = Ev d 132 311 (.ref r :: L) (.ref r :: st) μ Q := e_aload_n (by decide +kernel : decode (bOf 132) 310 = .ok (.aload_n 0, 1)) rfl
theorem x_132_311 : Ev d 132 311 (a0 :: a1 :: a2 :: .int x :: L) st μ Q = Ev d 132 312 (a0 :: a1 :: a2 :: .int x :: L) (.int x :: st) μ Q := e_iload_n (by decide +kernel : decode (bOf 132) 311 = .ok (.iload_n 3, 1)) rfl
theorem x_132_312 : Ev d 132 312 L st μ Q = Ev d 132 313 L (.int (iI 1) :: st) μ Q := e_iconst (by decide +kernel : decode (bOf 132) 312 = .ok (.iconst 1, 1))
theorem x_132_313 : Ev d 132 313 L (.int y :: .int x :: st) μ Q = Ev d 132 314 L (.int (x + y) :: st) μ Q := e_iadd (by decide +kernel : decode (bOf 132) 313 = .ok (.iadd, 1))
theorem x_132_314 (h : kd t r = 10) (hi : inB x (ln t r) = true) : Ev d 132 314 L (.int x :: .ref r :: st) (t, V, A, P) Q = Ev d 132 315 L (.int (A r x.toNatClampNeg) :: st) (t, V, A, P) Q := e_iald_ro (by decide +kernel : decode (bOf 132) 314 = .ok (.iaload, 1)) h hi
theorem x_132_315 (h : kd t r = 4) : Ev d 132 315 L [b0, .ref r] (t, V, A, P) Q = Call d 53 [.ref r, b0] (t, V, A, P) (fun v μ1 => Ev d 132 318 L (v.toList ++ []) μ1 Q) := e_callV (a := [b0]) (r := []) (by decide +kernel : decode (bOf 132) 315 = .ok (.invokevirtual 52, 3)) (by decide +kernel) (by decide +kernel) (by decide +kernel) (by omega) rfl (by simp) (by decide +kernel) h
theorem x_132_318 : Ev d 132 318 (a0 :: a1 :: .ref r :: L) st μ Q = Ev d 132 319 (a0 :: a1 :: .ref r :: L) (.ref r :: st) μ Q := e_aload_n (by decide +kernel : decode (bOf 132) 318 = .ok (.aload_n 2, 1)) rfl
theorem x_132_319 : Ev d 132 319 (.ref r :: L) st μ Q = Ev d 132 320 (.ref r :: L) (.ref r :: st) μ Q := e_aload_n (by decide +kernel : decode (bOf 132) 319 = .ok (.aload_n 0, 1)) rfl
theorem x_132_320 : Ev d 132 320 (a0 :: a1 :: a2 :: .int x :: L) st μ Q = Ev d 132 321 (a0 :: a1 :: a2 :: .int x :: L) (.int x :: st) μ Q := e_iload_n (by decide +kernel : decode (bOf 132) 320 = .ok (.iload_n 3, 1)) rfl
theorem x_132_321 : Ev d 132 321 L st μ Q = Ev d 132 322 L (.int (iI 1) :: st) μ Q := e_iconst (by decide +kernel : decode (bOf 132) 321 = .ok (.iconst 1, 1))
theorem x_132_322 : Ev d 132 322 L (.int y :: .int x :: st) μ Q = Ev d 132 323 L (.int (x + y) :: st) μ Q := e_iadd (by decide +kernel : decode (bOf 132) 322 = .ok (.iadd, 1))
theorem x_132_323 (h : kd t r = 10) (hi : inB x (ln t r) = true) : Ev d 132 323 L (.int x :: .ref r :: st) (t, V, A, P) Q = Ev d 132 324 L (.int (A r x.toNatClampNeg) :: st) (t, V, A, P) Q := e_iald_ro (by decide +kernel : decode (bOf 132) 323 = .ok (.iaload, 1)) h hi
theorem x_132_324 (h : kd t r = 5) : Ev d 132 324 L [b0, .ref r, s0] (t, V, A, P) Q = Call d 103 [.ref r, b0] (t, V, A, P) (fun v μ1 => Ev d 132 327 L (v.toList ++ [s0]) μ1 Q) := e_callV (a := [b0]) (r := [s0]) (by decide +kernel : decode (bOf 132) 324 = .ok (.invokevirtual 55, 3)) (by decide +kernel) (by decide +kernel) (by decide +kernel) (by omega) rfl (by simp) (by decide +kernel) h
theorem x_132_327 : Ev d 132 327 L (.int y :: .int x :: st) μ Q = if x = y then Ev d 132 655 L st μ Q else Ev d 132 330 L st μ Q := e_icmp_eq (by decide +kernel : decode (bOf 132) 327 = .ok (.if_icmp .eq 328, 3)) (by omega)
theorem x_132_330 : Ev d 132 330 L st μ Q = Ev d 132 331 L (.int (iI 0) :: st) μ Q := e_iconst (by decide +kernel : decode (bOf 132) 330 = .ok (.iconst 0, 1))
theorem x_132_331 (hx : isB x) : Ev d 132 331 L [.int x] μ Q = Q (some (.int x)) μ := e_zret (by decide +kernel : decode (bOf 132) 331 = .ok (.ireturn, 1)) (by decide +kernel) hx
theorem x_132_332 : Ev d 132 332 (a0 :: .ref r :: L) st μ Q = Ev d 132 333 (a0 :: .ref r :: L) (.ref r :: st) μ Q := e_aload_n (by decide +kernel : decode (bOf 132) 332 = .ok (.aload_n 1, 1)) rfl
theorem x_132_333 : Ev d 132 333 (.ref r :: L) st μ Q = Ev d 132 334 (.ref r :: L) (.ref r :: st) μ Q := e_aload_n (by decide +kernel : decode (bOf 132) 333 = .ok (.aload_n 0, 1)) rfl
theorem x_132_334 : Ev d 132 334 (a0 :: a1 :: a2 :: .int x :: L) st μ Q = Ev d 132 335 (a0 :: a1 :: a2 :: .int x :: L) (.int x :: st) μ Q := e_iload_n (by decide +kernel : decode (bOf 132) 334 = .ok (.iload_n 3, 1)) rfl
theorem x_132_335 : Ev d 132 335 L st μ Q = Ev d 132 336 L (.int (iI 1) :: st) μ Q := e_iconst (by decide +kernel : decode (bOf 132) 335 = .ok (.iconst 1, 1))
theorem x_132_336 : Ev d 132 336 L (.int y :: .int x :: st) μ Q = Ev d 132 337 L (.int (x + y) :: st) μ Q := e_iadd (by decide +kernel : decode (bOf 132) 336 = .ok (.iadd, 1))
theorem x_132_337 (h : kd t r = 10) (hi : inB x (ln t r) = true) : Ev d 132 337 L (.int x :: .ref r :: st) (t, V, A, P) Q = Ev d 132 338 L (.int (A r x.toNatClampNeg) :: st) (t, V, A, P) Q := e_iald_ro (by decide +kernel : decode (bOf 132) 337 = .ok (.iaload, 1)) h hi
theorem x_132_338 (h : kd t r = 4) : Ev d 132 338 L [b0, .ref r] (t, V, A, P) Q = Call d 54 [.ref r, b0] (t, V, A, P) (fun v μ1 => Ev d 132 341 L (v.toList ++ []) μ1 Q) := e_callV (a := [b0]) (r := []) (by decide +kernel : decode (bOf 132) 338 = .ok (.invokevirtual 56, 3)) (by decide +kernel) (by decide +kernel) (by decide +kernel) (by omega) rfl (by simp) (by decide +kernel) h
theorem x_132_341 : Ev d 132 341 (a0 :: a1 :: .ref r :: L) st μ Q = Ev d 132 342 (a0 :: a1 :: .ref r :: L) (.ref r :: st) μ Q := e_aload_n (by decide +kernel : decode (bOf 132) 341 = .ok (.aload_n 2, 1)) rfl
theorem x_132_342 : Ev d 132 342 (.ref r :: L) st μ Q = Ev d 132 343 (.ref r :: L) (.ref r :: st) μ Q := e_aload_n (by decide +kernel : decode (bOf 132) 342 = .ok (.aload_n 0, 1)) rfl
theorem x_132_343 : Ev d 132 343 (a0 :: a1 :: a2 :: .int x :: L) st μ Q = Ev d 132 344 (a0 :: a1 :: a2 :: .int x :: L) (.int x :: st) μ Q := e_iload_n (by decide +kernel : decode (bOf 132) 343 = .ok (.iload_n 3, 1)) rfl
theorem x_132_344 : Ev d 132 344 L st μ Q = Ev d 132 345 L (.int (iI 1) :: st) μ Q := e_iconst (by decide +kernel : decode (bOf 132) 344 = .ok (.iconst 1, 1))
theorem x_132_345 : Ev d 132 345 L (.int y :: .int x :: st) μ Q = Ev d 132 346 L (.int (x + y) :: st) μ Q := e_iadd (by decide +kernel : decode (bOf 132) 345 = .ok (.iadd, 1))
theorem x_132_346 (h : kd t r = 10) (hi : inB x (ln t r) = true) : Ev d 132 346 L (.int x :: .ref r :: st) (t, V, A, P) Q = Ev d 132 347 L (.int (A r x.toNatClampNeg) :: st) (t, V, A, P) Q := e_iald_ro (by decide +kernel : decode (bOf 132) 346 = .ok (.iaload, 1)) h hi
theorem x_132_347 (h : kd t r = 5) : Ev d 132 347 L [b0, .ref r, s0] (t, V, A, P) Q = Call d 104 [.ref r, b0] (t, V, A, P) (fun v μ1 => Ev d 132 350 L (v.toList ++ [s0]) μ1 Q) := e_callV (a := [b0]) (r := [s0]) (by decide +kernel : decode (bOf 132) 347 = .ok (.invokevirtual 59, 3)) (by decide +kernel) (by decide +kernel) (by decide +kernel) (by omega) rfl (by simp) (by decide +kernel) h
theorem x_132_350 : Ev d 132 350 L (.int y :: .int x :: st) μ Q = if x = y then Ev d 132 655 L st μ Q else Ev d 132 353 L st μ Q := e_icmp_eq (by decide +kernel : decode (bOf 132) 350 = .ok (.if_icmp .eq 305, 3)) (by omega)
theorem x_132_353 : Ev d 132 353 L st μ Q = Ev d 132 354 L (.int (iI 0) :: st) μ Q := e_iconst (by decide +kernel : decode (bOf 132) 353 = .ok (.iconst 0, 1))
theorem x_132_354 (hx : isB x) : Ev d 132 354 L [.int x] μ Q = Q (some (.int x)) μ := e_zret (by decide +kernel : decode (bOf 132) 354 = .ok (.ireturn, 1)) (by decide +kernel) hx
theorem x_132_355 : Ev d 132 355 (a0 :: .ref r :: L) st μ Q = Ev d 132 356 (a0 :: .ref r :: L) (.ref r :: st) μ Q := e_aload_n (by decide +kernel : decode (bOf 132) 355 = .ok (.aload_n 1, 1)) rfl
theorem x_132_356 : Ev d 132 356 (.ref r :: L) st μ Q = Ev d 132 357 (.ref r :: L) (.ref r :: st) μ Q := e_aload_n (by decide +kernel : decode (bOf 132) 356 = .ok (.aload_n 0, 1)) rfl
theorem x_132_357 : Ev d 132 357 (a0 :: a1 :: a2 :: .int x :: L) st μ Q = Ev d 132 358 (a0 :: a1 :: a2 :: .int x :: L) (.int x :: st) μ Q := e_iload_n (by decide +kernel : decode (bOf 132) 357 = .ok (.iload_n 3, 1)) rfl
theorem x_132_358 : Ev d 132 358 L st μ Q = Ev d 132 359 L (.int (iI 1) :: st) μ Q := e_iconst (by decide +kernel : decode (bOf 132) 358 = .ok (.iconst 1, 1))
theorem x_132_359 : Ev d 132 359 L (.int y :: .int x :: st) μ Q = Ev d 132 360 L (.int (x + y) :: st) μ Q := e_iadd (by decide +kernel : decode (bOf 132) 359 = .ok (.iadd, 1))
theorem x_132_360 (h : kd t r = 10) (hi : inB x (ln t r) = true) : Ev d 132 360 L (.int x :: .ref r :: st) (t, V, A, P) Q = Ev d 132 361 L (.int (A r x.toNatClampNeg) :: st) (t, V, A, P) Q := e_iald_ro (by decide +kernel : decode (bOf 132) 360 = .ok (.iaload, 1)) h hi
theorem x_132_361 (h : kd t r = 4) : Ev d 132 361 L [b0, .ref r] (t, V, A, P) Q = Call d 55 [.ref r, b0] (t, V, A, P) (fun v μ1 => Ev d 132 364 L (v.toList ++ []) μ1 Q) := e_callV (a := [b0]) (r := []) (by decide +kernel : decode (bOf 132) 361 = .ok (.invokevirtual 60, 3)) (by decide +kernel) (by decide +kernel) (by decide +kernel) (by omega) rfl (by simp) (by decide +kernel) h
theorem x_132_364 : Ev d 132 364 (a0 :: a1 :: .ref r :: L) st μ Q = Ev d 132 365 (a0 :: a1 :: .ref r :: L) (.ref r :: st) μ Q := e_aload_n (by decide +kernel : decode (bOf 132) 364 = .ok (.aload_n 2, 1)) rfl
theorem x_132_365 : Ev d 132 365 (.ref r :: L) st μ Q = Ev d 132 366 (.ref r :: L) (.ref r :: st) μ Q := e_aload_n (by decide +kernel : decode (bOf 132) 365 = .ok (.aload_n 0, 1)) rfl
theorem x_132_366 : Ev d 132 366 (a0 :: a1 :: a2 :: .int x :: L) st μ Q = Ev d 132 367 (a0 :: a1 :: a2 :: .int x :: L) (.int x :: st) μ Q := e_iload_n (by decide +kernel : decode (bOf 132) 366 = .ok (.iload_n 3, 1)) rfl
theorem x_132_367 : Ev d 132 367 L st μ Q = Ev d 132 368 L (.int (iI 1) :: st) μ Q := e_iconst (by decide +kernel : decode (bOf 132) 367 = .ok (.iconst 1, 1))
theorem x_132_368 : Ev d 132 368 L (.int y :: .int x :: st) μ Q = Ev d 132 369 L (.int (x + y) :: st) μ Q := e_iadd (by decide +kernel : decode (bOf 132) 368 = .ok (.iadd, 1))
theorem x_132_369 (h : kd t r = 10) (hi : inB x (ln t r) = true) : Ev d 132 369 L (.int x :: .ref r :: st) (t, V, A, P) Q = Ev d 132 370 L (.int (A r x.toNatClampNeg) :: st) (t, V, A, P) Q := e_iald_ro (by decide +kernel : decode (bOf 132) 369 = .ok (.iaload, 1)) h hi
theorem x_132_370 (h : kd t r = 5) : Ev d 132 370 L [b0, .ref r, s0] (t, V, A, P) Q = Call d 105 [.ref r, b0] (t, V, A, P) (fun v μ1 => Ev d 132 373 L (v.toList ++ [s0]) μ1 Q) := e_callV (a := [b0]) (r := [s0]) (by decide +kernel : decode (bOf 132) 370 = .ok (.invokevirtual 63, 3)) (by decide +kernel) (by decide +kernel) (by decide +kernel) (by omega) rfl (by simp) (by decide +kernel) h
theorem x_132_373 : Ev d 132 373 L (.int y :: .int x :: st) μ Q = if x = y then Ev d 132 655 L st μ Q else Ev d 132 376 L st μ Q := e_icmp_eq (by decide +kernel : decode (bOf 132) 373 = .ok (.if_icmp .eq 282, 3)) (by omega)
theorem x_132_376 : Ev d 132 376 L st μ Q = Ev d 132 377 L (.int (iI 0) :: st) μ Q := e_iconst (by decide +kernel : decode (bOf 132) 376 = .ok (.iconst 0, 1))
theorem x_132_377 (hx : isB x) : Ev d 132 377 L [.int x] μ Q = Q (some (.int x)) μ := e_zret (by decide +kernel : decode (bOf 132) 377 = .ok (.ireturn, 1)) (by decide +kernel) hx
theorem x_132_378 : Ev d 132 378 (a0 :: .ref r :: L) st μ Q = Ev d 132 379 (a0 :: .ref r :: L) (.ref r :: st) μ Q := e_aload_n (by decide +kernel : decode (bOf 132) 378 = .ok (.aload_n 1, 1)) rfl
theorem x_132_379 : Ev d 132 379 (.ref r :: L) st μ Q = Ev d 132 380 (.ref r :: L) (.ref r :: st) μ Q := e_aload_n (by decide +kernel : decode (bOf 132) 379 = .ok (.aload_n 0, 1)) rfl
theorem x_132_380 : Ev d 132 380 (a0 :: a1 :: a2 :: .int x :: L) st μ Q = Ev d 132 381 (a0 :: a1 :: a2 :: .int x :: L) (.int x :: st) μ Q := e_iload_n (by decide +kernel : decode (bOf 132) 380 = .ok (.iload_n 3, 1)) rfl
theorem x_132_381 : Ev d 132 381 L st μ Q = Ev d 132 382 L (.int (iI 1) :: st) μ Q := e_iconst (by decide +kernel : decode (bOf 132) 381 = .ok (.iconst 1, 1))
theorem x_132_382 : Ev d 132 382 L (.int y :: .int x :: st) μ Q = Ev d 132 383 L (.int (x + y) :: st) μ Q := e_iadd (by decide +kernel : decode (bOf 132) 382 = .ok (.iadd, 1))
theorem x_132_383 (h : kd t r = 10) (hi : inB x (ln t r) = true) : Ev d 132 383 L (.int x :: .ref r :: st) (t, V, A, P) Q = Ev d 132 384 L (.int (A r x.toNatClampNeg) :: st) (t, V, A, P) Q := e_iald_ro (by decide +kernel : decode (bOf 132) 383 = .ok (.iaload, 1)) h hi
theorem x_132_384 : Ev d 132 384 (.ref r :: L) st μ Q = Ev d 132 385 (.ref r :: L) (.ref r :: st) μ Q := e_aload_n (by decide +kernel : decode (bOf 132) 384 = .ok (.aload_n 0, 1)) rfl
theorem x_132_385 : Ev d 132 385 (a0 :: a1 :: a2 :: .int x :: L) st μ Q = Ev d 132 386 (a0 :: a1 :: a2 :: .int x :: L) (.int x :: st) μ Q := e_iload_n (by decide +kernel : decode (bOf 132) 385 = .ok (.iload_n 3, 1)) rfl
theorem x_132_386 : Ev d 132 386 L st μ Q = Ev d 132 387 L (.int (iI 2) :: st) μ Q := e_iconst (by decide +kernel : decode (bOf 132) 386 = .ok (.iconst 2, 1))
theorem x_132_387 : Ev d 132 387 L (.int y :: .int x :: st) μ Q = Ev d 132 388 L (.int (x + y) :: st) μ Q := e_iadd (by decide +kernel : decode (bOf 132) 387 = .ok (.iadd, 1))
theorem x_132_388 (h : kd t r = 10) (hi : inB x (ln t r) = true) : Ev d 132 388 L (.int x :: .ref r :: st) (t, V, A, P) Q = Ev d 132 389 L (.int (A r x.toNatClampNeg) :: st) (t, V, A, P) Q := e_iald_ro (by decide +kernel : decode (bOf 132) 388 = .ok (.iaload, 1)) h hi
theorem x_132_389 : Ev d 132 389 (.ref r :: L) st μ Q = Ev d 132 390 (.ref r :: L) (.ref r :: st) μ Q := e_aload_n (by decide +kernel : decode (bOf 132) 389 = .ok (.aload_n 0, 1)) rfl
theorem x_132_390 : Ev d 132 390 (a0 :: a1 :: a2 :: .int x :: L) st μ Q = Ev d 132 391 (a0 :: a1 :: a2 :: .int x :: L) (.int x :: st) μ Q := e_iload_n (by decide +kernel : decode (bOf 132) 390 = .ok (.iload_n 3, 1)) rfl
theorem x_132_391 : Ev d 132 391 L st μ Q = Ev d 132 392 L (.int (iI 3) :: st) μ Q := e_iconst (by decide +kernel : decode (bOf 132) 391 = .ok (.iconst 3, 1))
theorem x_132_392 : Ev d 132 392 L (.int y :: .int x :: st) μ Q = Ev d 132 393 L (.int (x + y) :: st) μ Q := e_iadd (by decide +kernel : decode (bOf 132) 392 = .ok (.iadd, 1))
theorem x_132_393 (h : kd t r = 10) (hi : inB x (ln t r) = true) : Ev d 132 393 L (.int x :: .ref r :: st) (t, V, A, P) Q = Ev d 132 394 L (.int (A r x.toNatClampNeg) :: st) (t, V, A, P) Q := e_iald_ro (by decide +kernel : decode (bOf 132) 393 = .ok (.iaload, 1)) h hi
theorem x_132_394 : Ev d 132 394 (.ref r :: L) st μ Q = Ev d 132 395 (.ref r :: L) (.ref r :: st) μ Q := e_aload_n (by decide +kernel : decode (bOf 132) 394 = .ok (.aload_n 0, 1)) rfl
theorem x_132_395 : Ev d 132 395 (a0 :: a1 :: a2 :: .int x :: L) st μ Q = Ev d 132 396 (a0 :: a1 :: a2 :: .int x :: L) (.int x :: st) μ Q := e_iload_n (by decide +kernel : decode (bOf 132) 395 = .ok (.iload_n 3, 1)) rfl
theorem x_132_396 : Ev d 132 396 L st μ Q = Ev d 132 397 L (.int (iI 4) :: st) μ Q := e_iconst (by decide +kernel : decode (bOf 132) 396 = .ok (.iconst 4, 1))
theorem x_132_397 : Ev d 132 397 L (.int y :: .int x :: st) μ Q = Ev d 132 398 L (.int (x + y) :: st) μ Q := e_iadd (by decide +kernel : decode (bOf 132) 397 = .ok (.iadd, 1))
theorem x_132_398 (h : kd t r = 10) (hi : inB x (ln t r) = true) : Ev d 132 398 L (.int x :: .ref r :: st) (t, V, A, P) Q = Ev d 132 399 L (.int (A r x.toNatClampNeg) :: st) (t, V, A, P) Q := e_iald_ro (by decide +kernel : decode (bOf 132) 398 = .ok (.iaload, 1)) h hi
theorem x_132_399 (h : kd t r = 4) : Ev d 132 399 L [b3, b2, b1, b0, .ref r] (t, V, A, P) Q = Call d 56 [.ref r, b0, b1, b2, b3] (t, V, A, P) (fun v μ1 => Ev d 132 402 L (v.toList ++ []) μ1 Q) := e_callV (a := [b0, b1, b2, b3]) (r := []) (by decide +kernel : decode (bOf 132) 399 = .ok (.invokevirtual 64, 3)) (by decide +kernel) (by decide +kernel) (by decide +kernel) (by omega) rfl (by simp) (by decide +kernel) h
theorem x_132_402 : Ev d 132 402 (a0 :: a1 :: .ref r :: L) st μ Q = Ev d 132 403 (a0 :: a1 :: .ref r :: L) (.ref r :: st) μ Q := e_aload_n (by decide +kernel : decode (bOf 132) 402 = .ok (.aload_n 2, 1)) rfl
theorem x_132_403 : Ev d 132 403 (.ref r :: L) st μ Q = Ev d 132 404 (.ref r :: L) (.ref r :: st) μ Q := e_aload_n (by decide +kernel : decode (bOf 132) 403 = .ok (.aload_n 0, 1)) rfl
theorem x_132_404 : Ev d 132 404 (a0 :: a1 :: a2 :: .int x :: L) st μ Q = Ev d 132 405 (a0 :: a1 :: a2 :: .int x :: L) (.int x :: st) μ Q := e_iload_n (by decide +kernel : decode (bOf 132) 404 = .ok (.iload_n 3, 1)) rfl
theorem x_132_405 : Ev d 132 405 L st μ Q = Ev d 132 406 L (.int (iI 1) :: st) μ Q := e_iconst (by decide +kernel : decode (bOf 132) 405 = .ok (.iconst 1, 1))
theorem x_132_406 : Ev d 132 406 L (.int y :: .int x :: st) μ Q = Ev d 132 407 L (.int (x + y) :: st) μ Q := e_iadd (by decide +kernel : decode (bOf 132) 406 = .ok (.iadd, 1))
theorem x_132_407 (h : kd t r = 10) (hi : inB x (ln t r) = true) : Ev d 132 407 L (.int x :: .ref r :: st) (t, V, A, P) Q = Ev d 132 408 L (.int (A r x.toNatClampNeg) :: st) (t, V, A, P) Q := e_iald_ro (by decide +kernel : decode (bOf 132) 407 = .ok (.iaload, 1)) h hi
theorem x_132_408 : Ev d 132 408 (.ref r :: L) st μ Q = Ev d 132 409 (.ref r :: L) (.ref r :: st) μ Q := e_aload_n (by decide +kernel : decode (bOf 132) 408 = .ok (.aload_n 0, 1)) rfl
theorem x_132_409 : Ev d 132 409 (a0 :: a1 :: a2 :: .int x :: L) st μ Q = Ev d 132 410 (a0 :: a1 :: a2 :: .int x :: L) (.int x :: st) μ Q := e_iload_n (by decide +kernel : decode (bOf 132) 409 = .ok (.iload_n 3, 1)) rfl
theorem x_132_410 : Ev d 132 410 L st μ Q = Ev d 132 411 L (.int (iI 2) :: st) μ Q := e_iconst (by decide +kernel : decode (bOf 132) 410 = .ok (.iconst 2, 1))
theorem x_132_411 : Ev d 132 411 L (.int y :: .int x :: st) μ Q = Ev d 132 412 L (.int (x + y) :: st) μ Q := e_iadd (by decide +kernel : decode (bOf 132) 411 = .ok (.iadd, 1))
theorem x_132_412 (h : kd t r = 10) (hi : inB x (ln t r) = true) : Ev d 132 412 L (.int x :: .ref r :: st) (t, V, A, P) Q = Ev d 132 413 L (.int (A r x.toNatClampNeg) :: st) (t, V, A, P) Q := e_iald_ro (by decide +kernel : decode (bOf 132) 412 = .ok (.iaload, 1)) h hi
theorem x_132_413 : Ev d 132 413 (.ref r :: L) st μ Q = Ev d 132 414 (.ref r :: L) (.ref r :: st) μ Q := e_aload_n (by decide +kernel : decode (bOf 132) 413 = .ok (.aload_n 0, 1)) rfl
theorem x_132_414 : Ev d 132 414 (a0 :: a1 :: a2 :: .int x :: L) st μ Q = Ev d 132 415 (a0 :: a1 :: a2 :: .int x :: L) (.int x :: st) μ Q := e_iload_n (by decide +kernel : decode (bOf 132) 414 = .ok (.iload_n 3, 1)) rfl
theorem x_132_415 : Ev d 132 415 L st μ Q = Ev d 132 416 L (.int (iI 3) :: st) μ Q := e_iconst (by decide +kernel : decode (bOf 132) 415 = .ok (.iconst 3, 1))
theorem x_132_416 : Ev d 132 416 L (.int y :: .int x :: st) μ Q = Ev d 132 417 L (.int (x + y) :: st) μ Q := e_iadd (by decide +kernel : decode (bOf 132) 416 = .ok (.iadd, 1))
theorem x_132_417 (h : kd t r = 10) (hi : inB x (ln t r) = true) : Ev d 132 417 L (.int x :: .ref r :: st) (t, V, A, P) Q = Ev d 132 418 L (.int (A r x.toNatClampNeg) :: st) (t, V, A, P) Q := e_iald_ro (by decide +kernel : decode (bOf 132) 417 = .ok (.iaload, 1)) h hi
theorem x_132_418 : Ev d 132 418 (.ref r :: L) st μ Q = Ev d 132 419 (.ref r :: L) (.ref r :: st) μ Q := e_aload_n (by decide +kernel : decode (bOf 132) 418 = .ok (.aload_n 0, 1)) rfl
theorem x_132_419 : Ev d 132 419 (a0 :: a1 :: a2 :: .int x :: L) st μ Q = Ev d 132 420 (a0 :: a1 :: a2 :: .int x :: L) (.int x :: st) μ Q := e_iload_n (by decide +kernel : decode (bOf 132) 419 = .ok (.iload_n 3, 1)) rfl
theorem x_132_420 : Ev d 132 420 L st μ Q = Ev d 132 421 L (.int (iI 4) :: st) μ Q := e_iconst (by decide +kernel : decode (bOf 132) 420 = .ok (.iconst 4, 1))
theorem x_132_421 : Ev d 132 421 L (.int y :: .int x :: st) μ Q = Ev d 132 422 L (.int (x + y) :: st) μ Q := e_iadd (by decide +kernel : decode (bOf 132) 421 = .ok (.iadd, 1))
theorem x_132_422 (h : kd t r = 10) (hi : inB x (ln t r) = true) : Ev d 132 422 L (.int x :: .ref r :: st) (t, V, A, P) Q = Ev d 132 423 L (.int (A r x.toNatClampNeg) :: st) (t, V, A, P) Q := e_iald_ro (by decide +kernel : decode (bOf 132) 422 = .ok (.iaload, 1)) h hi
theorem x_132_423 (h : kd t r = 5) : Ev d 132 423 L [b3, b2, b1, b0, .ref r, s0] (t, V, A, P) Q = Call d 111 [.ref r, b0, b1, b2, b3] (t, V, A, P) (fun v μ1 => Ev d 132 426 L (v.toList ++ [s0]) μ1 Q) := e_callV (a := [b0, b1, b2, b3]) (r := [s0]) (by decide +kernel : decode (bOf 132) 423 = .ok (.invokevirtual 68, 3)) (by decide +kernel) (by decide +kernel) (by decide +kernel) (by omega) rfl (by simp) (by decide +kernel) h
theorem x_132_426 : Ev d 132 426 L (.int y :: .int x :: st) μ Q = if x = y then Ev d 132 655 L st μ Q else Ev d 132 429 L st μ Q := e_icmp_eq (by decide +kernel : decode (bOf 132) 426 = .ok (.if_icmp .eq 229, 3)) (by omega)
theorem x_132_429 : Ev d 132 429 L st μ Q = Ev d 132 430 L (.int (iI 0) :: st) μ Q := e_iconst (by decide +kernel : decode (bOf 132) 429 = .ok (.iconst 0, 1))
theorem x_132_430 (hx : isB x) : Ev d 132 430 L [.int x] μ Q = Q (some (.int x)) μ := e_zret (by decide +kernel : decode (bOf 132) 430 = .ok (.ireturn, 1)) (by decide +kernel) hx
theorem x_132_431 : Ev d 132 431 (a0 :: .ref r :: L) st μ Q = Ev d 132 432 (a0 :: .ref r :: L) (.ref r :: st) μ Q := e_aload_n (by decide +kernel : decode (bOf 132) 431 = .ok (.aload_n 1, 1)) rfl
theorem x_132_432 : Ev d 132 432 (.ref r :: L) st μ Q = Ev d 132 433 (.ref r :: L) (.ref r :: st) μ Q := e_aload_n (by decide +kernel : decode (bOf 132) 432 = .ok (.aload_n 0, 1)) rfl
theorem x_132_433 : Ev d 132 433 (a0 :: a1 :: a2 :: .int x :: L) st μ Q = Ev d 132 434 (a0 :: a1 :: a2 :: .int x :: L) (.int x :: st) μ Q := e_iload_n (by decide +kernel : decode (bOf 132) 433 = .ok (.iload_n 3, 1)) rfl
theorem x_132_434 : Ev d 132 434 L st μ Q = Ev d 132 435 L (.int (iI 1) :: st) μ Q := e_iconst (by decide +kernel : decode (bOf 132) 434 = .ok (.iconst 1, 1))
theorem x_132_435 : Ev d 132 435 L (.int y :: .int x :: st) μ Q = Ev d 132 436 L (.int (x + y) :: st) μ Q := e_iadd (by decide +kernel : decode (bOf 132) 435 = .ok (.iadd, 1))
theorem x_132_436 (h : kd t r = 10) (hi : inB x (ln t r) = true) : Ev d 132 436 L (.int x :: .ref r :: st) (t, V, A, P) Q = Ev d 132 437 L (.int (A r x.toNatClampNeg) :: st) (t, V, A, P) Q := e_iald_ro (by decide +kernel : decode (bOf 132) 436 = .ok (.iaload, 1)) h hi
theorem x_132_437 : Ev d 132 437 (.ref r :: L) st μ Q = Ev d 132 438 (.ref r :: L) (.ref r :: st) μ Q := e_aload_n (by decide +kernel : decode (bOf 132) 437 = .ok (.aload_n 0, 1)) rfl
theorem x_132_438 : Ev d 132 438 (a0 :: a1 :: a2 :: .int x :: L) st μ Q = Ev d 132 439 (a0 :: a1 :: a2 :: .int x :: L) (.int x :: st) μ Q := e_iload_n (by decide +kernel : decode (bOf 132) 438 = .ok (.iload_n 3, 1)) rfl
theorem x_132_439 : Ev d 132 439 L st μ Q = Ev d 132 440 L (.int (iI 2) :: st) μ Q := e_iconst (by decide +kernel : decode (bOf 132) 439 = .ok (.iconst 2, 1))
theorem x_132_440 : Ev d 132 440 L (.int y :: .int x :: st) μ Q = Ev d 132 441 L (.int (x + y) :: st) μ Q := e_iadd (by decide +kernel : decode (bOf 132) 440 = .ok (.iadd, 1))
theorem x_132_441 (h : kd t r = 10) (hi : inB x (ln t r) = true) : Ev d 132 441 L (.int x :: .ref r :: st) (t, V, A, P) Q = Ev d 132 442 L (.int (A r x.toNatClampNeg) :: st) (t, V, A, P) Q := e_iald_ro (by decide +kernel : decode (bOf 132) 441 = .ok (.iaload, 1)) h hi
theorem x_132_442 : Ev d 132 442 (.ref r :: L) st μ Q = Ev d 132 443 (.ref r :: L) (.ref r :: st) μ Q := e_aload_n (by decide +kernel : decode (bOf 132) 442 = .ok (.aload_n 0, 1)) rfl
theorem x_132_443 : Ev d 132 443 (a0 :: a1 :: a2 :: .int x :: L) st μ Q = Ev d 132 444 (a0 :: a1 :: a2 :: .int x :: L) (.int x :: st) μ Q := e_iload_n (by decide +kernel : decode (bOf 132) 443 = .ok (.iload_n 3, 1)) rfl
theorem x_132_444 : Ev d 132 444 L st μ Q = Ev d 132 445 L (.int (iI 3) :: st) μ Q := e_iconst (by decide +kernel : decode (bOf 132) 444 = .ok (.iconst 3, 1))
theorem x_132_445 : Ev d 132 445 L (.int y :: .int x :: st) μ Q = Ev d 132 446 L (.int (x + y) :: st) μ Q := e_iadd (by decide +kernel : decode (bOf 132) 445 = .ok (.iadd, 1))
theorem x_132_446 (h : kd t r = 10) (hi : inB x (ln t r) = true) : Ev d 132 446 L (.int x :: .ref r :: st) (t, V, A, P) Q = Ev d 132 447 L (.int (A r x.toNatClampNeg) :: st) (t, V, A, P) Q := e_iald_ro (by decide +kernel : decode (bOf 132) 446 = .ok (.iaload, 1)) h hi
theorem x_132_447 (h : kd t r = 4) : Ev d 132 447 L [b2, b1, b0, .ref r] (t, V, A, P) Q = Call d 57 [.ref r, b0, b1, b2] (t, V, A, P) (fun v μ1 => Ev d 132 450 L (v.toList ++ []) μ1 Q) := e_callV (a := [b0, b1, b2]) (r := []) (by decide +kernel : decode (bOf 132) 447 = .ok (.invokevirtual 69, 3)) (by decide +kernel) (by decide +kernel) (by decide +kernel) (by omega) rfl (by simp) (by decide +kernel) h
theorem x_132_450 : Ev d 132 450 (a0 :: a1 :: .ref r :: L) st μ Q = Ev d 132 451 (a0 :: a1 :: .ref r :: L) (.ref r :: st) μ Q := e_aload_n (by decide +kernel : decode (bOf 132) 450 = .ok (.aload_n 2, 1)) rfl
theorem x_132_451 : Ev d 132 451 (.ref r :: L) st μ Q = Ev d 132 452 (.ref r :: L) (.ref r :: st) μ Q := e_aload_n (by decide +kernel : decode (bOf 132) 451 = .ok (.aload_n 0, 1)) rfl
theorem x_132_452 : Ev d 132 452 (a0 :: a1 :: a2 :: .int x :: L) st μ Q = Ev d 132 453 (a0 :: a1 :: a2 :: .int x :: L) (.int x :: st) μ Q := e_iload_n (by decide +kernel : decode (bOf 132) 452 = .ok (.iload_n 3, 1)) rfl
theorem x_132_453 : Ev d 132 453 L st μ Q = Ev d 132 454 L (.int (iI 1) :: st) μ Q := e_iconst (by decide +kernel : decode (bOf 132) 453 = .ok (.iconst 1, 1))
theorem x_132_454 : Ev d 132 454 L (.int y :: .int x :: st) μ Q = Ev d 132 455 L (.int (x + y) :: st) μ Q := e_iadd (by decide +kernel : decode (bOf 132) 454 = .ok (.iadd, 1))
theorem x_132_455 (h : kd t r = 10) (hi : inB x (ln t r) = true) : Ev d 132 455 L (.int x :: .ref r :: st) (t, V, A, P) Q = Ev d 132 456 L (.int (A r x.toNatClampNeg) :: st) (t, V, A, P) Q := e_iald_ro (by decide +kernel : decode (bOf 132) 455 = .ok (.iaload, 1)) h hi
theorem x_132_456 : Ev d 132 456 (.ref r :: L) st μ Q = Ev d 132 457 (.ref r :: L) (.ref r :: st) μ Q := e_aload_n (by decide +kernel : decode (bOf 132) 456 = .ok (.aload_n 0, 1)) rfl
theorem x_132_457 : Ev d 132 457 (a0 :: a1 :: a2 :: .int x :: L) st μ Q = Ev d 132 458 (a0 :: a1 :: a2 :: .int x :: L) (.int x :: st) μ Q := e_iload_n (by decide +kernel : decode (bOf 132) 457 = .ok (.iload_n 3, 1)) rfl
theorem x_132_458 : Ev d 132 458 L st μ Q = Ev d 132 459 L (.int (iI 2) :: st) μ Q := e_iconst (by decide +kernel : decode (bOf 132) 458 = .ok (.iconst 2, 1))
theorem x_132_459 : Ev d 132 459 L (.int y :: .int x :: st) μ Q = Ev d 132 460 L (.int (x + y) :: st) μ Q := e_iadd (by decide +kernel : decode (bOf 132) 459 = .ok (.iadd, 1))
theorem x_132_460 (h : kd t r = 10) (hi : inB x (ln t r) = true) : Ev d 132 460 L (.int x :: .ref r :: st) (t, V, A, P) Q = Ev d 132 461 L (.int (A r x.toNatClampNeg) :: st) (t, V, A, P) Q := e_iald_ro (by decide +kernel : decode (bOf 132) 460 = .ok (.iaload, 1)) h hi
theorem x_132_461 : Ev d 132 461 (.ref r :: L) st μ Q = Ev d 132 462 (.ref r :: L) (.ref r :: st) μ Q := e_aload_n (by decide +kernel : decode (bOf 132) 461 = .ok (.aload_n 0, 1)) rfl
theorem x_132_462 : Ev d 132 462 (a0 :: a1 :: a2 :: .int x :: L) st μ Q = Ev d 132 463 (a0 :: a1 :: a2 :: .int x :: L) (.int x :: st) μ Q := e_iload_n (by decide +kernel : decode (bOf 132) 462 = .ok (.iload_n 3, 1)) rfl
theorem x_132_463 : Ev d 132 463 L st μ Q = Ev d 132 464 L (.int (iI 3) :: st) μ Q := e_iconst (by decide +kernel : decode (bOf 132) 463 = .ok (.iconst 3, 1))
theorem x_132_464 : Ev d 132 464 L (.int y :: .int x :: st) μ Q = Ev d 132 465 L (.int (x + y) :: st) μ Q := e_iadd (by decide +kernel : decode (bOf 132) 464 = .ok (.iadd, 1))
theorem x_132_465 (h : kd t r = 10) (hi : inB x (ln t r) = true) : Ev d 132 465 L (.int x :: .ref r :: st) (t, V, A, P) Q = Ev d 132 466 L (.int (A r x.toNatClampNeg) :: st) (t, V, A, P) Q := e_iald_ro (by decide +kernel : decode (bOf 132) 465 = .ok (.iaload, 1)) h hi
theorem x_132_466 (h : kd t r = 5) : Ev d 132 466 L [b2, b1, b0, .ref r, s0] (t, V, A, P) Q = Call d 113 [.ref r, b0, b1, b2] (t, V, A, P) (fun v μ1 => Ev d 132 469 L (v.toList ++ [s0]) μ1 Q) := e_callV (a := [b0, b1, b2]) (r := [s0]) (by decide +kernel : decode (bOf 132) 466 = .ok (.invokevirtual 73, 3)) (by decide +kernel) (by decide +kernel) (by decide +kernel) (by omega) rfl (by simp) (by decide +kernel) h
theorem x_132_469 : Ev d 132 469 L (.int y :: .int x :: st) μ Q = if x = y then Ev d 132 655 L st μ Q else Ev d 132 472 L st μ Q := e_icmp_eq (by decide +kernel : decode (bOf 132) 469 = .ok (.if_icmp .eq 186, 3)) (by omega)
theorem x_132_472 : Ev d 132 472 L st μ Q = Ev d 132 473 L (.int (iI 0) :: st) μ Q := e_iconst (by decide +kernel : decode (bOf 132) 472 = .ok (.iconst 0, 1))
theorem x_132_473 (hx : isB x) : Ev d 132 473 L [.int x] μ Q = Q (some (.int x)) μ := e_zret (by decide +kernel : decode (bOf 132) 473 = .ok (.ireturn, 1)) (by decide +kernel) hx
theorem x_132_474 : Ev d 132 474 (a0 :: .ref r :: L) st μ Q = Ev d 132 475 (a0 :: .ref r :: L) (.ref r :: st) μ Q := e_aload_n (by decide +kernel : decode (bOf 132) 474 = .ok (.aload_n 1, 1)) rfl
theorem x_132_475 : Ev d 132 475 (.ref r :: L) st μ Q = Ev d 132 476 (.ref r :: L) (.ref r :: st) μ Q := e_aload_n (by decide +kernel : decode (bOf 132) 475 = .ok (.aload_n 0, 1)) rfl
theorem x_132_476 : Ev d 132 476 (a0 :: a1 :: a2 :: .int x :: L) st μ Q = Ev d 132 477 (a0 :: a1 :: a2 :: .int x :: L) (.int x :: st) μ Q := e_iload_n (by decide +kernel : decode (bOf 132) 476 = .ok (.iload_n 3, 1)) rfl
theorem x_132_477 : Ev d 132 477 L st μ Q = Ev d 132 478 L (.int (iI 1) :: st) μ Q := e_iconst (by decide +kernel : decode (bOf 132) 477 = .ok (.iconst 1, 1))
theorem x_132_478 : Ev d 132 478 L (.int y :: .int x :: st) μ Q = Ev d 132 479 L (.int (x + y) :: st) μ Q := e_iadd (by decide +kernel : decode (bOf 132) 478 = .ok (.iadd, 1))
theorem x_132_479 (h : kd t r = 10) (hi : inB x (ln t r) = true) : Ev d 132 479 L (.int x :: .ref r :: st) (t, V, A, P) Q = Ev d 132 480 L (.int (A r x.toNatClampNeg) :: st) (t, V, A, P) Q := e_iald_ro (by decide +kernel : decode (bOf 132) 479 = .ok (.iaload, 1)) h hi
theorem x_132_480 (h : kd t r = 4) : Ev d 132 480 L [b0, .ref r] (t, V, A, P) Q = Call d 58 [.ref r, b0] (t, V, A, P) (fun v μ1 => Ev d 132 483 L (v.toList ++ []) μ1 Q) := e_callV (a := [b0]) (r := []) (by decide +kernel : decode (bOf 132) 480 = .ok (.invokevirtual 74, 3)) (by decide +kernel) (by decide +kernel) (by decide +kernel) (by omega) rfl (by simp) (by decide +kernel) h
theorem x_132_483 : Ev d 132 483 (a0 :: a1 :: .ref r :: L) st μ Q = Ev d 132 484 (a0 :: a1 :: .ref r :: L) (.ref r :: st) μ Q := e_aload_n (by decide +kernel : decode (bOf 132) 483 = .ok (.aload_n 2, 1)) rfl
theorem x_132_484 : Ev d 132 484 (.ref r :: L) st μ Q = Ev d 132 485 (.ref r :: L) (.ref r :: st) μ Q := e_aload_n (by decide +kernel : decode (bOf 132) 484 = .ok (.aload_n 0, 1)) rfl
theorem x_132_485 : Ev d 132 485 (a0 :: a1 :: a2 :: .int x :: L) st μ Q = Ev d 132 486 (a0 :: a1 :: a2 :: .int x :: L) (.int x :: st) μ Q := e_iload_n (by decide +kernel : decode (bOf 132) 485 = .ok (.iload_n 3, 1)) rfl
theorem x_132_486 : Ev d 132 486 L st μ Q = Ev d 132 487 L (.int (iI 1) :: st) μ Q := e_iconst (by decide +kernel : decode (bOf 132) 486 = .ok (.iconst 1, 1))
theorem x_132_487 : Ev d 132 487 L (.int y :: .int x :: st) μ Q = Ev d 132 488 L (.int (x + y) :: st) μ Q := e_iadd (by decide +kernel : decode (bOf 132) 487 = .ok (.iadd, 1))
theorem x_132_488 (h : kd t r = 10) (hi : inB x (ln t r) = true) : Ev d 132 488 L (.int x :: .ref r :: st) (t, V, A, P) Q = Ev d 132 489 L (.int (A r x.toNatClampNeg) :: st) (t, V, A, P) Q := e_iald_ro (by decide +kernel : decode (bOf 132) 488 = .ok (.iaload, 1)) h hi
theorem x_132_489 (h : kd t r = 5) : Ev d 132 489 L [b0, .ref r, s0] (t, V, A, P) Q = Call d 114 [.ref r, b0] (t, V, A, P) (fun v μ1 => Ev d 132 492 L (v.toList ++ [s0]) μ1 Q) := e_callV (a := [b0]) (r := [s0]) (by decide +kernel : decode (bOf 132) 489 = .ok (.invokevirtual 77, 3)) (by decide +kernel) (by decide +kernel) (by decide +kernel) (by omega) rfl (by simp) (by decide +kernel) h
theorem x_132_492 : Ev d 132 492 L (.int y :: .int x :: st) μ Q = if x = y then Ev d 132 655 L st μ Q else Ev d 132 495 L st μ Q := e_icmp_eq (by decide +kernel : decode (bOf 132) 492 = .ok (.if_icmp .eq 163, 3)) (by omega)
theorem x_132_495 : Ev d 132 495 L st μ Q = Ev d 132 496 L (.int (iI 0) :: st) μ Q := e_iconst (by decide +kernel : decode (bOf 132) 495 = .ok (.iconst 0, 1))
theorem x_132_496 (hx : isB x) : Ev d 132 496 L [.int x] μ Q = Q (some (.int x)) μ := e_zret (by decide +kernel : decode (bOf 132) 496 = .ok (.ireturn, 1)) (by decide +kernel) hx
theorem x_132_497 : Ev d 132 497 (a0 :: .ref r :: L) st μ Q = Ev d 132 498 (a0 :: .ref r :: L) (.ref r :: st) μ Q := e_aload_n (by decide +kernel : decode (bOf 132) 497 = .ok (.aload_n 1, 1)) rfl
theorem x_132_498 : Ev d 132 498 (.ref r :: L) st μ Q = Ev d 132 499 (.ref r :: L) (.ref r :: st) μ Q := e_aload_n (by decide +kernel : decode (bOf 132) 498 = .ok (.aload_n 0, 1)) rfl
theorem x_132_499 : Ev d 132 499 (a0 :: a1 :: a2 :: .int x :: L) st μ Q = Ev d 132 500 (a0 :: a1 :: a2 :: .int x :: L) (.int x :: st) μ Q := e_iload_n (by decide +kernel : decode (bOf 132) 499 = .ok (.iload_n 3, 1)) rfl
theorem x_132_500 : Ev d 132 500 L st μ Q = Ev d 132 501 L (.int (iI 1) :: st) μ Q := e_iconst (by decide +kernel : decode (bOf 132) 500 = .ok (.iconst 1, 1))
theorem x_132_501 : Ev d 132 501 L (.int y :: .int x :: st) μ Q = Ev d 132 502 L (.int (x + y) :: st) μ Q := e_iadd (by decide +kernel : decode (bOf 132) 501 = .ok (.iadd, 1))
theorem x_132_502 (h : kd t r = 10) (hi : inB x (ln t r) = true) : Ev d 132 502 L (.int x :: .ref r :: st) (t, V, A, P) Q = Ev d 132 503 L (.int (A r x.toNatClampNeg) :: st) (t, V, A, P) Q := e_iald_ro (by decide +kernel : decode (bOf 132) 502 = .ok (.iaload, 1)) h hi
theorem x_132_503 : Ev d 132 503 (.ref r :: L) st μ Q = Ev d 132 504 (.ref r :: L) (.ref r :: st) μ Q := e_aload_n (by decide +kernel : decode (bOf 132) 503 = .ok (.aload_n 0, 1)) rfl
theorem x_132_504 : Ev d 132 504 (a0 :: a1 :: a2 :: .int x :: L) st μ Q = Ev d 132 505 (a0 :: a1 :: a2 :: .int x :: L) (.int x :: st) μ Q := e_iload_n (by decide +kernel : decode (bOf 132) 504 = .ok (.iload_n 3, 1)) rfl
theorem x_132_505 : Ev d 132 505 L st μ Q = Ev d 132 506 L (.int (iI 2) :: st) μ Q := e_iconst (by decide +kernel : decode (bOf 132) 505 = .ok (.iconst 2, 1))
theorem x_132_506 : Ev d 132 506 L (.int y :: .int x :: st) μ Q = Ev d 132 507 L (.int (x + y) :: st) μ Q := e_iadd (by decide +kernel : decode (bOf 132) 506 = .ok (.iadd, 1))
theorem x_132_507 (h : kd t r = 10) (hi : inB x (ln t r) = true) : Ev d 132 507 L (.int x :: .ref r :: st) (t, V, A, P) Q = Ev d 132 508 L (.int (A r x.toNatClampNeg) :: st) (t, V, A, P) Q := e_iald_ro (by decide +kernel : decode (bOf 132) 507 = .ok (.iaload, 1)) h hi
theorem x_132_508 (h : kd t r = 4) : Ev d 132 508 L [b1, b0, .ref r] (t, V, A, P) Q = Call d 59 [.ref r, b0, b1] (t, V, A, P) (fun v μ1 => Ev d 132 511 L (v.toList ++ []) μ1 Q) := e_callV (a := [b0, b1]) (r := []) (by decide +kernel : decode (bOf 132) 508 = .ok (.invokevirtual 78, 3)) (by decide +kernel) (by decide +kernel) (by decide +kernel) (by omega) rfl (by simp) (by decide +kernel) h
theorem x_132_511 : Ev d 132 511 (a0 :: a1 :: .ref r :: L) st μ Q = Ev d 132 512 (a0 :: a1 :: .ref r :: L) (.ref r :: st) μ Q := e_aload_n (by decide +kernel : decode (bOf 132) 511 = .ok (.aload_n 2, 1)) rfl
theorem x_132_512 : Ev d 132 512 (.ref r :: L) st μ Q = Ev d 132 513 (.ref r :: L) (.ref r :: st) μ Q := e_aload_n (by decide +kernel : decode (bOf 132) 512 = .ok (.aload_n 0, 1)) rfl
theorem x_132_513 : Ev d 132 513 (a0 :: a1 :: a2 :: .int x :: L) st μ Q = Ev d 132 514 (a0 :: a1 :: a2 :: .int x :: L) (.int x :: st) μ Q := e_iload_n (by decide +kernel : decode (bOf 132) 513 = .ok (.iload_n 3, 1)) rfl
theorem x_132_514 : Ev d 132 514 L st μ Q = Ev d 132 515 L (.int (iI 1) :: st) μ Q := e_iconst (by decide +kernel : decode (bOf 132) 514 = .ok (.iconst 1, 1))
theorem x_132_515 : Ev d 132 515 L (.int y :: .int x :: st) μ Q = Ev d 132 516 L (.int (x + y) :: st) μ Q := e_iadd (by decide +kernel : decode (bOf 132) 515 = .ok (.iadd, 1))
theorem x_132_516 (h : kd t r = 10) (hi : inB x (ln t r) = true) : Ev d 132 516 L (.int x :: .ref r :: st) (t, V, A, P) Q = Ev d 132 517 L (.int (A r x.toNatClampNeg) :: st) (t, V, A, P) Q := e_iald_ro (by decide +kernel : decode (bOf 132) 516 = .ok (.iaload, 1)) h hi
theorem x_132_517 : Ev d 132 517 (.ref r :: L) st μ Q = Ev d 132 518 (.ref r :: L) (.ref r :: st) μ Q := e_aload_n (by decide +kernel : decode (bOf 132) 517 = .ok (.aload_n 0, 1)) rfl
theorem x_132_518 : Ev d 132 518 (a0 :: a1 :: a2 :: .int x :: L) st μ Q = Ev d 132 519 (a0 :: a1 :: a2 :: .int x :: L) (.int x :: st) μ Q := e_iload_n (by decide +kernel : decode (bOf 132) 518 = .ok (.iload_n 3, 1)) rfl
theorem x_132_519 : Ev d 132 519 L st μ Q = Ev d 132 520 L (.int (iI 2) :: st) μ Q := e_iconst (by decide +kernel : decode (bOf 132) 519 = .ok (.iconst 2, 1))
theorem x_132_520 : Ev d 132 520 L (.int y :: .int x :: st) μ Q = Ev d 132 521 L (.int (x + y) :: st) μ Q := e_iadd (by decide +kernel : decode (bOf 132) 520 = .ok (.iadd, 1))
theorem x_132_521 (h : kd t r = 10) (hi : inB x (ln t r) = true) : Ev d 132 521 L (.int x :: .ref r :: st) (t, V, A, P) Q = Ev d 132 522 L (.int (A r x.toNatClampNeg) :: st) (t, V, A, P) Q := e_iald_ro (by decide +kernel : decode (bOf 132) 521 = .ok (.iaload, 1)) h hi
theorem x_132_522 (h : kd t r = 5) : Ev d 132 522 L [b1, b0, .ref r, s0] (t, V, A, P) Q = Call d 117 [.ref r, b0, b1] (t, V, A, P) (fun v μ1 => Ev d 132 525 L (v.toList ++ [s0]) μ1 Q) := e_callV (a := [b0, b1]) (r := [s0]) (by decide +kernel : decode (bOf 132) 522 = .ok (.invokevirtual 81, 3)) (by decide +kernel) (by decide +kernel) (by decide +kernel) (by omega) rfl (by simp) (by decide +kernel) h
theorem x_132_525 : Ev d 132 525 L (.int y :: .int x :: st) μ Q = if x = y then Ev d 132 655 L st μ Q else Ev d 132 528 L st μ Q := e_icmp_eq (by decide +kernel : decode (bOf 132) 525 = .ok (.if_icmp .eq 130, 3)) (by omega)
theorem x_132_528 : Ev d 132 528 L st μ Q = Ev d 132 529 L (.int (iI 0) :: st) μ Q := e_iconst (by decide +kernel : decode (bOf 132) 528 = .ok (.iconst 0, 1))
theorem x_132_529 (hx : isB x) : Ev d 132 529 L [.int x] μ Q = Q (some (.int x)) μ := e_zret (by decide +kernel : decode (bOf 132) 529 = .ok (.ireturn, 1)) (by decide +kernel) hx
theorem x_132_530 : Ev d 132 530 (a0 :: .ref r :: L) st μ Q = Ev d 132 531 (a0 :: .ref r :: L) (.ref r :: st) μ Q := e_aload_n (by decide +kernel : decode (bOf 132) 530 = .ok (.aload_n 1, 1)) rfl
theorem x_132_531 : Ev d 132 531 (.ref r :: L) st μ Q = Ev d 132 532 (.ref r :: L) (.ref r :: st) μ Q := e_aload_n (by decide +kernel : decode (bOf 132) 531 = .ok (.aload_n 0, 1)) rfl
theorem x_132_532 : Ev d 132 532 (a0 :: a1 :: a2 :: .int x :: L) st μ Q = Ev d 132 533 (a0 :: a1 :: a2 :: .int x :: L) (.int x :: st) μ Q := e_iload_n (by decide +kernel : decode (bOf 132) 532 = .ok (.iload_n 3, 1)) rfl
theorem x_132_533 : Ev d 132 533 L st μ Q = Ev d 132 534 L (.int (iI 1) :: st) μ Q := e_iconst (by decide +kernel : decode (bOf 132) 533 = .ok (.iconst 1, 1))
theorem x_132_534 : Ev d 132 534 L (.int y :: .int x :: st) μ Q = Ev d 132 535 L (.int (x + y) :: st) μ Q := e_iadd (by decide +kernel : decode (bOf 132) 534 = .ok (.iadd, 1))
theorem x_132_535 (h : kd t r = 10) (hi : inB x (ln t r) = true) : Ev d 132 535 L (.int x :: .ref r :: st) (t, V, A, P) Q = Ev d 132 536 L (.int (A r x.toNatClampNeg) :: st) (t, V, A, P) Q := e_iald_ro (by decide +kernel : decode (bOf 132) 535 = .ok (.iaload, 1)) h hi
theorem x_132_536 : Ev d 132 536 (.ref r :: L) st μ Q = Ev d 132 537 (.ref r :: L) (.ref r :: st) μ Q := e_aload_n (by decide +kernel : decode (bOf 132) 536 = .ok (.aload_n 0, 1)) rfl
theorem x_132_537 : Ev d 132 537 (a0 :: a1 :: a2 :: .int x :: L) st μ Q = Ev d 132 538 (a0 :: a1 :: a2 :: .int x :: L) (.int x :: st) μ Q := e_iload_n (by decide +kernel : decode (bOf 132) 537 = .ok (.iload_n 3, 1)) rfl
theorem x_132_538 : Ev d 132 538 L st μ Q = Ev d 132 539 L (.int (iI 2) :: st) μ Q := e_iconst (by decide +kernel : decode (bOf 132) 538 = .ok (.iconst 2, 1))
theorem x_132_539 : Ev d 132 539 L (.int y :: .int x :: st) μ Q = Ev d 132 540 L (.int (x + y) :: st) μ Q := e_iadd (by decide +kernel : decode (bOf 132) 539 = .ok (.iadd, 1))
theorem x_132_540 (h : kd t r = 10) (hi : inB x (ln t r) = true) : Ev d 132 540 L (.int x :: .ref r :: st) (t, V, A, P) Q = Ev d 132 541 L (.int (A r x.toNatClampNeg) :: st) (t, V, A, P) Q := e_iald_ro (by decide +kernel : decode (bOf 132) 540 = .ok (.iaload, 1)) h hi
theorem x_132_541 (h : kd t r = 4) : Ev d 132 541 L [b1, b0, .ref r] (t, V, A, P) Q = Call d 60 [.ref r, b0, b1] (t, V, A, P) (fun v μ1 => Ev d 132 544 L (v.toList ++ []) μ1 Q) := e_callV (a := [b0, b1]) (r := []) (by decide +kernel : decode (bOf 132) 541 = .ok (.invokevirtual 82, 3)) (by decide +kernel) (by decide +kernel) (by decide +kernel) (by omega) rfl (by simp) (by decide +kernel) h
theorem x_132_544 : Ev d 132 544 (a0 :: a1 :: .ref r :: L) st μ Q = Ev d 132 545 (a0 :: a1 :: .ref r :: L) (.ref r :: st) μ Q := e_aload_n (by decide +kernel : decode (bOf 132) 544 = .ok (.aload_n 2, 1)) rfl
theorem x_132_545 : Ev d 132 545 (.ref r :: L) st μ Q = Ev d 132 546 (.ref r :: L) (.ref r :: st) μ Q := e_aload_n (by decide +kernel : decode (bOf 132) 545 = .ok (.aload_n 0, 1)) rfl
theorem x_132_546 : Ev d 132 546 (a0 :: a1 :: a2 :: .int x :: L) st μ Q = Ev d 132 547 (a0 :: a1 :: a2 :: .int x :: L) (.int x :: st) μ Q := e_iload_n (by decide +kernel : decode (bOf 132) 546 = .ok (.iload_n 3, 1)) rfl
theorem x_132_547 : Ev d 132 547 L st μ Q = Ev d 132 548 L (.int (iI 1) :: st) μ Q := e_iconst (by decide +kernel : decode (bOf 132) 547 = .ok (.iconst 1, 1))
theorem x_132_548 : Ev d 132 548 L (.int y :: .int x :: st) μ Q = Ev d 132 549 L (.int (x + y) :: st) μ Q := e_iadd (by decide +kernel : decode (bOf 132) 548 = .ok (.iadd, 1))
theorem x_132_549 (h : kd t r = 10) (hi : inB x (ln t r) = true) : Ev d 132 549 L (.int x :: .ref r :: st) (t, V, A, P) Q = Ev d 132 550 L (.int (A r x.toNatClampNeg) :: st) (t, V, A, P) Q := e_iald_ro (by decide +kernel : decode (bOf 132) 549 = .ok (.iaload, 1)) h hi
theorem x_132_550 : Ev d 132 550 (.ref r :: L) st μ Q = Ev d 132 551 (.ref r :: L) (.ref r :: st) μ Q := e_aload_n (by decide +kernel : decode (bOf 132) 550 = .ok (.aload_n 0, 1)) rfl
theorem x_132_551 : Ev d 132 551 (a0 :: a1 :: a2 :: .int x :: L) st μ Q = Ev d 132 552 (a0 :: a1 :: a2 :: .int x :: L) (.int x :: st) μ Q := e_iload_n (by decide +kernel : decode (bOf 132) 551 = .ok (.iload_n 3, 1)) rfl
theorem x_132_552 : Ev d 132 552 L st μ Q = Ev d 132 553 L (.int (iI 2) :: st) μ Q := e_iconst (by decide +kernel : decode (bOf 132) 552 = .ok (.iconst 2, 1))
theorem x_132_553 : Ev d 132 553 L (.int y :: .int x :: st) μ Q = Ev d 132 554 L (.int (x + y) :: st) μ Q := e_iadd (by decide +kernel : decode (bOf 132) 553 = .ok (.iadd, 1))
theorem x_132_554 (h : kd t r = 10) (hi : inB x (ln t r) = true) : Ev d 132 554 L (.int x :: .ref r :: st) (t, V, A, P) Q = Ev d 132 555 L (.int (A r x.toNatClampNeg) :: st) (t, V, A, P) Q := e_iald_ro (by decide +kernel : decode (bOf 132) 554 = .ok (.iaload, 1)) h hi
theorem x_132_555 (h : kd t r = 5) : Ev d 132 555 L [b1, b0, .ref r, s0] (t, V, A, P) Q = Call d 122 [.ref r, b0, b1] (t, V, A, P) (fun v μ1 => Ev d 132 558 L (v.toList ++ [s0]) μ1 Q) := e_callV (a := [b0, b1]) (r := [s0]) (by decide +kernel : decode (bOf 132) 555 = .ok (.invokevirtual 85, 3)) (by decide +kernel) (by decide +kernel) (by decide +kernel) (by omega) rfl (by simp) (by decide +kernel) h
theorem x_132_558 : Ev d 132 558 L (.int y :: .int x :: st) μ Q = if x = y then Ev d 132 655 L st μ Q else Ev d 132 561 L st μ Q := e_icmp_eq (by decide +kernel : decode (bOf 132) 558 = .ok (.if_icmp .eq 97, 3)) (by omega)
theorem x_132_561 : Ev d 132 561 L st μ Q = Ev d 132 562 L (.int (iI 0) :: st) μ Q := e_iconst (by decide +kernel : decode (bOf 132) 561 = .ok (.iconst 0, 1))
theorem x_132_562 (hx : isB x) : Ev d 132 562 L [.int x] μ Q = Q (some (.int x)) μ := e_zret (by decide +kernel : decode (bOf 132) 562 = .ok (.ireturn, 1)) (by decide +kernel) hx
theorem x_132_563 : Ev d 132 563 (a0 :: .ref r :: L) st μ Q = Ev d 132 564 (a0 :: .ref r :: L) (.ref r :: st) μ Q := e_aload_n (by decide +kernel : decode (bOf 132) 563 = .ok (.aload_n 1, 1)) rfl
theorem x_132_564 : Ev d 132 564 (.ref r :: L) st μ Q = Ev d 132 565 (.ref r :: L) (.ref r :: st) μ Q := e_aload_n (by decide +kernel : decode (bOf 132) 564 = .ok (.aload_n 0, 1)) rfl
theorem x_132_565 : Ev d 132 565 (a0 :: a1 :: a2 :: .int x :: L) st μ Q = Ev d 132 566 (a0 :: a1 :: a2 :: .int x :: L) (.int x :: st) μ Q := e_iload_n (by decide +kernel : decode (bOf 132) 565 = .ok (.iload_n 3, 1)) rfl
theorem x_132_566 : Ev d 132 566 L st μ Q = Ev d 132 567 L (.int (iI 1) :: st) μ Q := e_iconst (by decide +kernel : decode (bOf 132) 566 = .ok (.iconst 1, 1))
theorem x_132_567 : Ev d 132 567 L (.int y :: .int x :: st) μ Q = Ev d 132 568 L (.int (x + y) :: st) μ Q := e_iadd (by decide +kernel : decode (bOf 132) 567 = .ok (.iadd, 1))
theorem x_132_568 (h : kd t r = 10) (hi : inB x (ln t r) = true) : Ev d 132 568 L (.int x :: .ref r :: st) (t, V, A, P) Q = Ev d 132 569 L (.int (A r x.toNatClampNeg) :: st) (t, V, A, P) Q := e_iald_ro (by decide +kernel : decode (bOf 132) 568 = .ok (.iaload, 1)) h hi
theorem x_132_569 (h : kd t r = 4) : Ev d 132 569 L [b0, .ref r] (t, V, A, P) Q = Call d 61 [.ref r, b0] (t, V, A, P) (fun v μ1 => Ev d 132 572 L (v.toList ++ []) μ1 Q) := e_callV (a := [b0]) (r := []) (by decide +kernel : decode (bOf 132) 569 = .ok (.invokevirtual 86, 3)) (by decide +kernel) (by decide +kernel) (by decide +kernel) (by omega) rfl (by simp) (by decide +kernel) h
theorem x_132_572 : Ev d 132 572 (a0 :: a1 :: .ref r :: L) st μ Q = Ev d 132 573 (a0 :: a1 :: .ref r :: L) (.ref r :: st) μ Q := e_aload_n (by decide +kernel : decode (bOf 132) 572 = .ok (.aload_n 2, 1)) rfl
theorem x_132_573 : Ev d 132 573 (.ref r :: L) st μ Q = Ev d 132 574 (.ref r :: L) (.ref r :: st) μ Q := e_aload_n (by decide +kernel : decode (bOf 132) 573 = .ok (.aload_n 0, 1)) rfl
theorem x_132_574 : Ev d 132 574 (a0 :: a1 :: a2 :: .int x :: L) st μ Q = Ev d 132 575 (a0 :: a1 :: a2 :: .int x :: L) (.int x :: st) μ Q := e_iload_n (by decide +kernel : decode (bOf 132) 574 = .ok (.iload_n 3, 1)) rfl
theorem x_132_575 : Ev d 132 575 L st μ Q = Ev d 132 576 L (.int (iI 1) :: st) μ Q := e_iconst (by decide +kernel : decode (bOf 132) 575 = .ok (.iconst 1, 1))
theorem x_132_576 : Ev d 132 576 L (.int y :: .int x :: st) μ Q = Ev d 132 577 L (.int (x + y) :: st) μ Q := e_iadd (by decide +kernel : decode (bOf 132) 576 = .ok (.iadd, 1))
theorem x_132_577 (h : kd t r = 10) (hi : inB x (ln t r) = true) : Ev d 132 577 L (.int x :: .ref r :: st) (t, V, A, P) Q = Ev d 132 578 L (.int (A r x.toNatClampNeg) :: st) (t, V, A, P) Q := e_iald_ro (by decide +kernel : decode (bOf 132) 577 = .ok (.iaload, 1)) h hi
theorem x_132_578 (h : kd t r = 5) : Ev d 132 578 L [b0, .ref r, s0] (t, V, A, P) Q = Call d 123 [.ref r, b0] (t, V, A, P) (fun v μ1 => Ev d 132 581 L (v.toList ++ [s0]) μ1 Q) := e_callV (a := [b0]) (r := [s0]) (by decide +kernel : decode (bOf 132) 578 = .ok (.invokevirtual 89, 3)) (by decide +kernel) (by decide +kernel) (by decide +kernel) (by omega) rfl (by simp) (by decide +kernel) h
theorem x_132_581 : Ev d 132 581 L (.int y :: .int x :: st) μ Q = if x = y then Ev d 132 655 L st μ Q else Ev d 132 584 L st μ Q := e_icmp_eq (by decide +kernel : decode (bOf 132) 581 = .ok (.if_icmp .eq 74, 3)) (by omega)
theorem x_132_584 : Ev d 132 584 L st μ Q = Ev d 132 585 L (.int (iI 0) :: st) μ Q := e_iconst (by decide +kernel : decode (bOf 132) 584 = .ok (.iconst 0, 1))
theorem x_132_585 (hx : isB x) : Ev d 132 585 L [.int x] μ Q = Q (some (.int x)) μ := e_zret (by decide +kernel : decode (bOf 132) 585 = .ok (.ireturn, 1)) (by decide +kernel) hx
theorem x_132_586 : Ev d 132 586 (a0 :: .ref r :: L) st μ Q = Ev d 132 587 (a0 :: .ref r :: L) (.ref r :: st) μ Q := e_aload_n (by decide +kernel : decode (bOf 132) 586 = .ok (.aload_n 1, 1)) rfl
theorem x_132_587 : Ev d 132 587 (.ref r :: L) st μ Q = Ev d 132 588 (.ref r :: L) (.ref r :: st) μ Q := e_aload_n (by decide +kernel : decode (bOf 132) 587 = .ok (.aload_n 0, 1)) rfl
theorem x_132_588 : Ev d 132 588 (a0 :: a1 :: a2 :: .int x :: L) st μ Q = Ev d 132 589 (a0 :: a1 :: a2 :: .int x :: L) (.int x :: st) μ Q := e_iload_n (by decide +kernel : decode (bOf 132) 588 = .ok (.iload_n 3, 1)) rfl
theorem x_132_589 : Ev d 132 589 L st μ Q = Ev d 132 590 L (.int (iI 1) :: st) μ Q := e_iconst (by decide +kernel : decode (bOf 132) 589 = .ok (.iconst 1, 1))
theorem x_132_590 : Ev d 132 590 L (.int y :: .int x :: st) μ Q = Ev d 132 591 L (.int (x + y) :: st) μ Q := e_iadd (by decide +kernel : decode (bOf 132) 590 = .ok (.iadd, 1))
theorem x_132_591 (h : kd t r = 10) (hi : inB x (ln t r) = true) : Ev d 132 591 L (.int x :: .ref r :: st) (t, V, A, P) Q = Ev d 132 592 L (.int (A r x.toNatClampNeg) :: st) (t, V, A, P) Q := e_iald_ro (by decide +kernel : decode (bOf 132) 591 = .ok (.iaload, 1)) h hi
theorem x_132_592 (h : kd t r = 4) : Ev d 132 592 L [b0, .ref r] (t, V, A, P) Q = Call d 62 [.ref r, b0] (t, V, A, P) (fun v μ1 => Ev d 132 595 L (v.toList ++ []) μ1 Q) := e_callV (a := [b0]) (r := []) (by decide +kernel : decode (bOf 132) 592 = .ok (.invokevirtual 90, 3)) (by decide +kernel) (by decide +kernel) (by decide +kernel) (by omega) rfl (by simp) (by decide +kernel) h
theorem x_132_595 : Ev d 132 595 (a0 :: a1 :: .ref r :: L) st μ Q = Ev d 132 596 (a0 :: a1 :: .ref r :: L) (.ref r :: st) μ Q := e_aload_n (by decide +kernel : decode (bOf 132) 595 = .ok (.aload_n 2, 1)) rfl
theorem x_132_596 : Ev d 132 596 (.ref r :: L) st μ Q = Ev d 132 597 (.ref r :: L) (.ref r :: st) μ Q := e_aload_n (by decide +kernel : decode (bOf 132) 596 = .ok (.aload_n 0, 1)) rfl
theorem x_132_597 : Ev d 132 597 (a0 :: a1 :: a2 :: .int x :: L) st μ Q = Ev d 132 598 (a0 :: a1 :: a2 :: .int x :: L) (.int x :: st) μ Q := e_iload_n (by decide +kernel : decode (bOf 132) 597 = .ok (.iload_n 3, 1)) rfl
theorem x_132_598 : Ev d 132 598 L st μ Q = Ev d 132 599 L (.int (iI 1) :: st) μ Q := e_iconst (by decide +kernel : decode (bOf 132) 598 = .ok (.iconst 1, 1))
theorem x_132_599 : Ev d 132 599 L (.int y :: .int x :: st) μ Q = Ev d 132 600 L (.int (x + y) :: st) μ Q := e_iadd (by decide +kernel : decode (bOf 132) 599 = .ok (.iadd, 1))
theorem x_132_600 (h : kd t r = 10) (hi : inB x (ln t r) = true) : Ev d 132 600 L (.int x :: .ref r :: st) (t, V, A, P) Q = Ev d 132 601 L (.int (A r x.toNatClampNeg) :: st) (t, V, A, P) Q := e_iald_ro (by decide +kernel : decode (bOf 132) 600 = .ok (.iaload, 1)) h hi
theorem x_132_601 (h : kd t r = 5) : Ev d 132 601 L [b0, .ref r, s0] (t, V, A, P) Q = Call d 124 [.ref r, b0] (t, V, A, P) (fun v μ1 => Ev d 132 604 L (v.toList ++ [s0]) μ1 Q) := e_callV (a := [b0]) (r := [s0]) (by decide +kernel : decode (bOf 132) 601 = .ok (.invokevirtual 93, 3)) (by decide +kernel) (by decide +kernel) (by decide +kernel) (by omega) rfl (by simp) (by decide +kernel) h
theorem x_132_604 : Ev d 132 604 L (.int y :: .int x :: st) μ Q = if x = y then Ev d 132 655 L st μ Q else Ev d 132 607 L st μ Q := e_icmp_eq (by decide +kernel : decode (bOf 132) 604 = .ok (.if_icmp .eq 51, 3)) (by omega)
theorem x_132_607 : Ev d 132 607 L st μ Q = Ev d 132 608 L (.int (iI 0) :: st) μ Q := e_iconst (by decide +kernel : decode (bOf 132) 607 = .ok (.iconst 0, 1))
theorem x_132_608 (hx : isB x) : Ev d 132 608 L [.int x] μ Q = Q (some (.int x)) μ := e_zret (by decide +kernel : decode (bOf 132) 608 = .ok (.ireturn, 1)) (by decide +kernel) hx
theorem x_132_609 : Ev d 132 609 (a0 :: .ref r :: L) st μ Q = Ev d 132 610 (a0 :: .ref r :: L) (.ref r :: st) μ Q := e_aload_n (by decide +kernel : decode (bOf 132) 609 = .ok (.aload_n 1, 1)) rfl
theorem x_132_610 : Ev d 132 610 (.ref r :: L) st μ Q = Ev d 132 611 (.ref r :: L) (.ref r :: st) μ Q := e_aload_n (by decide +kernel : decode (bOf 132) 610 = .ok (.aload_n 0, 1)) rfl
theorem x_132_611 : Ev d 132 611 (a0 :: a1 :: a2 :: .int x :: L) st μ Q = Ev d 132 612 (a0 :: a1 :: a2 :: .int x :: L) (.int x :: st) μ Q := e_iload_n (by decide +kernel : decode (bOf 132) 611 = .ok (.iload_n 3, 1)) rfl
theorem x_132_612 : Ev d 132 612 L st μ Q = Ev d 132 613 L (.int (iI 1) :: st) μ Q := e_iconst (by decide +kernel : decode (bOf 132) 612 = .ok (.iconst 1, 1))
theorem x_132_613 : Ev d 132 613 L (.int y :: .int x :: st) μ Q = Ev d 132 614 L (.int (x + y) :: st) μ Q := e_iadd (by decide +kernel : decode (bOf 132) 613 = .ok (.iadd, 1))
theorem x_132_614 (h : kd t r = 10) (hi : inB x (ln t r) = true) : Ev d 132 614 L (.int x :: .ref r :: st) (t, V, A, P) Q = Ev d 132 615 L (.int (A r x.toNatClampNeg) :: st) (t, V, A, P) Q := e_iald_ro (by decide +kernel : decode (bOf 132) 614 = .ok (.iaload, 1)) h hi
theorem x_132_615 (h : kd t r = 4) : Ev d 132 615 L [b0, .ref r] (t, V, A, P) Q = Call d 63 [.ref r, b0] (t, V, A, P) (fun v μ1 => Ev d 132 618 L (v.toList ++ []) μ1 Q) := e_callV (a := [b0]) (r := []) (by decide +kernel : decode (bOf 132) 615 = .ok (.invokevirtual 94, 3)) (by decide +kernel) (by decide +kernel) (by decide +kernel) (by omega) rfl (by simp) (by decide +kernel) h
theorem x_132_618 : Ev d 132 618 (a0 :: a1 :: .ref r :: L) st μ Q = Ev d 132 619 (a0 :: a1 :: .ref r :: L) (.ref r :: st) μ Q := e_aload_n (by decide +kernel : decode (bOf 132) 618 = .ok (.aload_n 2, 1)) rfl
theorem x_132_619 : Ev d 132 619 (.ref r :: L) st μ Q = Ev d 132 620 (.ref r :: L) (.ref r :: st) μ Q := e_aload_n (by decide +kernel : decode (bOf 132) 619 = .ok (.aload_n 0, 1)) rfl
theorem x_132_620 : Ev d 132 620 (a0 :: a1 :: a2 :: .int x :: L) st μ Q = Ev d 132 621 (a0 :: a1 :: a2 :: .int x :: L) (.int x :: st) μ Q := e_iload_n (by decide +kernel : decode (bOf 132) 620 = .ok (.iload_n 3, 1)) rfl
theorem x_132_621 : Ev d 132 621 L st μ Q = Ev d 132 622 L (.int (iI 1) :: st) μ Q := e_iconst (by decide +kernel : decode (bOf 132) 621 = .ok (.iconst 1, 1))
theorem x_132_622 : Ev d 132 622 L (.int y :: .int x :: st) μ Q = Ev d 132 623 L (.int (x + y) :: st) μ Q := e_iadd (by decide +kernel : decode (bOf 132) 622 = .ok (.iadd, 1))
theorem x_132_623 (h : kd t r = 10) (hi : inB x (ln t r) = true) : Ev d 132 623 L (.int x :: .ref r :: st) (t, V, A, P) Q = Ev d 132 624 L (.int (A r x.toNatClampNeg) :: st) (t, V, A, P) Q := e_iald_ro (by decide +kernel : decode (bOf 132) 623 = .ok (.iaload, 1)) h hi
theorem x_132_624 (h : kd t r = 5) : Ev d 132 624 L [b0, .ref r, s0] (t, V, A, P) Q = Call d 125 [.ref r, b0] (t, V, A, P) (fun v μ1 => Ev d 132 627 L (v.toList ++ [s0]) μ1 Q) := e_callV (a := [b0]) (r := [s0]) (by decide +kernel : decode (bOf 132) 624 = .ok (.invokevirtual 97, 3)) (by decide +kernel) (by decide +kernel) (by decide +kernel) (by omega) rfl (by simp) (by decide +kernel) h
theorem x_132_627 : Ev d 132 627 L (.int y :: .int x :: st) μ Q = if x = y then Ev d 132 655 L st μ Q else Ev d 132 630 L st μ Q := e_icmp_eq (by decide +kernel : decode (bOf 132) 627 = .ok (.if_icmp .eq 28, 3)) (by omega)
theorem x_132_630 : Ev d 132 630 L st μ Q = Ev d 132 631 L (.int (iI 0) :: st) μ Q := e_iconst (by decide +kernel : decode (bOf 132) 630 = .ok (.iconst 0, 1))
theorem x_132_631 (hx : isB x) : Ev d 132 631 L [.int x] μ Q = Q (some (.int x)) μ := e_zret (by decide +kernel : decode (bOf 132) 631 = .ok (.ireturn, 1)) (by decide +kernel) hx
theorem x_132_632 : Ev d 132 632 (a0 :: .ref r :: L) st μ Q = Ev d 132 633 (a0 :: .ref r :: L) (.ref r :: st) μ Q := e_aload_n (by decide +kernel : decode (bOf 132) 632 = .ok (.aload_n 1, 1)) rfl
theorem x_132_633 : Ev d 132 633 (.ref r :: L) st μ Q = Ev d 132 634 (.ref r :: L) (.ref r :: st) μ Q := e_aload_n (by decide +kernel : decode (bOf 132) 633 = .ok (.aload_n 0, 1)) rfl
theorem x_132_634 : Ev d 132 634 (a0 :: a1 :: a2 :: .int x :: L) st μ Q = Ev d 132 635 (a0 :: a1 :: a2 :: .int x :: L) (.int x :: st) μ Q := e_iload_n (by decide +kernel : decode (bOf 132) 634 = .ok (.iload_n 3, 1)) rfl
theorem x_132_635 : Ev d 132 635 L st μ Q = Ev d 132 636 L (.int (iI 1) :: st) μ Q := e_iconst (by decide +kernel : decode (bOf 132) 635 = .ok (.iconst 1, 1))
theorem x_132_636 : Ev d 132 636 L (.int y :: .int x :: st) μ Q = Ev d 132 637 L (.int (x + y) :: st) μ Q := e_iadd (by decide +kernel : decode (bOf 132) 636 = .ok (.iadd, 1))
theorem x_132_637 (h : kd t r = 10) (hi : inB x (ln t r) = true) : Ev d 132 637 L (.int x :: .ref r :: st) (t, V, A, P) Q = Ev d 132 638 L (.int (A r x.toNatClampNeg) :: st) (t, V, A, P) Q := e_iald_ro (by decide +kernel : decode (bOf 132) 637 = .ok (.iaload, 1)) h hi
theorem x_132_638 (h : kd t r = 4) : Ev d 132 638 L [b0, .ref r] (t, V, A, P) Q = Call d 64 [.ref r, b0] (t, V, A, P) (fun v μ1 => Ev d 132 641 L (v.toList ++ []) μ1 Q) := e_callV (a := [b0]) (r := []) (by decide +kernel : decode (bOf 132) 638 = .ok (.invokevirtual 98, 3)) (by decide +kernel) (by decide +kernel) (by decide +kernel) (by omega) rfl (by simp) (by decide +kernel) h
theorem x_132_641 : Ev d 132 641 (a0 :: a1 :: .ref r :: L) st μ Q = Ev d 132 642 (a0 :: a1 :: .ref r :: L) (.ref r :: st) μ Q := e_aload_n (by decide +kernel : decode (bOf 132) 641 = .ok (.aload_n 2, 1)) rfl
theorem x_132_642 : Ev d 132 642 (.ref r :: L) st μ Q = Ev d 132 643 (.ref r :: L) (.ref r :: st) μ Q := e_aload_n (by decide +kernel : decode (bOf 132) 642 = .ok (.aload_n 0, 1)) rfl
theorem x_132_643 : Ev d 132 643 (a0 :: a1 :: a2 :: .int x :: L) st μ Q = Ev d 132 644 (a0 :: a1 :: a2 :: .int x :: L) (.int x :: st) μ Q := e_iload_n (by decide +kernel : decode (bOf 132) 643 = .ok (.iload_n 3, 1)) rfl
theorem x_132_644 : Ev d 132 644 L st μ Q = Ev d 132 645 L (.int (iI 1) :: st) μ Q := e_iconst (by decide +kernel : decode (bOf 132) 644 = .ok (.iconst 1, 1))
theorem x_132_645 : Ev d 132 645 L (.int y :: .int x :: st) μ Q = Ev d 132 646 L (.int (x + y) :: st) μ Q := e_iadd (by decide +kernel : decode (bOf 132) 645 = .ok (.iadd, 1))
theorem x_132_646 (h : kd t r = 10) (hi : inB x (ln t r) = true) : Ev d 132 646 L (.int x :: .ref r :: st) (t, V, A, P) Q = Ev d 132 647 L (.int (A r x.toNatClampNeg) :: st) (t, V, A, P) Q := e_iald_ro (by decide +kernel : decode (bOf 132) 646 = .ok (.iaload, 1)) h hi
theorem x_132_647 (h : kd t r = 5) : Ev d 132 647 L [b0, .ref r, s0] (t, V, A, P) Q = Call d 129 [.ref r, b0] (t, V, A, P) (fun v μ1 => Ev d 132 650 L (v.toList ++ [s0]) μ1 Q) := e_callV (a := [b0]) (r := [s0]) (by decide +kernel : decode (bOf 132) 647 = .ok (.invokevirtual 101, 3)) (by decide +kernel) (by decide +kernel) (by decide +kernel) (by omega) rfl (by simp) (by decide +kernel) h
theorem x_132_650 : Ev d 132 650 L (.int y :: .int x :: st) μ Q = if x = y then Ev d 132 655 L st μ Q else Ev d 132 653 L st μ Q := e_icmp_eq (by decide +kernel : decode (bOf 132) 650 = .ok (.if_icmp .eq 5, 3)) (by omega)
theorem x_132_653 : Ev d 132 653 L st μ Q = Ev d 132 654 L (.int (iI 0) :: st) μ Q := e_iconst (by decide +kernel : decode (bOf 132) 653 = .ok (.iconst 0, 1))
theorem x_132_654 (hx : isB x) : Ev d 132 654 L [.int x] μ Q = Q (some (.int x)) μ := e_zret (by decide +kernel : decode (bOf 132) 654 = .ok (.ireturn, 1)) (by decide +kernel) hx
theorem x_132_655 (h : a2.category = 1) : Ev d 132 655 (a0 :: a1 :: a2 :: .int x :: L) st μ Q = Ev d 132 658 (a0 :: a1 :: a2 :: .int (x + (iI 5)) :: L) st μ Q := e_iinc (by decide +kernel : decode (bOf 132) 655 = .ok (.iinc 3 5, 3)) rfl (by simp [stOK, h])
theorem x_132_658 : Ev d 132 658 L st μ Q = Ev d 132 18 L st μ Q := e_goto (by decide +kernel : decode (bOf 132) 658 = .ok (.goto (-640), 3)) (by omega)
theorem x_132_661 : Ev d 132 661 L st μ Q = Ev d 132 662 L (.int (iI 1) :: st) μ Q := e_iconst (by decide +kernel : decode (bOf 132) 661 = .ok (.iconst 1, 1))
theorem x_132_662 (hx : isB x) : Ev d 132 662 L [.int x] μ Q = Q (some (.int x)) μ := e_zret (by decide +kernel : decode (bOf 132) 662 = .ok (.ireturn, 1)) (by decide +kernel) hx
end Xf
