section Xf
variable {d : Nat} {L st : List Value} {μ : mM} {Q : Option Value → mM → Prop} {t : mL} {V : Nat → Nat → Value} {A : Nat → Nat → Int32} {P : Nat → Nat → Option Nat} {N S : Nat} {K : Nat → Nat × Nat}
variable {a0 a1 a2 a3 a4 a5 a6 a7 a8 a9 a10 a11 a12 b0 b1 b2 b3 s0 s1 s2 s3 : Value} {x y i0 i1 i2 i3 i4 : Int32} {w z : Int64} {r q r0 r1 r2 : Nat}
theorem c_131 : Call (d + 1) 131 [.int i0] μ Q = Ev d 131 0 [.int i0] [] μ Q := call_ev rfl rfl
theorem x_131_0 : Ev d 131 0 (.int x :: L) st μ Q = Ev d 131 1 (.int x :: L) (.int x :: st) μ Q := e_iload_n (by decide +kernel : decode (bOf 131) 0 = .ok (.iload_n 0, 1)) rfl
theorem x_131_1 : Ev d 131 1 (.int x :: L) st μ Q = Ev d 131 2 (.int x :: L) (.int x :: st) μ Q := e_iload_n (by decide +kernel : decode (bOf 131) 1 = .ok (.iload_n 0, 1)) rfl
theorem x_131_2 : Ev d 131 2 L st μ Q = Ev d 131 3 L (.int (iI 1) :: st) μ Q := e_iconst (by decide +kernel : decode (bOf 131) 2 = .ok (.iconst 1, 1))
theorem x_131_3 : Ev d 131 3 L (.int y :: .int x :: st) μ Q = Ev d 131 4 L (.int (x.toUInt32 >>> (y.toUInt32 &&& Int32.toUInt32 31)).toInt32 :: st) μ Q := e_iushr (by decide +kernel : decode (bOf 131) 3 = .ok (.iushr, 1))
theorem x_131_4 : Ev d 131 4 L st μ Q = Ev d 131 7 L (.int (iI 1431655765) :: st) μ Q := e_ldc_w (by decide +kernel : decode (bOf 131) 4 = .ok (.ldc_w 265, 3)) (by decide +kernel)
theorem x_131_7 : Ev d 131 7 L (.int y :: .int x :: st) μ Q = Ev d 131 8 L (.int (x &&& y) :: st) μ Q := e_iand (by decide +kernel : decode (bOf 131) 7 = .ok (.iand, 1))
theorem x_131_8 : Ev d 131 8 L (.int y :: .int x :: st) μ Q = Ev d 131 9 L (.int (x - y) :: st) μ Q := e_isub (by decide +kernel : decode (bOf 131) 8 = .ok (.isub, 1))
theorem x_131_9 : Ev d 131 9 (a0 :: L) (.int x :: st) μ Q = Ev d 131 10 (.int x :: L) st μ Q := e_istore_n (by decide +kernel : decode (bOf 131) 9 = .ok (.istore_n 0, 1)) (by show stOK _ 0 = true; simp [stOK])
theorem x_131_10 : Ev d 131 10 (.int x :: L) st μ Q = Ev d 131 11 (.int x :: L) (.int x :: st) μ Q := e_iload_n (by decide +kernel : decode (bOf 131) 10 = .ok (.iload_n 0, 1)) rfl
theorem x_131_11 : Ev d 131 11 L st μ Q = Ev d 131 14 L (.int (iI 858993459) :: st) μ Q := e_ldc_w (by decide +kernel : decode (bOf 131) 11 = .ok (.ldc_w 266, 3)) (by decide +kernel)
theorem x_131_14 : Ev d 131 14 L (.int y :: .int x :: st) μ Q = Ev d 131 15 L (.int (x &&& y) :: st) μ Q := e_iand (by decide +kernel : decode (bOf 131) 14 = .ok (.iand, 1))
theorem x_131_15 : Ev d 131 15 (.int x :: L) st μ Q = Ev d 131 16 (.int x :: L) (.int x :: st) μ Q := e_iload_n (by decide +kernel : decode (bOf 131) 15 = .ok (.iload_n 0, 1)) rfl
theorem x_131_16 : Ev d 131 16 L st μ Q = Ev d 131 17 L (.int (iI 2) :: st) μ Q := e_iconst (by decide +kernel : decode (bOf 131) 16 = .ok (.iconst 2, 1))
theorem x_131_17 : Ev d 131 17 L (.int y :: .int x :: st) μ Q = Ev d 131 18 L (.int (x.toUInt32 >>> (y.toUInt32 &&& Int32.toUInt32 31)).toInt32 :: st) μ Q := e_iushr (by decide +kernel : decode (bOf 131) 17 = .ok (.iushr, 1))
theorem x_131_18 : Ev d 131 18 L st μ Q = Ev d 131 21 L (.int (iI 858993459) :: st) μ Q := e_ldc_w (by decide +kernel : decode (bOf 131) 18 = .ok (.ldc_w 266, 3)) (by decide +kernel)
theorem x_131_21 : Ev d 131 21 L (.int y :: .int x :: st) μ Q = Ev d 131 22 L (.int (x &&& y) :: st) μ Q := e_iand (by decide +kernel : decode (bOf 131) 21 = .ok (.iand, 1))
theorem x_131_22 : Ev d 131 22 L (.int y :: .int x :: st) μ Q = Ev d 131 23 L (.int (x + y) :: st) μ Q := e_iadd (by decide +kernel : decode (bOf 131) 22 = .ok (.iadd, 1))
theorem x_131_23 : Ev d 131 23 (a0 :: L) (.int x :: st) μ Q = Ev d 131 24 (.int x :: L) st μ Q := e_istore_n (by decide +kernel : decode (bOf 131) 23 = .ok (.istore_n 0, 1)) (by show stOK _ 0 = true; simp [stOK])
theorem x_131_24 : Ev d 131 24 (.int x :: L) st μ Q = Ev d 131 25 (.int x :: L) (.int x :: st) μ Q := e_iload_n (by decide +kernel : decode (bOf 131) 24 = .ok (.iload_n 0, 1)) rfl
theorem x_131_25 : Ev d 131 25 (.int x :: L) st μ Q = Ev d 131 26 (.int x :: L) (.int x :: st) μ Q := e_iload_n (by decide +kernel : decode (bOf 131) 25 = .ok (.iload_n 0, 1)) rfl
theorem x_131_26 : Ev d 131 26 L st μ Q = Ev d 131 27 L (.int (iI 4) :: st) μ Q := e_iconst (by decide +kernel : decode (bOf 131) 26 = .ok (.iconst 4, 1))
theorem x_131_27 : Ev d 131 27 L (.int y :: .int x :: st) μ Q = Ev d 131 28 L (.int (x.toUInt32 >>> (y.toUInt32 &&& Int32.toUInt32 31)).toInt32 :: st) μ Q := e_iushr (by decide +kernel : decode (bOf 131) 27 = .ok (.iushr, 1))
theorem x_131_28 : Ev d 131 28 L (.int y :: .int x :: st) μ Q = Ev d 131 29 L (.int (x + y) :: st) μ Q := e_iadd (by decide +kernel : decode (bOf 131) 28 = .ok (.iadd, 1))
theorem x_131_29 : Ev d 131 29 L st μ Q = Ev d 131 32 L (.int (iI 252645135) :: st) μ Q := e_ldc_w (by decide +kernel : decode (bOf 131) 29 = .ok (.ldc_w 267, 3)) (by decide +kernel)
theorem x_131_32 : Ev d 131 32 L (.int y :: .int x :: st) μ Q = Ev d 131 33 L (.int (x &&& y) :: st) μ Q := e_iand (by decide +kernel : decode (bOf 131) 32 = .ok (.iand, 1))
theorem x_131_33 : Ev d 131 33 (a0 :: L) (.int x :: st) μ Q = Ev d 131 34 (.int x :: L) st μ Q := e_istore_n (by decide +kernel : decode (bOf 131) 33 = .ok (.istore_n 0, 1)) (by show stOK _ 0 = true; simp [stOK])
theorem x_131_34 : Ev d 131 34 (.int x :: L) st μ Q = Ev d 131 35 (.int x :: L) (.int x :: st) μ Q := e_iload_n (by decide +kernel : decode (bOf 131) 34 = .ok (.iload_n 0, 1)) rfl
theorem x_131_35 : Ev d 131 35 (.int x :: L) st μ Q = Ev d 131 36 (.int x :: L) (.int x :: st) μ Q := e_iload_n (by decide +kernel : decode (bOf 131) 35 = .ok (.iload_n 0, 1)) rfl
theorem x_131_36 : Ev d 131 36 L st μ Q = Ev d 131 38 L (.int (iI 8) :: st) μ Q := e_bipush (by decide +kernel : decode (bOf 131) 36 = .ok (.bipush 8, 2)) (by decide +kernel)
theorem x_131_38 : Ev d 131 38 L (.int y :: .int x :: st) μ Q = Ev d 131 39 L (.int (x.toUInt32 >>> (y.toUInt32 &&& Int32.toUInt32 31)).toInt32 :: st) μ Q := e_iushr (by decide +kernel : decode (bOf 131) 38 = .ok (.iushr, 1))
theorem x_131_39 : Ev d 131 39 L (.int y :: .int x :: st) μ Q = Ev d 131 40 L (.int (x + y) :: st) μ Q := e_iadd (by decide +kernel : decode (bOf 131) 39 = .ok (.iadd, 1))
theorem x_131_40 : Ev d 131 40 (a0 :: L) (.int x :: st) μ Q = Ev d 131 41 (.int x :: L) st μ Q := e_istore_n (by decide +kernel : decode (bOf 131) 40 = .ok (.istore_n 0, 1)) (by show stOK _ 0 = true; simp [stOK])
theorem x_131_41 : Ev d 131 41 (.int x :: L) st μ Q = Ev d 131 42 (.int x :: L) (.int x :: st) μ Q := e_iload_n (by decide +kernel : decode (bOf 131) 41 = .ok (.iload_n 0, 1)) rfl
theorem x_131_42 : Ev d 131 42 (.int x :: L) st μ Q = Ev d 131 43 (.int x :: L) (.int x :: st) μ Q := e_iload_n (by decide +kernel : decode (bOf 131) 42 = .ok (.iload_n 0, 1)) rfl
theorem x_131_43 : Ev d 131 43 L st μ Q = Ev d 131 45 L (.int (iI 16) :: st) μ Q := e_bipush (by decide +kernel : decode (bOf 131) 43 = .ok (.bipush 16, 2)) (by decide +kernel)
theorem x_131_45 : Ev d 131 45 L (.int y :: .int x :: st) μ Q = Ev d 131 46 L (.int (x.toUInt32 >>> (y.toUInt32 &&& Int32.toUInt32 31)).toInt32 :: st) μ Q := e_iushr (by decide +kernel : decode (bOf 131) 45 = .ok (.iushr, 1))
theorem x_131_46 : Ev d 131 46 L (.int y :: .int x :: st) μ Q = Ev d 131 47 L (.int (x + y) :: st) μ Q := e_iadd (by decide +kernel : decode (bOf 131) 46 = .ok (.iadd, 1))
theorem x_131_47 : Ev d 131 47 (a0 :: L) (.int x :: st) μ Q = Ev d 131 48 (.int x :: L) st μ Q := e_istore_n (by decide +kernel : decode (bOf 131) 47 = .ok (.istore_n 0, 1)) (by show stOK _ 0 = true; simp [stOK])
theorem x_131_48 : Ev d 131 48 (.int x :: L) st μ Q = Ev d 131 49 (.int x :: L) (.int x :: st) μ Q := e_iload_n (by decide +kernel : decode (bOf 131) 48 = .ok (.iload_n 0, 1)) rfl
theorem x_131_49 : Ev d 131 49 L st μ Q = Ev d 131 51 L (.int (iI 63) :: st) μ Q := e_bipush (by decide +kernel : decode (bOf 131) 49 = .ok (.bipush 63, 2)) (by decide +kernel)
theorem x_131_51 : Ev d 131 51 L (.int y :: .int x :: st) μ Q = Ev d 131 52 L (.int (x &&& y) :: st) μ Q := e_iand (by decide +kernel : decode (bOf 131) 51 = .ok (.iand, 1))
theorem x_131_52 : Ev d 131 52 L [.int x] μ Q = Q (some (.int x)) μ := e_iret (by decide +kernel : decode (bOf 131) 52 = .ok (.ireturn, 1)) (by decide +kernel)
theorem c_133 : Call (d + 1) 133 [.ref r0] μ Q = Ev d 133 0 [.ref r0, .null, .null, .null] [] μ Q := call_ev rfl rfl
theorem x_133_0 : Ev d 133 0 L st ((N, S, K), V, A, P) Q = Ev d 133 3 L (.ref N :: st) ((N + 1, S + 12, up1 K N (4, 12)), up1 V N (rw' [.null, .null, .null, .null, .null, .null, .null, .null, .null, .int 0, .int 0, .int 0]), A, P) Q := e_new 12 [.null, .null, .null, .null, .null, .null, .null, .null, .null, .int 0, .int 0, .int 0] (by decide +kernel : decode (bOf 133) 0 = .ok (.new 7, 3)) (by decide +kernel) (by decide +kernel) (by decide +kernel) (by decide +kernel)
theorem x_133_3 : Ev d 133 3 L (.ref r :: st) μ Q = Ev d 133 4 L (.ref r :: .ref r :: st) μ Q := e_dup_a (by decide +kernel : decode (bOf 133) 3 = .ok (.dup, 1))
theorem x_133_4 : Ev d 133 4 L [.ref r, s0] μ Q = Call d 43 [.ref r] μ (fun v μ1 => Ev d 133 7 L (v.toList ++ [s0]) μ1 Q) := e_callI (a := []) (r := [s0]) (by decide +kernel : decode (bOf 133) 4 = .ok (.invokespecial 9, 3)) (by decide +kernel) (by decide +kernel) (by decide +kernel) (by decide +kernel) (by omega) rfl (by simp)
theorem x_133_7 (h : a0.category = 1) : Ev d 133 7 (a0 :: a1 :: L) (.ref r :: st) μ Q = Ev d 133 8 (a0 :: .ref r :: L) st μ Q := e_astore_n (by decide +kernel : decode (bOf 133) 7 = .ok (.astore_n 1, 1)) (by show stOK _ 1 = true; simp [stOK, h])
theorem x_133_8 : Ev d 133 8 L st ((N, S, K), V, A, P) Q = Ev d 133 11 L (.ref N :: st) ((N + 1, S + 32, up1 K N (5, 32)), up1 V N (rw' [.int 0, .null, .null, .int 0, .null, .null, .null, .int 0, .null, .int 0, .null, .null, .int 0, .int 0, .int 0, .int 0, .int 0, .int 0, .int 0, .null, .null, .null, .null, .int 0, .int 0, .null, .int 0, .int 0, .int 0, .int 0, .null, .null]), A, P) Q := e_new 32 [.int 0, .null, .null, .int 0, .null, .null, .null, .int 0, .null, .int 0, .null, .null, .int 0, .int 0, .int 0, .int 0, .int 0, .int 0, .int 0, .null, .null, .null, .null, .int 0, .int 0, .null, .int 0, .int 0, .int 0, .int 0, .null, .null] (by decide +kernel : decode (bOf 133) 8 = .ok (.new 10, 3)) (by decide +kernel) (by decide +kernel) (by decide +kernel) (by decide +kernel)
theorem x_133_11 : Ev d 133 11 L (.ref r :: st) μ Q = Ev d 133 12 L (.ref r :: .ref r :: st) μ Q := e_dup_a (by decide +kernel : decode (bOf 133) 11 = .ok (.dup, 1))
theorem x_133_12 : Ev d 133 12 L [.ref r, s0] μ Q = Call d 79 [.ref r] μ (fun v μ1 => Ev d 133 15 L (v.toList ++ [s0]) μ1 Q) := e_callI (a := []) (r := [s0]) (by decide +kernel : decode (bOf 133) 12 = .ok (.invokespecial 12, 3)) (by decide +kernel) (by decide +kernel) (by decide +kernel) (by decide +kernel) (by omega) rfl (by simp)
theorem x_133_15 (h : a1.category = 1) : Ev d 133 15 (a0 :: a1 :: a2 :: L) (.ref r :: st) μ Q = Ev d 133 16 (a0 :: a1 :: .ref r :: L) st μ Q := e_astore_n (by decide +kernel : decode (bOf 133) 15 = .ok (.astore_n 2, 1)) (by show stOK _ 2 = true; simp [stOK, h])
theorem x_133_16 : Ev d 133 16 L st μ Q = Ev d 133 17 L (.int (iI 0) :: st) μ Q := e_iconst (by decide +kernel : decode (bOf 133) 16 = .ok (.iconst 0, 1))
theorem x_133_17 (h : a2.category = 1) : Ev d 133 17 (a0 :: a1 :: a2 :: a3 :: L) (.int x :: st) μ Q = Ev d 133 18 (a0 :: a1 :: a2 :: .int x :: L) st μ Q := e_istore_n (by decide +kernel : decode (bOf 133) 17 = .ok (.istore_n 3, 1)) (by show stOK _ 3 = true; simp [stOK, h])
theorem x_133_18 : Ev d 133 18 (a0 :: a1 :: a2 :: .int x :: L) st μ Q = Ev d 133 19 (a0 :: a1 :: a2 :: .int x :: L) (.int x :: st) μ Q := e_iload_n (by decide +kernel : decode (bOf 133) 18 = .ok (.iload_n 3, 1)) rfl
theorem x_133_19 : Ev d 133 19 (.ref r :: L) st μ Q = Ev d 133 20 (.ref r :: L) (.ref r :: st) μ Q := e_aload_n (by decide +kernel : decode (bOf 133) 19 = .ok (.aload_n 0, 1)) rfl
theorem x_133_20 (h : kd t r = 10) : Ev d 133 20 L (.ref r :: st) (t, V, A, P) Q = Ev d 133 21 L (.int (Int32.ofNat (ln t r)) :: st) (t, V, A, P) Q := e_alen (by decide +kernel : decode (bOf 133) 20 = .ok (.arraylength, 1)) h
theorem x_133_21 : Ev d 133 21 L st μ Q = Ev d 133 22 L (.int (iI 5) :: st) μ Q := e_iconst (by decide +kernel : decode (bOf 133) 21 = .ok (.iconst 5, 1))
theorem x_133_22 : Ev d 133 22 L (.int y :: .int x :: st) μ Q = Ev d 133 23 L (.int (x - y) :: st) μ Q := e_isub (by decide +kernel : decode (bOf 133) 22 = .ok (.isub, 1))
theorem x_133_23 : Ev d 133 23 L (.int y :: .int x :: st) μ Q = if y < x then Ev d 133 661 L st μ Q else Ev d 133 26 L st μ Q := e_icmp_gt (by decide +kernel : decode (bOf 133) 23 = .ok (.if_icmp .gt 638, 3)) (by omega)
theorem x_133_26 : Ev d 133 26 (.ref r :: L) st μ Q = Ev d 133 27 (.ref r :: L) (.ref r :: st) μ Q := e_aload_n (by decide +kernel : decode (bOf 133) 26 = .ok (.aload_n 0, 1)) rfl
theorem x_133_27 : Ev d 133 27 (a0 :: a1 :: a2 :: .int x :: L) st μ Q = Ev d 133 28 (a0 :: a1 :: a2 :: .int x :: L) (.int x :: st) μ Q := e_iload_n (by decide +kernel : decode (bOf 133) 27 = .ok (.iload_n 3, 1)) rfl
theorem x_133_28 (h : kd t r = 10) (hi : inB x (ln t r) = true) : Ev d 133 28 L (.int x :: .ref r :: st) (t, V, A, P) Q = Ev d 133 29 L (.int (A r x.toNatClampNeg) :: st) (t, V, A, P) Q := e_iald_ro (by decide +kernel : decode (bOf 133) 28 = .ok (.iaload, 1)) h hi
theorem x_133_29 : Ev d 133 29 L st μ Q = Ev d 133 31 L (.int (iI 31) :: st) μ Q := e_bipush (by decide +kernel : decode (bOf 133) 29 = .ok (.bipush 31, 2)) (by decide +kernel)
theorem x_133_31 : Ev d 133 31 L (.int y :: .int x :: st) μ Q = Ev d 133 32 L (.int (x &&& y) :: st) μ Q := e_iand (by decide +kernel : decode (bOf 133) 31 = .ok (.iand, 1))
theorem x_133_32 : Ev d 133 32 L (.int x :: st) μ Q = if x = iI 0 then Ev d 133 132 L st μ Q else if x = iI 1 then Ev d 133 155 L st μ Q else if x = iI 2 then Ev d 133 168 L st μ Q else if x = iI 3 then Ev d 133 181 L st μ Q else if x = iI 4 then Ev d 133 204 L st μ Q else if x = iI 5 then Ev d 133 227 L st μ Q else if x = iI 6 then Ev d 133 250 L st μ Q else if x = iI 7 then Ev d 133 263 L st μ Q else if x = iI 8 then Ev d 133 276 L st μ Q else if x = iI 9 then Ev d 133 309 L st μ Q else if x = iI 10 then Ev d 133 332 L st μ Q else if x = iI 11 then Ev d 133 355 L st μ Q else if x = iI 12 then Ev d 133 378 L st μ Q else if x = iI 13 then Ev d 133 431 L st μ Q else if x = iI 14 then Ev d 133 474 L st μ Q else if x = iI 15 then Ev d 133 497 L st μ Q else if x = iI 16 then Ev d 133 530 L st μ Q else if x = iI 17 then Ev d 133 563 L st μ Q else if x = iI 18 then Ev d 133 586 L st μ Q else if x = iI 19 then Ev d 133 609 L st μ Q else if x = iI 20 then Ev d 133 632 L st μ Q else Ev d 133 655 L st μ Q := by
  have hd : decode (bOf 133) 32 = .ok (.tableswitch 623 0 20 #[100, 123, 136, 149, 172, 195, 218, 231, 244, 277, 300, 323, 346, 399, 442, 465, 498, 531, 554, 577, 600], 100) := by decide +kernel
  by_cases h0 : x = iI 0
  · rw [if_pos h0]; exact e_sw hd (sw_in (off := 100) h0 (by omega) (by omega) (by omega) rfl (by omega))
  rw [if_neg h0]
  by_cases h1 : x = iI 1
  · rw [if_pos h1]; exact e_sw hd (sw_in (off := 123) h1 (by omega) (by omega) (by omega) rfl (by omega))
  rw [if_neg h1]
  by_cases h2 : x = iI 2
  · rw [if_pos h2]; exact e_sw hd (sw_in (off := 136) h2 (by omega) (by omega) (by omega) rfl (by omega))
  rw [if_neg h2]
  by_cases h3 : x = iI 3
  · rw [if_pos h3]; exact e_sw hd (sw_in (off := 149) h3 (by omega) (by omega) (by omega) rfl (by omega))
  rw [if_neg h3]
  by_cases h4 : x = iI 4
  · rw [if_pos h4]; exact e_sw hd (sw_in (off := 172) h4 (by omega) (by omega) (by omega) rfl (by omega))
  rw [if_neg h4]
  by_cases h5 : x = iI 5
  · rw [if_pos h5]; exact e_sw hd (sw_in (off := 195) h5 (by omega) (by omega) (by omega) rfl (by omega))
  rw [if_neg h5]
  by_cases h6 : x = iI 6
  · rw [if_pos h6]; exact e_sw hd (sw_in (off := 218) h6 (by omega) (by omega) (by omega) rfl (by omega))
  rw [if_neg h6]
  by_cases h7 : x = iI 7
  · rw [if_pos h7]; exact e_sw hd (sw_in (off := 231) h7 (by omega) (by omega) (by omega) rfl (by omega))
  rw [if_neg h7]
  by_cases h8 : x = iI 8
  · rw [if_pos h8]; exact e_sw hd (sw_in (off := 244) h8 (by omega) (by omega) (by omega) rfl (by omega))
  rw [if_neg h8]
  by_cases h9 : x = iI 9
  · rw [if_pos h9]; exact e_sw hd (sw_in (off := 277) h9 (by omega) (by omega) (by omega) rfl (by omega))
  rw [if_neg h9]
  by_cases h10 : x = iI 10
  · rw [if_pos h10]; exact e_sw hd (sw_in (off := 300) h10 (by omega) (by omega) (by omega) rfl (by omega))
  rw [if_neg h10]
  by_cases h11 : x = iI 11
  · rw [if_pos h11]; exact e_sw hd (sw_in (off := 323) h11 (by omega) (by omega) (by omega) rfl (by omega))
  rw [if_neg h11]
  by_cases h12 : x = iI 12
  · rw [if_pos h12]; exact e_sw hd (sw_in (off := 346) h12 (by omega) (by omega) (by omega) rfl (by omega))
  rw [if_neg h12]
  by_cases h13 : x = iI 13
  · rw [if_pos h13]; exact e_sw hd (sw_in (off := 399) h13 (by omega) (by omega) (by omega) rfl (by omega))
  rw [if_neg h13]
  by_cases h14 : x = iI 14
  · rw [if_pos h14]; exact e_sw hd (sw_in (off := 442) h14 (by omega) (by omega) (by omega) rfl (by omega))
  rw [if_neg h14]
  by_cases h15 : x = iI 15
  · rw [if_pos h15]; exact e_sw hd (sw_in (off := 465) h15 (by omega) (by omega) (by omega) rfl (by omega))
  rw [if_neg h15]
  by_cases h16 : x = iI 16
  · rw [if_pos h16]; exact e_sw hd (sw_in (off := 498) h16 (by omega) (by omega) (by omega) rfl (by omega))
  rw [if_neg h16]
  by_cases h17 : x = iI 17
  · rw [if_pos h17]; exact e_sw hd (sw_in (off := 531) h17 (by omega) (by omega) (by omega) rfl (by omega))
  rw [if_neg h17]
  by_cases h18 : x = iI 18
  · rw [if_pos h18]; exact e_sw hd (sw_in (off := 554) h18 (by omega) (by omega) (by omega) rfl (by omega))
  rw [if_neg h18]
  by_cases h19 : x = iI 19
  · rw [if_pos h19]; exact e_sw hd (sw_in (off := 577) h19 (by omega) (by omega) (by omega) rfl (by omega))
  rw [if_neg h19]
  by_cases h20 : x = iI 20
  · rw [if_pos h20]; exact e_sw hd (sw_in (off := 600) h20 (by omega) (by omega) (by omega) rfl (by omega))
  rw [if_neg h20]
  have g0 := ne_toInt h0
  have g1 := ne_toInt h1
  have g2 := ne_toInt h2
  have g3 := ne_toInt h3
  have g4 := ne_toInt h4
  have g5 := ne_toInt h5
  have g6 := ne_toInt h6
  have g7 := ne_toInt h7
  have g8 := ne_toInt h8
  have g9 := ne_toInt h9
  have g10 := ne_toInt h10
  have g11 := ne_toInt h11
  have g12 := ne_toInt h12
  have g13 := ne_toInt h13
  have g14 := ne_toInt h14
  have g15 := ne_toInt h15
  have g16 := ne_toInt h16
  have g17 := ne_toInt h17
  have g18 := ne_toInt h18
  have g19 := ne_toInt h19
  have g20 := ne_toInt h20
  exact e_sw hd (sw_out (by omega) (by omega))
theorem x_133_132 : Ev d 133 132 (a0 :: .ref r :: L) st μ Q = Ev d 133 133 (a0 :: .ref r :: L) (.ref r :: st) μ Q := e_aload_n (by decide +kernel : decode (bOf 133) 132 = .ok (.aload_n 1, 1)) rfl
theorem x_133_133 : Ev d 133 133 (.ref r :: L) st μ Q = Ev d 133 134 (.ref r :: L) (.ref r :: st) μ Q := e_aload_n (by decide +kernel : decode (bOf 133) 133 = .ok (.aload_n 0, 1)) rfl
theorem x_133_134 : Ev d 133 134 (a0 :: a1 :: a2 :: .int x :: L) st μ Q = Ev d 133 135 (a0 :: a1 :: a2 :: .int x :: L) (.int x :: st) μ Q := e_iload_n (by decide +kernel : decode (bOf 133) 134 = .ok (.iload_n 3, 1)) rfl
theorem x_133_135 : Ev d 133 135 L st μ Q = Ev d 133 136 L (.int (iI 1) :: st) μ Q := e_iconst (by decide +kernel : decode (bOf 133) 135 = .ok (.iconst 1, 1))
theorem x_133_136 : Ev d 133 136 L (.int y :: .int x :: st) μ Q = Ev d 133 137 L (.int (x + y) :: st) μ Q := e_iadd (by decide +kernel : decode (bOf 133) 136 = .ok (.iadd, 1))
theorem x_133_137 (h : kd t r = 10) (hi : inB x (ln t r) = true) : Ev d 133 137 L (.int x :: .ref r :: st) (t, V, A, P) Q = Ev d 133 138 L (.int (A r x.toNatClampNeg) :: st) (t, V, A, P) Q := e_iald_ro (by decide +kernel : decode (bOf 133) 137 = .ok (.iaload, 1)) h hi
theorem x_133_138 (h : kd t r = 4) : Ev d 133 138 L [b0, .ref r] (t, V, A, P) Q = Call d 44 [.ref r, b0] (t, V, A, P) (fun v μ1 => Ev d 133 141 L (v.toList ++ []) μ1 Q) := e_callV (a := [b0]) (r := []) (by decide +kernel : decode (bOf 133) 138 = .ok (.invokevirtual 13, 3)) (by decide +kernel) (by decide +kernel) (by decide +kernel) (by omega) rfl (by simp) (by decide +kernel) h
theorem x_133_141 : Ev d 133 141 (a0 :: a1 :: .ref r :: L) st μ Q = Ev d 133 142 (a0 :: a1 :: .ref r :: L) (.ref r :: st) μ Q := e_aload_n (by decide +kernel : decode (bOf 133) 141 = .ok (.aload_n 2, 1)) rfl
theorem x_133_142 : Ev d 133 142 (.ref r :: L) st μ Q = Ev d 133 143 (.ref r :: L) (.ref r :: st) μ Q := e_aload_n (by decide +kernel : decode (bOf 133) 142 = .ok (.aload_n 0, 1)) rfl
theorem x_133_143 : Ev d 133 143 (a0 :: a1 :: a2 :: .int x :: L) st μ Q = Ev d 133 144 (a0 :: a1 :: a2 :: .int x :: L) (.int x :: st) μ Q := e_iload_n (by decide +kernel : decode (bOf 133) 143 = .ok (.iload_n 3, 1)) rfl
theorem x_133_144 : Ev d 133 144 L st μ Q = Ev d 133 145 L (.int (iI 1) :: st) μ Q := e_iconst (by decide +kernel : decode (bOf 133) 144 = .ok (.iconst 1, 1))
theorem x_133_145 : Ev d 133 145 L (.int y :: .int x :: st) μ Q = Ev d 133 146 L (.int (x + y) :: st) μ Q := e_iadd (by decide +kernel : decode (bOf 133) 145 = .ok (.iadd, 1))
theorem x_133_146 (h : kd t r = 10) (hi : inB x (ln t r) = true) : Ev d 133 146 L (.int x :: .ref r :: st) (t, V, A, P) Q = Ev d 133 147 L (.int (A r x.toNatClampNeg) :: st) (t, V, A, P) Q := e_iald_ro (by decide +kernel : decode (bOf 133) 146 = .ok (.iaload, 1)) h hi
theorem x_133_147 (h : kd t r = 5) : Ev d 133 147 L [b0, .ref r, s0] (t, V, A, P) Q = Call d 88 [.ref r, b0] (t, V, A, P) (fun v μ1 => Ev d 133 150 L (v.toList ++ [s0]) μ1 Q) := e_callV (a := [b0]) (r := [s0]) (by decide +kernel : decode (bOf 133) 147 = .ok (.invokevirtual 17, 3)) (by decide +kernel) (by decide +kernel) (by decide +kernel) (by omega) rfl (by simp) (by decide +kernel) h
theorem x_133_150 : Ev d 133 150 L (.int y :: .int x :: st) μ Q = if x = y then Ev d 133 655 L st μ Q else Ev d 133 153 L st μ Q := e_icmp_eq (by decide +kernel : decode (bOf 133) 150 = .ok (.if_icmp .eq 505, 3)) (by omega)
theorem x_133_153 : Ev d 133 153 L st μ Q = Ev d 133 154 L (.int (iI 0) :: st) μ Q := e_iconst (by decide +kernel : decode (bOf 133) 153 = .ok (.iconst 0, 1))
theorem x_133_154 (hx : isB x) : Ev d 133 154 L [.int x] μ Q = Q (some (.int x)) μ := e_zret (by decide +kernel : decode (bOf 133) 154 = .ok (.ireturn, 1)) (by decide +kernel) hx
theorem x_133_155 : Ev d 133 155 (a0 :: .ref r :: L) st μ Q = Ev d 133 156 (a0 :: .ref r :: L) (.ref r :: st) μ Q := e_aload_n (by decide +kernel : decode (bOf 133) 155 = .ok (.aload_n 1, 1)) rfl
theorem x_133_156 (h : kd t r = 4) : Ev d 133 156 L [.ref r] (t, V, A, P) Q = Call d 45 [.ref r] (t, V, A, P) (fun v μ1 => Ev d 133 159 L (v.toList ++ []) μ1 Q) := e_callV (a := []) (r := []) (by decide +kernel : decode (bOf 133) 156 = .ok (.invokevirtual 18, 3)) (by decide +kernel) (by decide +kernel) (by decide +kernel) (by omega) rfl (by simp) (by decide +kernel) h
theorem x_133_159 : Ev d 133 159 (a0 :: a1 :: .ref r :: L) st μ Q = Ev d 133 160 (a0 :: a1 :: .ref r :: L) (.ref r :: st) μ Q := e_aload_n (by decide +kernel : decode (bOf 133) 159 = .ok (.aload_n 2, 1)) rfl
theorem x_133_160 (h : kd t r = 5) : Ev d 133 160 L [.ref r, s0] (t, V, A, P) Q = Call d 89 [.ref r] (t, V, A, P) (fun v μ1 => Ev d 133 163 L (v.toList ++ [s0]) μ1 Q) := e_callV (a := []) (r := [s0]) (by decide +kernel : decode (bOf 133) 160 = .ok (.invokevirtual 22, 3)) (by decide +kernel) (by decide +kernel) (by decide +kernel) (by omega) rfl (by simp) (by decide +kernel) h
theorem x_133_163 : Ev d 133 163 L (.int y :: .int x :: st) μ Q = if x = y then Ev d 133 655 L st μ Q else Ev d 133 166 L st μ Q := e_icmp_eq (by decide +kernel : decode (bOf 133) 163 = .ok (.if_icmp .eq 492, 3)) (by omega)
theorem x_133_166 : Ev d 133 166 L st μ Q = Ev d 133 167 L (.int (iI 0) :: st) μ Q := e_iconst (by decide +kernel : decode (bOf 133) 166 = .ok (.iconst 0, 1))
theorem x_133_167 (hx : isB x) : Ev d 133 167 L [.int x] μ Q = Q (some (.int x)) μ := e_zret (by decide +kernel : decode (bOf 133) 167 = .ok (.ireturn, 1)) (by decide +kernel) hx
theorem x_133_168 : Ev d 133 168 (a0 :: .ref r :: L) st μ Q = Ev d 133 169 (a0 :: .ref r :: L) (.ref r :: st) μ Q := e_aload_n (by decide +kernel : decode (bOf 133) 168 = .ok (.aload_n 1, 1)) rfl
theorem x_133_169 (h : kd t r = 4) : Ev d 133 169 L [.ref r] (t, V, A, P) Q = Call d 46 [.ref r] (t, V, A, P) (fun v μ1 => Ev d 133 172 L (v.toList ++ []) μ1 Q) := e_callV (a := []) (r := []) (by decide +kernel : decode (bOf 133) 169 = .ok (.invokevirtual 23, 3)) (by decide +kernel) (by decide +kernel) (by decide +kernel) (by omega) rfl (by simp) (by decide +kernel) h
theorem x_133_172 : Ev d 133 172 (a0 :: a1 :: .ref r :: L) st μ Q = Ev d 133 173 (a0 :: a1 :: .ref r :: L) (.ref r :: st) μ Q := e_aload_n (by decide +kernel : decode (bOf 133) 172 = .ok (.aload_n 2, 1)) rfl
theorem x_133_173 (h : kd t r = 5) : Ev d 133 173 L [.ref r, s0] (t, V, A, P) Q = Call d 93 [.ref r] (t, V, A, P) (fun v μ1 => Ev d 133 176 L (v.toList ++ [s0]) μ1 Q) := e_callV (a := []) (r := [s0]) (by decide +kernel : decode (bOf 133) 173 = .ok (.invokevirtual 26, 3)) (by decide +kernel) (by decide +kernel) (by decide +kernel) (by omega) rfl (by simp) (by decide +kernel) h
theorem x_133_176 : Ev d 133 176 L (.int y :: .int x :: st) μ Q = if x = y then Ev d 133 655 L st μ Q else Ev d 133 179 L st μ Q := e_icmp_eq (by decide +kernel : decode (bOf 133) 176 = .ok (.if_icmp .eq 479, 3)) (by omega)
theorem x_133_179 : Ev d 133 179 L st μ Q = Ev d 133 180 L (.int (iI 0) :: st) μ Q := e_iconst (by decide +kernel : decode (bOf 133) 179 = .ok (.iconst 0, 1))
theorem x_133_180 (hx : isB x) : Ev d 133 180 L [.int x] μ Q = Q (some (.int x)) μ := e_zret (by decide +kernel : decode (bOf 133) 180 = .ok (.ireturn, 1)) (by decide +kernel) hx
theorem x_133_181 : Ev d 133 181 (a0 :: .ref r :: L) st μ Q = Ev d 133 182 (a0 :: .ref r :: L) (.ref r :: st) μ Q := e_aload_n (by decide +kernel : decode (bOf 133) 181 = .ok (.aload_n 1, 1)) rfl
theorem x_133_182 : Ev d 133 182 (.ref r :: L) st μ Q = Ev d 133 183 (.ref r :: L) (.ref r :: st) μ Q := e_aload_n (by decide +kernel : decode (bOf 133) 182 = .ok (.aload_n 0, 1)) rfl
theorem x_133_183 : Ev d 133 183 (a0 :: a1 :: a2 :: .int x :: L) st μ Q = Ev d 133 184 (a0 :: a1 :: a2 :: .int x :: L) (.int x :: st) μ Q := e_iload_n (by decide +kernel : decode (bOf 133) 183 = .ok (.iload_n 3, 1)) rfl
theorem x_133_184 : Ev d 133 184 L st μ Q = Ev d 133 185 L (.int (iI 1) :: st) μ Q := e_iconst (by decide +kernel : decode (bOf 133) 184 = .ok (.iconst 1, 1))
theorem x_133_185 : Ev d 133 185 L (.int y :: .int x :: st) μ Q = Ev d 133 186 L (.int (x + y) :: st) μ Q := e_iadd (by decide +kernel : decode (bOf 133) 185 = .ok (.iadd, 1))
theorem x_133_186 (h : kd t r = 10) (hi : inB x (ln t r) = true) : Ev d 133 186 L (.int x :: .ref r :: st) (t, V, A, P) Q = Ev d 133 187 L (.int (A r x.toNatClampNeg) :: st) (t, V, A, P) Q := e_iald_ro (by decide +kernel : decode (bOf 133) 186 = .ok (.iaload, 1)) h hi
theorem x_133_187 (h : kd t r = 4) : Ev d 133 187 L [b0, .ref r] (t, V, A, P) Q = Call d 47 [.ref r, b0] (t, V, A, P) (fun v μ1 => Ev d 133 190 L (v.toList ++ []) μ1 Q) := e_callV (a := [b0]) (r := []) (by decide +kernel : decode (bOf 133) 187 = .ok (.invokevirtual 27, 3)) (by decide +kernel) (by decide +kernel) (by decide +kernel) (by omega) rfl (by simp) (by decide +kernel) h
theorem x_133_190 : Ev d 133 190 (a0 :: a1 :: .ref r :: L) st μ Q = Ev d 133 191 (a0 :: a1 :: .ref r :: L) (.ref r :: st) μ Q := e_aload_n (by decide +kernel : decode (bOf 133) 190 = .ok (.aload_n 2, 1)) rfl
theorem x_133_191 : Ev d 133 191 (.ref r :: L) st μ Q = Ev d 133 192 (.ref r :: L) (.ref r :: st) μ Q := e_aload_n (by decide +kernel : decode (bOf 133) 191 = .ok (.aload_n 0, 1)) rfl
theorem x_133_192 : Ev d 133 192 (a0 :: a1 :: a2 :: .int x :: L) st μ Q = Ev d 133 193 (a0 :: a1 :: a2 :: .int x :: L) (.int x :: st) μ Q := e_iload_n (by decide +kernel : decode (bOf 133) 192 = .ok (.iload_n 3, 1)) rfl
theorem x_133_193 : Ev d 133 193 L st μ Q = Ev d 133 194 L (.int (iI 1) :: st) μ Q := e_iconst (by decide +kernel : decode (bOf 133) 193 = .ok (.iconst 1, 1))
theorem x_133_194 : Ev d 133 194 L (.int y :: .int x :: st) μ Q = Ev d 133 195 L (.int (x + y) :: st) μ Q := e_iadd (by decide +kernel : decode (bOf 133) 194 = .ok (.iadd, 1))
theorem x_133_195 (h : kd t r = 10) (hi : inB x (ln t r) = true) : Ev d 133 195 L (.int x :: .ref r :: st) (t, V, A, P) Q = Ev d 133 196 L (.int (A r x.toNatClampNeg) :: st) (t, V, A, P) Q := e_iald_ro (by decide +kernel : decode (bOf 133) 195 = .ok (.iaload, 1)) h hi
theorem x_133_196 (h : kd t r = 5) : Ev d 133 196 L [b0, .ref r, s0] (t, V, A, P) Q = Call d 97 [.ref r, b0] (t, V, A, P) (fun v μ1 => Ev d 133 199 L (v.toList ++ [s0]) μ1 Q) := e_callV (a := [b0]) (r := [s0]) (by decide +kernel : decode (bOf 133) 196 = .ok (.invokevirtual 30, 3)) (by decide +kernel) (by decide +kernel) (by decide +kernel) (by omega) rfl (by simp) (by decide +kernel) h
theorem x_133_199 : Ev d 133 199 L (.int y :: .int x :: st) μ Q = if x = y then Ev d 133 655 L st μ Q else Ev d 133 202 L st μ Q := e_icmp_eq (by decide +kernel : decode (bOf 133) 199 = .ok (.if_icmp .eq 456, 3)) (by omega)
theorem x_133_202 : Ev d 133 202 L st μ Q = Ev d 133 203 L (.int (iI 0) :: st) μ Q := e_iconst (by decide +kernel : decode (bOf 133) 202 = .ok (.iconst 0, 1))
theorem x_133_203 (hx : isB x) : Ev d 133 203 L [.int x] μ Q = Q (some (.int x)) μ := e_zret (by decide +kernel : decode (bOf 133) 203 = .ok (.ireturn, 1)) (by decide +kernel) hx
theorem x_133_204 : Ev d 133 204 (a0 :: .ref r :: L) st μ Q = Ev d 133 205 (a0 :: .ref r :: L) (.ref r :: st) μ Q := e_aload_n (by decide +kernel : decode (bOf 133) 204 = .ok (.aload_n 1, 1)) rfl
theorem x_133_205 : Ev d 133 205 (.ref r :: L) st μ Q = Ev d 133 206 (.ref r :: L) (.ref r :: st) μ Q := e_aload_n (by decide +kernel : decode (bOf 133) 205 = .ok (.aload_n 0, 1)) rfl
theorem x_133_206 : Ev d 133 206 (a0 :: a1 :: a2 :: .int x :: L) st μ Q = Ev d 133 207 (a0 :: a1 :: a2 :: .int x :: L) (.int x :: st) μ Q := e_iload_n (by decide +kernel : decode (bOf 133) 206 = .ok (.iload_n 3, 1)) rfl
theorem x_133_207 : Ev d 133 207 L st μ Q = Ev d 133 208 L (.int (iI 1) :: st) μ Q := e_iconst (by decide +kernel : decode (bOf 133) 207 = .ok (.iconst 1, 1))
theorem x_133_208 : Ev d 133 208 L (.int y :: .int x :: st) μ Q = Ev d 133 209 L (.int (x + y) :: st) μ Q := e_iadd (by decide +kernel : decode (bOf 133) 208 = .ok (.iadd, 1))
theorem x_133_209 (h : kd t r = 10) (hi : inB x (ln t r) = true) : Ev d 133 209 L (.int x :: .ref r :: st) (t, V, A, P) Q = Ev d 133 210 L (.int (A r x.toNatClampNeg) :: st) (t, V, A, P) Q := e_iald_ro (by decide +kernel : decode (bOf 133) 209 = .ok (.iaload, 1)) h hi
theorem x_133_210 (h : kd t r = 4) : Ev d 133 210 L [b0, .ref r] (t, V, A, P) Q = Call d 48 [.ref r, b0] (t, V, A, P) (fun v μ1 => Ev d 133 213 L (v.toList ++ []) μ1 Q) := e_callV (a := [b0]) (r := []) (by decide +kernel : decode (bOf 133) 210 = .ok (.invokevirtual 31, 3)) (by decide +kernel) (by decide +kernel) (by decide +kernel) (by omega) rfl (by simp) (by decide +kernel) h
theorem x_133_213 : Ev d 133 213 (a0 :: a1 :: .ref r :: L) st μ Q = Ev d 133 214 (a0 :: a1 :: .ref r :: L) (.ref r :: st) μ Q := e_aload_n (by decide +kernel : decode (bOf 133) 213 = .ok (.aload_n 2, 1)) rfl
theorem x_133_214 : Ev d 133 214 (.ref r :: L) st μ Q = Ev d 133 215 (.ref r :: L) (.ref r :: st) μ Q := e_aload_n (by decide +kernel : decode (bOf 133) 214 = .ok (.aload_n 0, 1)) rfl
theorem x_133_215 : Ev d 133 215 (a0 :: a1 :: a2 :: .int x :: L) st μ Q = Ev d 133 216 (a0 :: a1 :: a2 :: .int x :: L) (.int x :: st) μ Q := e_iload_n (by decide +kernel : decode (bOf 133) 215 = .ok (.iload_n 3, 1)) rfl
theorem x_133_216 : Ev d 133 216 L st μ Q = Ev d 133 217 L (.int (iI 1) :: st) μ Q := e_iconst (by decide +kernel : decode (bOf 133) 216 = .ok (.iconst 1, 1))
theorem x_133_217 : Ev d 133 217 L (.int y :: .int x :: st) μ Q = Ev d 133 218 L (.int (x + y) :: st) μ Q := e_iadd (by decide +kernel : decode (bOf 133) 217 = .ok (.iadd, 1))
theorem x_133_218 (h : kd t r = 10) (hi : inB x (ln t r) = true) : Ev d 133 218 L (.int x :: .ref r :: st) (t, V, A, P) Q = Ev d 133 219 L (.int (A r x.toNatClampNeg) :: st) (t, V, A, P) Q := e_iald_ro (by decide +kernel : decode (bOf 133) 218 = .ok (.iaload, 1)) h hi
theorem x_133_219 (h : kd t r = 5) : Ev d 133 219 L [b0, .ref r, s0] (t, V, A, P) Q = Call d 98 [.ref r, b0] (t, V, A, P) (fun v μ1 => Ev d 133 222 L (v.toList ++ [s0]) μ1 Q) := e_callV (a := [b0]) (r := [s0]) (by decide +kernel : decode (bOf 133) 219 = .ok (.invokevirtual 34, 3)) (by decide +kernel) (by decide +kernel) (by decide +kernel) (by omega) rfl (by simp) (by decide +kernel) h
theorem x_133_222 : Ev d 133 222 L (.int y :: .int x :: st) μ Q = if x = y then Ev d 133 655 L st μ Q else Ev d 133 225 L st μ Q := e_icmp_eq (by decide +kernel : decode (bOf 133) 222 = .ok (.if_icmp .eq 433, 3)) (by omega)
theorem x_133_225 : Ev d 133 225 L st μ Q = Ev d 133 226 L (.int (iI 0) :: st) μ Q := e_iconst (by decide +kernel : decode (bOf 133) 225 = .ok (.iconst 0, 1))
theorem x_133_226 (hx : isB x) : Ev d 133 226 L [.int x] μ Q = Q (some (.int x)) μ := e_zret (by decide +kernel : decode (bOf 133) 226 = .ok (.ireturn, 1)) (by decide +kernel) hx
theorem x_133_227 : Ev d 133 227 (a0 :: .ref r :: L) st μ Q = Ev d 133 228 (a0 :: .ref r :: L) (.ref r :: st) μ Q := e_aload_n (by decide +kernel : decode (bOf 133) 227 = .ok (.aload_n 1, 1)) rfl
theorem x_133_228 : Ev d 133 228 (.ref r :: L) st μ Q = Ev d 133 229 (.ref r :: L) (.ref r :: st) μ Q := e_aload_n (by decide +kernel : decode (bOf 133) 228 = .ok (.aload_n 0, 1)) rfl
theorem x_133_229 : Ev d 133 229 (a0 :: a1 :: a2 :: .int x :: L) st μ Q = Ev d 133 230 (a0 :: a1 :: a2 :: .int x :: L) (.int x :: st) μ Q := e_iload_n (by decide +kernel : decode (bOf 133) 229 = .ok (.iload_n 3, 1)) rfl
theorem x_133_230 : Ev d 133 230 L st μ Q = Ev d 133 231 L (.int (iI 1) :: st) μ Q := e_iconst (by decide +kernel : decode (bOf 133) 230 = .ok (.iconst 1, 1))
theorem x_133_231 : Ev d 133 231 L (.int y :: .int x :: st) μ Q = Ev d 133 232 L (.int (x + y) :: st) μ Q := e_iadd (by decide +kernel : decode (bOf 133) 231 = .ok (.iadd, 1))
theorem x_133_232 (h : kd t r = 10) (hi : inB x (ln t r) = true) : Ev d 133 232 L (.int x :: .ref r :: st) (t, V, A, P) Q = Ev d 133 233 L (.int (A r x.toNatClampNeg) :: st) (t, V, A, P) Q := e_iald_ro (by decide +kernel : decode (bOf 133) 232 = .ok (.iaload, 1)) h hi
theorem x_133_233 (h : kd t r = 4) : Ev d 133 233 L [b0, .ref r] (t, V, A, P) Q = Call d 49 [.ref r, b0] (t, V, A, P) (fun v μ1 => Ev d 133 236 L (v.toList ++ []) μ1 Q) := e_callV (a := [b0]) (r := []) (by decide +kernel : decode (bOf 133) 233 = .ok (.invokevirtual 35, 3)) (by decide +kernel) (by decide +kernel) (by decide +kernel) (by omega) rfl (by simp) (by decide +kernel) h
theorem x_133_236 : Ev d 133 236 (a0 :: a1 :: .ref r :: L) st μ Q = Ev d 133 237 (a0 :: a1 :: .ref r :: L) (.ref r :: st) μ Q := e_aload_n (by decide +kernel : decode (bOf 133) 236 = .ok (.aload_n 2, 1)) rfl
theorem x_133_237 : Ev d 133 237 (.ref r :: L) st μ Q = Ev d 133 238 (.ref r :: L) (.ref r :: st) μ Q := e_aload_n (by decide +kernel : decode (bOf 133) 237 = .ok (.aload_n 0, 1)) rfl
theorem x_133_238 : Ev d 133 238 (a0 :: a1 :: a2 :: .int x :: L) st μ Q = Ev d 133 239 (a0 :: a1 :: a2 :: .int x :: L) (.int x :: st) μ Q := e_iload_n (by decide +kernel : decode (bOf 133) 238 = .ok (.iload_n 3, 1)) rfl
theorem x_133_239 : Ev d 133 239 L st μ Q = Ev d 133 240 L (.int (iI 1) :: st) μ Q := e_iconst (by decide +kernel : decode (bOf 133) 239 = .ok (.iconst 1, 1))
theorem x_133_240 : Ev d 133 240 L (.int y :: .int x :: st) μ Q = Ev d 133 241 L (.int (x + y) :: st) μ Q := e_iadd (by decide +kernel : decode (bOf 133) 240 = .ok (.iadd, 1))
theorem x_133_241 (h : kd t r = 10) (hi : inB x (ln t r) = true) : Ev d 133 241 L (.int x :: .ref r :: st) (t, V, A, P) Q = Ev d 133 242 L (.int (A r x.toNatClampNeg) :: st) (t, V, A, P) Q := e_iald_ro (by decide +kernel : decode (bOf 133) 241 = .ok (.iaload, 1)) h hi
theorem x_133_242 (h : kd t r = 5) : Ev d 133 242 L [b0, .ref r, s0] (t, V, A, P) Q = Call d 100 [.ref r, b0] (t, V, A, P) (fun v μ1 => Ev d 133 245 L (v.toList ++ [s0]) μ1 Q) := e_callV (a := [b0]) (r := [s0]) (by decide +kernel : decode (bOf 133) 242 = .ok (.invokevirtual 38, 3)) (by decide +kernel) (by decide +kernel) (by decide +kernel) (by omega) rfl (by simp) (by decide +kernel) h
theorem x_133_245 : Ev d 133 245 L (.int y :: .int x :: st) μ Q = if x = y then Ev d 133 655 L st μ Q else Ev d 133 248 L st μ Q := e_icmp_eq (by decide +kernel : decode (bOf 133) 245 = .ok (.if_icmp .eq 410, 3)) (by omega)
theorem x_133_248 : Ev d 133 248 L st μ Q = Ev d 133 249 L (.int (iI 0) :: st) μ Q := e_iconst (by decide +kernel : decode (bOf 133) 248 = .ok (.iconst 0, 1))
theorem x_133_249 (hx : isB x) : Ev d 133 249 L [.int x] μ Q = Q (some (.int x)) μ := e_zret (by decide +kernel : decode (bOf 133) 249 = .ok (.ireturn, 1)) (by decide +kernel) hx
theorem x_133_250 : Ev d 133 250 (a0 :: .ref r :: L) st μ Q = Ev d 133 251 (a0 :: .ref r :: L) (.ref r :: st) μ Q := e_aload_n (by decide +kernel : decode (bOf 133) 250 = .ok (.aload_n 1, 1)) rfl
theorem x_133_251 (h : kd t r = 4) : Ev d 133 251 L [.ref r] (t, V, A, P) Q = Call d 50 [.ref r] (t, V, A, P) (fun v μ1 => Ev d 133 254 L (v.toList ++ []) μ1 Q) := e_callV (a := []) (r := []) (by decide +kernel : decode (bOf 133) 251 = .ok (.invokevirtual 39, 3)) (by decide +kernel) (by decide +kernel) (by decide +kernel) (by omega) rfl (by simp) (by decide +kernel) h
theorem x_133_254 : Ev d 133 254 (a0 :: a1 :: .ref r :: L) st μ Q = Ev d 133 255 (a0 :: a1 :: .ref r :: L) (.ref r :: st) μ Q := e_aload_n (by decide +kernel : decode (bOf 133) 254 = .ok (.aload_n 2, 1)) rfl
theorem x_133_255 (h : kd t r = 5) : Ev d 133 255 L [.ref r, s0] (t, V, A, P) Q = Call d 101 [.ref r] (t, V, A, P) (fun v μ1 => Ev d 133 258 L (v.toList ++ [s0]) μ1 Q) := e_callV (a := []) (r := [s0]) (by decide +kernel : decode (bOf 133) 255 = .ok (.invokevirtual 42, 3)) (by decide +kernel) (by decide +kernel) (by decide +kernel) (by omega) rfl (by simp) (by decide +kernel) h
theorem x_133_258 : Ev d 133 258 L (.int y :: .int x :: st) μ Q = if x = y then Ev d 133 655 L st μ Q else Ev d 133 261 L st μ Q := e_icmp_eq (by decide +kernel : decode (bOf 133) 258 = .ok (.if_icmp .eq 397, 3)) (by omega)
theorem x_133_261 : Ev d 133 261 L st μ Q = Ev d 133 262 L (.int (iI 0) :: st) μ Q := e_iconst (by decide +kernel : decode (bOf 133) 261 = .ok (.iconst 0, 1))
theorem x_133_262 (hx : isB x) : Ev d 133 262 L [.int x] μ Q = Q (some (.int x)) μ := e_zret (by decide +kernel : decode (bOf 133) 262 = .ok (.ireturn, 1)) (by decide +kernel) hx
theorem x_133_263 : Ev d 133 263 (a0 :: .ref r :: L) st μ Q = Ev d 133 264 (a0 :: .ref r :: L) (.ref r :: st) μ Q := e_aload_n (by decide +kernel : decode (bOf 133) 263 = .ok (.aload_n 1, 1)) rfl
theorem x_133_264 (h : kd t r = 4) : Ev d 133 264 L [.ref r] (t, V, A, P) Q = Call d 51 [.ref r] (t, V, A, P) (fun v μ1 => Ev d 133 267 L (v.toList ++ []) μ1 Q) := e_callV (a := []) (r := []) (by decide +kernel : decode (bOf 133) 264 = .ok (.invokevirtual 43, 3)) (by decide +kernel) (by decide +kernel) (by decide +kernel) (by omega) rfl (by simp) (by decide +kernel) h
theorem x_133_267 : Ev d 133 267 (a0 :: a1 :: .ref r :: L) st μ Q = Ev d 133 268 (a0 :: a1 :: .ref r :: L) (.ref r :: st) μ Q := e_aload_n (by decide +kernel : decode (bOf 133) 267 = .ok (.aload_n 2, 1)) rfl
theorem x_133_268 (h : kd t r = 5) : Ev d 133 268 L [.ref r, s0] (t, V, A, P) Q = Call d 102 [.ref r] (t, V, A, P) (fun v μ1 => Ev d 133 271 L (v.toList ++ [s0]) μ1 Q) := e_callV (a := []) (r := [s0]) (by decide +kernel : decode (bOf 133) 268 = .ok (.invokevirtual 46, 3)) (by decide +kernel) (by decide +kernel) (by decide +kernel) (by omega) rfl (by simp) (by decide +kernel) h
theorem x_133_271 : Ev d 133 271 L (.int y :: .int x :: st) μ Q = if x = y then Ev d 133 655 L st μ Q else Ev d 133 274 L st μ Q := e_icmp_eq (by decide +kernel : decode (bOf 133) 271 = .ok (.if_icmp .eq 384, 3)) (by omega)
theorem x_133_274 : Ev d 133 274 L st μ Q = Ev d 133 275 L (.int (iI 0) :: st) μ Q := e_iconst (by decide +kernel : decode (bOf 133) 274 = .ok (.iconst 0, 1))
theorem x_133_275 (hx : isB x) : Ev d 133 275 L [.int x] μ Q = Q (some (.int x)) μ := e_zret (by decide +kernel : decode (bOf 133) 275 = .ok (.ireturn, 1)) (by decide +kernel) hx
theorem x_133_276 : Ev d 133 276 (a0 :: .ref r :: L) st μ Q = Ev d 133 277 (a0 :: .ref r :: L) (.ref r :: st) μ Q := e_aload_n (by decide +kernel : decode (bOf 133) 276 = .ok (.aload_n 1, 1)) rfl
theorem x_133_277 : Ev d 133 277 (.ref r :: L) st μ Q = Ev d 133 278 (.ref r :: L) (.ref r :: st) μ Q := e_aload_n (by decide +kernel : decode (bOf 133) 277 = .ok (.aload_n 0, 1)) rfl
theorem x_133_278 : Ev d 133 278 (a0 :: a1 :: a2 :: .int x :: L) st μ Q = Ev d 133 279 (a0 :: a1 :: a2 :: .int x :: L) (.int x :: st) μ Q := e_iload_n (by decide +kernel : decode (bOf 133) 278 = .ok (.iload_n 3, 1)) rfl
theorem x_133_279 : Ev d 133 279 L st μ Q = Ev d 133 280 L (.int (iI 1) :: st) μ Q := e_iconst (by decide +kernel : decode (bOf 133) 279 = .ok (.iconst 1, 1))
theorem x_133_280 : Ev d 133 280 L (.int y :: .int x :: st) μ Q = Ev d 133 281 L (.int (x + y) :: st) μ Q := e_iadd (by decide +kernel : decode (bOf 133) 280 = .ok (.iadd, 1))
theorem x_133_281 (h : kd t r = 10) (hi : inB x (ln t r) = true) : Ev d 133 281 L (.int x :: .ref r :: st) (t, V, A, P) Q = Ev d 133 282 L (.int (A r x.toNatClampNeg) :: st) (t, V, A, P) Q := e_iald_ro (by decide +kernel : decode (bOf 133) 281 = .ok (.iaload, 1)) h hi
theorem x_133_282 : Ev d 133 282 (.ref r :: L) st μ Q = Ev d 133 283 (.ref r :: L) (.ref r :: st) μ Q := e_aload_n (by decide +kernel : decode (bOf 133) 282 = .ok (.aload_n 0, 1)) rfl
theorem x_133_283 : Ev d 133 283 (a0 :: a1 :: a2 :: .int x :: L) st μ Q = Ev d 133 284 (a0 :: a1 :: a2 :: .int x :: L) (.int x :: st) μ Q := e_iload_n (by decide +kernel : decode (bOf 133) 283 = .ok (.iload_n 3, 1)) rfl
theorem x_133_284 : Ev d 133 284 L st μ Q = Ev d 133 285 L (.int (iI 2) :: st) μ Q := e_iconst (by decide +kernel : decode (bOf 133) 284 = .ok (.iconst 2, 1))
theorem x_133_285 : Ev d 133 285 L (.int y :: .int x :: st) μ Q = Ev d 133 286 L (.int (x + y) :: st) μ Q := e_iadd (by decide +kernel : decode (bOf 133) 285 = .ok (.iadd, 1))
theorem x_133_286 (h : kd t r = 10) (hi : inB x (ln t r) = true) : Ev d 133 286 L (.int x :: .ref r :: st) (t, V, A, P) Q = Ev d 133 287 L (.int (A r x.toNatClampNeg) :: st) (t, V, A, P) Q := e_iald_ro (by decide +kernel : decode (bOf 133) 286 = .ok (.iaload, 1)) h hi
theorem x_133_287 (h : kd t r = 4) : Ev d 133 287 L [b1, b0, .ref r] (t, V, A, P) Q = Call d 52 [.ref r, b0, b1] (t, V, A, P) (fun v μ1 => Ev d 133 290 L (v.toList ++ []) μ1 Q) := e_callV (a := [b0, b1]) (r := []) (by decide +kernel : decode (bOf 133) 287 = .ok (.invokevirtual 47, 3)) (by decide +kernel) (by decide +kernel) (by decide +kernel) (by omega) rfl (by simp) (by decide +kernel) h
theorem x_133_290 : Ev d 133 290 (a0 :: a1 :: .ref r :: L) st μ Q = Ev d 133 291 (a0 :: a1 :: .ref r :: L) (.ref r :: st) μ Q := e_aload_n (by decide +kernel : decode (bOf 133) 290 = .ok (.aload_n 2, 1)) rfl
theorem x_133_291 : Ev d 133 291 (.ref r :: L) st μ Q = Ev d 133 292 (.ref r :: L) (.ref r :: st) μ Q := e_aload_n (by decide +kernel : decode (bOf 133) 291 = .ok (.aload_n 0, 1)) rfl
theorem x_133_292 : Ev d 133 292 (a0 :: a1 :: a2 :: .int x :: L) st μ Q = Ev d 133 293 (a0 :: a1 :: a2 :: .int x :: L) (.int x :: st) μ Q := e_iload_n (by decide +kernel : decode (bOf 133) 292 = .ok (.iload_n 3, 1)) rfl
theorem x_133_293 : Ev d 133 293 L st μ Q = Ev d 133 294 L (.int (iI 1) :: st) μ Q := e_iconst (by decide +kernel : decode (bOf 133) 293 = .ok (.iconst 1, 1))
theorem x_133_294 : Ev d 133 294 L (.int y :: .int x :: st) μ Q = Ev d 133 295 L (.int (x + y) :: st) μ Q := e_iadd (by decide +kernel : decode (bOf 133) 294 = .ok (.iadd, 1))
theorem x_133_295 (h : kd t r = 10) (hi : inB x (ln t r) = true) : Ev d 133 295 L (.int x :: .ref r :: st) (t, V, A, P) Q = Ev d 133 296 L (.int (A r x.toNatClampNeg) :: st) (t, V, A, P) Q := e_iald_ro (by decide +kernel : decode (bOf 133) 295 = .ok (.iaload, 1)) h hi
theorem x_133_296 : Ev d 133 296 (.ref r :: L) st μ Q = Ev d 133 297 (.ref r :: L) (.ref r :: st) μ Q := e_aload_n (by decide +kernel : decode (bOf 133) 296 = .ok (.aload_n 0, 1)) rfl
theorem x_133_297 : Ev d 133 297 (a0 :: a1 :: a2 :: .int x :: L) st μ Q = Ev d 133 298 (a0 :: a1 :: a2 :: .int x :: L) (.int x :: st) μ Q := e_iload_n (by decide +kernel : decode (bOf 133) 297 = .ok (.iload_n 3, 1)) rfl
theorem x_133_298 : Ev d 133 298 L st μ Q = Ev d 133 299 L (.int (iI 2) :: st) μ Q := e_iconst (by decide +kernel : decode (bOf 133) 298 = .ok (.iconst 2, 1))
theorem x_133_299 : Ev d 133 299 L (.int y :: .int x :: st) μ Q = Ev d 133 300 L (.int (x + y) :: st) μ Q := e_iadd (by decide +kernel : decode (bOf 133) 299 = .ok (.iadd, 1))
theorem x_133_300 (h : kd t r = 10) (hi : inB x (ln t r) = true) : Ev d 133 300 L (.int x :: .ref r :: st) (t, V, A, P) Q = Ev d 133 301 L (.int (A r x.toNatClampNeg) :: st) (t, V, A, P) Q := e_iald_ro (by decide +kernel : decode (bOf 133) 300 = .ok (.iaload, 1)) h hi
theorem x_133_301 (h : kd t r = 5) : Ev d 133 301 L [b1, b0, .ref r, s0] (t, V, A, P) Q = Call d 103 [.ref r, b0, b1] (t, V, A, P) (fun v μ1 => Ev d 133 304 L (v.toList ++ [s0]) μ1 Q) := e_callV (a := [b0, b1]) (r := [s0]) (by decide +kernel : decode (bOf 133) 301 = .ok (.invokevirtual 51, 3)) (by decide +kernel) (by decide +kernel) (by decide +kernel) (by omega) rfl (by simp) (by decide +kernel) h
theorem x_133_304 : Ev d 133 304 L (.int y :: .int x :: st) μ Q = if x = y then Ev d 133 655 L st μ Q else Ev d 133 307 L st μ Q := e_icmp_eq (by decide +kernel : decode (bOf 133) 304 = .ok (.if_icmp .eq 351, 3)) (by omega)
theorem x_133_307 : Ev d 133 307 L st μ Q = Ev d 133 308 L (.int (iI 0) :: st) μ Q := e_iconst (by decide +kernel : decode (bOf 133) 307 = .ok (.iconst 0, 1))
theorem x_133_308 (hx : isB x) : Ev d 133 308 L [.int x] μ Q = Q (some (.int x)) μ := e_zret (by decide +kernel : decode (bOf 133) 308 = .ok (.ireturn, 1)) (by decide +kernel) hx
theorem x_133_309 : Ev d 133 309 (a0 :: .ref r :: L) st μ Q = Ev d 133 310 (a0 :: .ref r :: L) (.ref r :: st) μ Q := e_aload_n (by decide +kernel : decode (bOf 133) 309 = .ok (.aload_n 1, 1)) rfl
theorem x_133_310 : Ev d 133 310 (.ref r :: L) st μ Q = Ev d 133 311 (.ref r :: L) (.ref r :: st) μ Q := e_aload_n (by decide +kernel : decode (bOf 133) 310 = .ok (.aload_n 0, 1)) rfl
theorem x_133_311 : Ev d 133 311 (a0 :: a1 :: a2 :: .int x :: L) st μ Q = Ev d 133 312 (a0 :: a1 :: a2 :: .int x :: L) (.int x :: st) μ Q := e_iload_n (by decide +kernel : decode (bOf 133) 311 = .ok (.iload_n 3, 1)) rfl
theorem x_133_312 : Ev d 133 312 L st μ Q = Ev d 133 313 L (.int (iI 1) :: st) μ Q := e_iconst (by decide +kernel : decode (bOf 133) 312 = .ok (.iconst 1, 1))
theorem x_133_313 : Ev d 133 313 L (.int y :: .int x :: st) μ Q = Ev d 133 314 L (.int (x + y) :: st) μ Q := e_iadd (by decide +kernel : decode (bOf 133) 313 = .ok (.iadd, 1))
theorem x_133_314 (h : kd t r = 10) (hi : inB x (ln t r) = true) : Ev d 133 314 L (.int x :: .ref r :: st) (t, V, A, P) Q = Ev d 133 315 L (.int (A r x.toNatClampNeg) :: st) (t, V, A, P) Q := e_iald_ro (by decide +kernel : decode (bOf 133) 314 = .ok (.iaload, 1)) h hi
theorem x_133_315 (h : kd t r = 4) : Ev d 133 315 L [b0, .ref r] (t, V, A, P) Q = Call d 53 [.ref r, b0] (t, V, A, P) (fun v μ1 => Ev d 133 318 L (v.toList ++ []) μ1 Q) := e_callV (a := [b0]) (r := []) (by decide +kernel : decode (bOf 133) 315 = .ok (.invokevirtual 52, 3)) (by decide +kernel) (by decide +kernel) (by decide +kernel) (by omega) rfl (by simp) (by decide +kernel) h
theorem x_133_318 : Ev d 133 318 (a0 :: a1 :: .ref r :: L) st μ Q = Ev d 133 319 (a0 :: a1 :: .ref r :: L) (.ref r :: st) μ Q := e_aload_n (by decide +kernel : decode (bOf 133) 318 = .ok (.aload_n 2, 1)) rfl
theorem x_133_319 : Ev d 133 319 (.ref r :: L) st μ Q = Ev d 133 320 (.ref r :: L) (.ref r :: st) μ Q := e_aload_n (by decide +kernel : decode (bOf 133) 319 = .ok (.aload_n 0, 1)) rfl
theorem x_133_320 : Ev d 133 320 (a0 :: a1 :: a2 :: .int x :: L) st μ Q = Ev d 133 321 (a0 :: a1 :: a2 :: .int x :: L) (.int x :: st) μ Q := e_iload_n (by decide +kernel : decode (bOf 133) 320 = .ok (.iload_n 3, 1)) rfl
theorem x_133_321 : Ev d 133 321 L st μ Q = Ev d 133 322 L (.int (iI 1) :: st) μ Q := e_iconst (by decide +kernel : decode (bOf 133) 321 = .ok (.iconst 1, 1))
theorem x_133_322 : Ev d 133 322 L (.int y :: .int x :: st) μ Q = Ev d 133 323 L (.int (x + y) :: st) μ Q := e_iadd (by decide +kernel : decode (bOf 133) 322 = .ok (.iadd, 1))
theorem x_133_323 (h : kd t r = 10) (hi : inB x (ln t r) = true) : Ev d 133 323 L (.int x :: .ref r :: st) (t, V, A, P) Q = Ev d 133 324 L (.int (A r x.toNatClampNeg) :: st) (t, V, A, P) Q := e_iald_ro (by decide +kernel : decode (bOf 133) 323 = .ok (.iaload, 1)) h hi
theorem x_133_324 (h : kd t r = 5) : Ev d 133 324 L [b0, .ref r, s0] (t, V, A, P) Q = Call d 104 [.ref r, b0] (t, V, A, P) (fun v μ1 => Ev d 133 327 L (v.toList ++ [s0]) μ1 Q) := e_callV (a := [b0]) (r := [s0]) (by decide +kernel : decode (bOf 133) 324 = .ok (.invokevirtual 55, 3)) (by decide +kernel) (by decide +kernel) (by decide +kernel) (by omega) rfl (by simp) (by decide +kernel) h
theorem x_133_327 : Ev d 133 327 L (.int y :: .int x :: st) μ Q = if x = y then Ev d 133 655 L st μ Q else Ev d 133 330 L st μ Q := e_icmp_eq (by decide +kernel : decode (bOf 133) 327 = .ok (.if_icmp .eq 328, 3)) (by omega)
theorem x_133_330 : Ev d 133 330 L st μ Q = Ev d 133 331 L (.int (iI 0) :: st) μ Q := e_iconst (by decide +kernel : decode (bOf 133) 330 = .ok (.iconst 0, 1))
theorem x_133_331 (hx : isB x) : Ev d 133 331 L [.int x] μ Q = Q (some (.int x)) μ := e_zret (by decide +kernel : decode (bOf 133) 331 = .ok (.ireturn, 1)) (by decide +kernel) hx
theorem x_133_332 : Ev d 133 332 (a0 :: .ref r :: L) st μ Q = Ev d 133 333 (a0 :: .ref r :: L) (.ref r :: st) μ Q := e_aload_n (by decide +kernel : decode (bOf 133) 332 = .ok (.aload_n 1, 1)) rfl
theorem x_133_333 : Ev d 133 333 (.ref r :: L) st μ Q = Ev d 133 334 (.ref r :: L) (.ref r :: st) μ Q := e_aload_n (by decide +kernel : decode (bOf 133) 333 = .ok (.aload_n 0, 1)) rfl
theorem x_133_334 : Ev d 133 334 (a0 :: a1 :: a2 :: .int x :: L) st μ Q = Ev d 133 335 (a0 :: a1 :: a2 :: .int x :: L) (.int x :: st) μ Q := e_iload_n (by decide +kernel : decode (bOf 133) 334 = .ok (.iload_n 3, 1)) rfl
theorem x_133_335 : Ev d 133 335 L st μ Q = Ev d 133 336 L (.int (iI 1) :: st) μ Q := e_iconst (by decide +kernel : decode (bOf 133) 335 = .ok (.iconst 1, 1))
theorem x_133_336 : Ev d 133 336 L (.int y :: .int x :: st) μ Q = Ev d 133 337 L (.int (x + y) :: st) μ Q := e_iadd (by decide +kernel : decode (bOf 133) 336 = .ok (.iadd, 1))
theorem x_133_337 (h : kd t r = 10) (hi : inB x (ln t r) = true) : Ev d 133 337 L (.int x :: .ref r :: st) (t, V, A, P) Q = Ev d 133 338 L (.int (A r x.toNatClampNeg) :: st) (t, V, A, P) Q := e_iald_ro (by decide +kernel : decode (bOf 133) 337 = .ok (.iaload, 1)) h hi
theorem x_133_338 (h : kd t r = 4) : Ev d 133 338 L [b0, .ref r] (t, V, A, P) Q = Call d 54 [.ref r, b0] (t, V, A, P) (fun v μ1 => Ev d 133 341 L (v.toList ++ []) μ1 Q) := e_callV (a := [b0]) (r := []) (by decide +kernel : decode (bOf 133) 338 = .ok (.invokevirtual 56, 3)) (by decide +kernel) (by decide +kernel) (by decide +kernel) (by omega) rfl (by simp) (by decide +kernel) h
theorem x_133_341 : Ev d 133 341 (a0 :: a1 :: .ref r :: L) st μ Q = Ev d 133 342 (a0 :: a1 :: .ref r :: L) (.ref r :: st) μ Q := e_aload_n (by decide +kernel : decode (bOf 133) 341 = .ok (.aload_n 2, 1)) rfl
theorem x_133_342 : Ev d 133 342 (.ref r :: L) st μ Q = Ev d 133 343 (.ref r :: L) (.ref r :: st) μ Q := e_aload_n (by decide +kernel : decode (bOf 133) 342 = .ok (.aload_n 0, 1)) rfl
theorem x_133_343 : Ev d 133 343 (a0 :: a1 :: a2 :: .int x :: L) st μ Q = Ev d 133 344 (a0 :: a1 :: a2 :: .int x :: L) (.int x :: st) μ Q := e_iload_n (by decide +kernel : decode (bOf 133) 343 = .ok (.iload_n 3, 1)) rfl
theorem x_133_344 : Ev d 133 344 L st μ Q = Ev d 133 345 L (.int (iI 1) :: st) μ Q := e_iconst (by decide +kernel : decode (bOf 133) 344 = .ok (.iconst 1, 1))
theorem x_133_345 : Ev d 133 345 L (.int y :: .int x :: st) μ Q = Ev d 133 346 L (.int (x + y) :: st) μ Q := e_iadd (by decide +kernel : decode (bOf 133) 345 = .ok (.iadd, 1))
theorem x_133_346 (h : kd t r = 10) (hi : inB x (ln t r) = true) : Ev d 133 346 L (.int x :: .ref r :: st) (t, V, A, P) Q = Ev d 133 347 L (.int (A r x.toNatClampNeg) :: st) (t, V, A, P) Q := e_iald_ro (by decide +kernel : decode (bOf 133) 346 = .ok (.iaload, 1)) h hi
theorem x_133_347 (h : kd t r = 5) : Ev d 133 347 L [b0, .ref r, s0] (t, V, A, P) Q = Call d 105 [.ref r, b0] (t, V, A, P) (fun v μ1 => Ev d 133 350 L (v.toList ++ [s0]) μ1 Q) := e_callV (a := [b0]) (r := [s0]) (by decide +kernel : decode (bOf 133) 347 = .ok (.invokevirtual 59, 3)) (by decide +kernel) (by decide +kernel) (by decide +kernel) (by omega) rfl (by simp) (by decide +kernel) h
theorem x_133_350 : Ev d 133 350 L (.int y :: .int x :: st) μ Q = if x = y then Ev d 133 655 L st μ Q else Ev d 133 353 L st μ Q := e_icmp_eq (by decide +kernel : decode (bOf 133) 350 = .ok (.if_icmp .eq 305, 3)) (by omega)
theorem x_133_353 : Ev d 133 353 L st μ Q = Ev d 133 354 L (.int (iI 0) :: st) μ Q := e_iconst (by decide +kernel : decode (bOf 133) 353 = .ok (.iconst 0, 1))
theorem x_133_354 (hx : isB x) : Ev d 133 354 L [.int x] μ Q = Q (some (.int x)) μ := e_zret (by decide +kernel : decode (bOf 133) 354 = .ok (.ireturn, 1)) (by decide +kernel) hx
theorem x_133_355 : Ev d 133 355 (a0 :: .ref r :: L) st μ Q = Ev d 133 356 (a0 :: .ref r :: L) (.ref r :: st) μ Q := e_aload_n (by decide +kernel : decode (bOf 133) 355 = .ok (.aload_n 1, 1)) rfl
theorem x_133_356 : Ev d 133 356 (.ref r :: L) st μ Q = Ev d 133 357 (.ref r :: L) (.ref r :: st) μ Q := e_aload_n (by decide +kernel : decode (bOf 133) 356 = .ok (.aload_n 0, 1)) rfl
theorem x_133_357 : Ev d 133 357 (a0 :: a1 :: a2 :: .int x :: L) st μ Q = Ev d 133 358 (a0 :: a1 :: a2 :: .int x :: L) (.int x :: st) μ Q := e_iload_n (by decide +kernel : decode (bOf 133) 357 = .ok (.iload_n 3, 1)) rfl
theorem x_133_358 : Ev d 133 358 L st μ Q = Ev d 133 359 L (.int (iI 1) :: st) μ Q := e_iconst (by decide +kernel : decode (bOf 133) 358 = .ok (.iconst 1, 1))
theorem x_133_359 : Ev d 133 359 L (.int y :: .int x :: st) μ Q = Ev d 133 360 L (.int (x + y) :: st) μ Q := e_iadd (by decide +kernel : decode (bOf 133) 359 = .ok (.iadd, 1))
theorem x_133_360 (h : kd t r = 10) (hi : inB x (ln t r) = true) : Ev d 133 360 L (.int x :: .ref r :: st) (t, V, A, P) Q = Ev d 133 361 L (.int (A r x.toNatClampNeg) :: st) (t, V, A, P) Q := e_iald_ro (by decide +kernel : decode (bOf 133) 360 = .ok (.iaload, 1)) h hi
theorem x_133_361 (h : kd t r = 4) : Ev d 133 361 L [b0, .ref r] (t, V, A, P) Q = Call d 55 [.ref r, b0] (t, V, A, P) (fun v μ1 => Ev d 133 364 L (v.toList ++ []) μ1 Q) := e_callV (a := [b0]) (r := []) (by decide +kernel : decode (bOf 133) 361 = .ok (.invokevirtual 60, 3)) (by decide +kernel) (by decide +kernel) (by decide +kernel) (by omega) rfl (by simp) (by decide +kernel) h
theorem x_133_364 : Ev d 133 364 (a0 :: a1 :: .ref r :: L) st μ Q = Ev d 133 365 (a0 :: a1 :: .ref r :: L) (.ref r :: st) μ Q := e_aload_n (by decide +kernel : decode (bOf 133) 364 = .ok (.aload_n 2, 1)) rfl
theorem x_133_365 : Ev d 133 365 (.ref r :: L) st μ Q = Ev d 133 366 (.ref r :: L) (.ref r :: st) μ Q := e_aload_n (by decide +kernel : decode (bOf 133) 365 = .ok (.aload_n 0, 1)) rfl
theorem x_133_366 : Ev d 133 366 (a0 :: a1 :: a2 :: .int x :: L) st μ Q = Ev d 133 367 (a0 :: a1 :: a2 :: .int x :: L) (.int x :: st) μ Q := e_iload_n (by decide +kernel : decode (bOf 133) 366 = .ok (.iload_n 3, 1)) rfl
theorem x_133_367 : Ev d 133 367 L st μ Q = Ev d 133 368 L (.int (iI 1) :: st) μ Q := e_iconst (by decide +kernel : decode (bOf 133) 367 = .ok (.iconst 1, 1))
theorem x_133_368 : Ev d 133 368 L (.int y :: .int x :: st) μ Q = Ev d 133 369 L (.int (x + y) :: st) μ Q := e_iadd (by decide +kernel : decode (bOf 133) 368 = .ok (.iadd, 1))
theorem x_133_369 (h : kd t r = 10) (hi : inB x (ln t r) = true) : Ev d 133 369 L (.int x :: .ref r :: st) (t, V, A, P) Q = Ev d 133 370 L (.int (A r x.toNatClampNeg) :: st) (t, V, A, P) Q := e_iald_ro (by decide +kernel : decode (bOf 133) 369 = .ok (.iaload, 1)) h hi
theorem x_133_370 (h : kd t r = 5) : Ev d 133 370 L [b0, .ref r, s0] (t, V, A, P) Q = Call d 106 [.ref r, b0] (t, V, A, P) (fun v μ1 => Ev d 133 373 L (v.toList ++ [s0]) μ1 Q) := e_callV (a := [b0]) (r := [s0]) (by decide +kernel : decode (bOf 133) 370 = .ok (.invokevirtual 63, 3)) (by decide +kernel) (by decide +kernel) (by decide +kernel) (by omega) rfl (by simp) (by decide +kernel) h
theorem x_133_373 : Ev d 133 373 L (.int y :: .int x :: st) μ Q = if x = y then Ev d 133 655 L st μ Q else Ev d 133 376 L st μ Q := e_icmp_eq (by decide +kernel : decode (bOf 133) 373 = .ok (.if_icmp .eq 282, 3)) (by omega)
theorem x_133_376 : Ev d 133 376 L st μ Q = Ev d 133 377 L (.int (iI 0) :: st) μ Q := e_iconst (by decide +kernel : decode (bOf 133) 376 = .ok (.iconst 0, 1))
theorem x_133_377 (hx : isB x) : Ev d 133 377 L [.int x] μ Q = Q (some (.int x)) μ := e_zret (by decide +kernel : decode (bOf 133) 377 = .ok (.ireturn, 1)) (by decide +kernel) hx
theorem x_133_378 : Ev d 133 378 (a0 :: .ref r :: L) st μ Q = Ev d 133 379 (a0 :: .ref r :: L) (.ref r :: st) μ Q := e_aload_n (by decide +kernel : decode (bOf 133) 378 = .ok (.aload_n 1, 1)) rfl
theorem x_133_379 : Ev d 133 379 (.ref r :: L) st μ Q = Ev d 133 380 (.ref r :: L) (.ref r :: st) μ Q := e_aload_n (by decide +kernel : decode (bOf 133) 379 = .ok (.aload_n 0, 1)) rfl
theorem x_133_380 : Ev d 133 380 (a0 :: a1 :: a2 :: .int x :: L) st μ Q = Ev d 133 381 (a0 :: a1 :: a2 :: .int x :: L) (.int x :: st) μ Q := e_iload_n (by decide +kernel : decode (bOf 133) 380 = .ok (.iload_n 3, 1)) rfl
theorem x_133_381 : Ev d 133 381 L st μ Q = Ev d 133 382 L (.int (iI 1) :: st) μ Q := e_iconst (by decide +kernel : decode (bOf 133) 381 = .ok (.iconst 1, 1))
theorem x_133_382 : Ev d 133 382 L (.int y :: .int x :: st) μ Q = Ev d 133 383 L (.int (x + y) :: st) μ Q := e_iadd (by decide +kernel : decode (bOf 133) 382 = .ok (.iadd, 1))
theorem x_133_383 (h : kd t r = 10) (hi : inB x (ln t r) = true) : Ev d 133 383 L (.int x :: .ref r :: st) (t, V, A, P) Q = Ev d 133 384 L (.int (A r x.toNatClampNeg) :: st) (t, V, A, P) Q := e_iald_ro (by decide +kernel : decode (bOf 133) 383 = .ok (.iaload, 1)) h hi
theorem x_133_384 : Ev d 133 384 (.ref r :: L) st μ Q = Ev d 133 385 (.ref r :: L) (.ref r :: st) μ Q := e_aload_n (by decide +kernel : decode (bOf 133) 384 = .ok (.aload_n 0, 1)) rfl
theorem x_133_385 : Ev d 133 385 (a0 :: a1 :: a2 :: .int x :: L) st μ Q = Ev d 133 386 (a0 :: a1 :: a2 :: .int x :: L) (.int x :: st) μ Q := e_iload_n (by decide +kernel : decode (bOf 133) 385 = .ok (.iload_n 3, 1)) rfl
theorem x_133_386 : Ev d 133 386 L st μ Q = Ev d 133 387 L (.int (iI 2) :: st) μ Q := e_iconst (by decide +kernel : decode (bOf 133) 386 = .ok (.iconst 2, 1))
theorem x_133_387 : Ev d 133 387 L (.int y :: .int x :: st) μ Q = Ev d 133 388 L (.int (x + y) :: st) μ Q := e_iadd (by decide +kernel : decode (bOf 133) 387 = .ok (.iadd, 1))
theorem x_133_388 (h : kd t r = 10) (hi : inB x (ln t r) = true) : Ev d 133 388 L (.int x :: .ref r :: st) (t, V, A, P) Q = Ev d 133 389 L (.int (A r x.toNatClampNeg) :: st) (t, V, A, P) Q := e_iald_ro (by decide +kernel : decode (bOf 133) 388 = .ok (.iaload, 1)) h hi
theorem x_133_389 : Ev d 133 389 (.ref r :: L) st μ Q = Ev d 133 390 (.ref r :: L) (.ref r :: st) μ Q := e_aload_n (by decide +kernel : decode (bOf 133) 389 = .ok (.aload_n 0, 1)) rfl
theorem x_133_390 : Ev d 133 390 (a0 :: a1 :: a2 :: .int x :: L) st μ Q = Ev d 133 391 (a0 :: a1 :: a2 :: .int x :: L) (.int x :: st) μ Q := e_iload_n (by decide +kernel : decode (bOf 133) 390 = .ok (.iload_n 3, 1)) rfl
theorem x_133_391 : Ev d 133 391 L st μ Q = Ev d 133 392 L (.int (iI 3) :: st) μ Q := e_iconst (by decide +kernel : decode (bOf 133) 391 = .ok (.iconst 3, 1))
theorem x_133_392 : Ev d 133 392 L (.int y :: .int x :: st) μ Q = Ev d 133 393 L (.int (x + y) :: st) μ Q := e_iadd (by decide +kernel : decode (bOf 133) 392 = .ok (.iadd, 1))
theorem x_133_393 (h : kd t r = 10) (hi : inB x (ln t r) = true) : Ev d 133 393 L (.int x :: .ref r :: st) (t, V, A, P) Q = Ev d 133 394 L (.int (A r x.toNatClampNeg) :: st) (t, V, A, P) Q := e_iald_ro (by decide +kernel : decode (bOf 133) 393 = .ok (.iaload, 1)) h hi
theorem x_133_394 : Ev d 133 394 (.ref r :: L) st μ Q = Ev d 133 395 (.ref r :: L) (.ref r :: st) μ Q := e_aload_n (by decide +kernel : decode (bOf 133) 394 = .ok (.aload_n 0, 1)) rfl
theorem x_133_395 : Ev d 133 395 (a0 :: a1 :: a2 :: .int x :: L) st μ Q = Ev d 133 396 (a0 :: a1 :: a2 :: .int x :: L) (.int x :: st) μ Q := e_iload_n (by decide +kernel : decode (bOf 133) 395 = .ok (.iload_n 3, 1)) rfl
theorem x_133_396 : Ev d 133 396 L st μ Q = Ev d 133 397 L (.int (iI 4) :: st) μ Q := e_iconst (by decide +kernel : decode (bOf 133) 396 = .ok (.iconst 4, 1))
theorem x_133_397 : Ev d 133 397 L (.int y :: .int x :: st) μ Q = Ev d 133 398 L (.int (x + y) :: st) μ Q := e_iadd (by decide +kernel : decode (bOf 133) 397 = .ok (.iadd, 1))
theorem x_133_398 (h : kd t r = 10) (hi : inB x (ln t r) = true) : Ev d 133 398 L (.int x :: .ref r :: st) (t, V, A, P) Q = Ev d 133 399 L (.int (A r x.toNatClampNeg) :: st) (t, V, A, P) Q := e_iald_ro (by decide +kernel : decode (bOf 133) 398 = .ok (.iaload, 1)) h hi
theorem x_133_399 (h : kd t r = 4) : Ev d 133 399 L [b3, b2, b1, b0, .ref r] (t, V, A, P) Q = Call d 56 [.ref r, b0, b1, b2, b3] (t, V, A, P) (fun v μ1 => Ev d 133 402 L (v.toList ++ []) μ1 Q) := e_callV (a := [b0, b1, b2, b3]) (r := []) (by decide +kernel : decode (bOf 133) 399 = .ok (.invokevirtual 64, 3)) (by decide +kernel) (by decide +kernel) (by decide +kernel) (by omega) rfl (by simp) (by decide +kernel) h
theorem x_133_402 : Ev d 133 402 (a0 :: a1 :: .ref r :: L) st μ Q = Ev d 133 403 (a0 :: a1 :: .ref r :: L) (.ref r :: st) μ Q := e_aload_n (by decide +kernel : decode (bOf 133) 402 = .ok (.aload_n 2, 1)) rfl
theorem x_133_403 : Ev d 133 403 (.ref r :: L) st μ Q = Ev d 133 404 (.ref r :: L) (.ref r :: st) μ Q := e_aload_n (by decide +kernel : decode (bOf 133) 403 = .ok (.aload_n 0, 1)) rfl
theorem x_133_404 : Ev d 133 404 (a0 :: a1 :: a2 :: .int x :: L) st μ Q = Ev d 133 405 (a0 :: a1 :: a2 :: .int x :: L) (.int x :: st) μ Q := e_iload_n (by decide +kernel : decode (bOf 133) 404 = .ok (.iload_n 3, 1)) rfl
theorem x_133_405 : Ev d 133 405 L st μ Q = Ev d 133 406 L (.int (iI 1) :: st) μ Q := e_iconst (by decide +kernel : decode (bOf 133) 405 = .ok (.iconst 1, 1))
theorem x_133_406 : Ev d 133 406 L (.int y :: .int x :: st) μ Q = Ev d 133 407 L (.int (x + y) :: st) μ Q := e_iadd (by decide +kernel : decode (bOf 133) 406 = .ok (.iadd, 1))
theorem x_133_407 (h : kd t r = 10) (hi : inB x (ln t r) = true) : Ev d 133 407 L (.int x :: .ref r :: st) (t, V, A, P) Q = Ev d 133 408 L (.int (A r x.toNatClampNeg) :: st) (t, V, A, P) Q := e_iald_ro (by decide +kernel : decode (bOf 133) 407 = .ok (.iaload, 1)) h hi
theorem x_133_408 : Ev d 133 408 (.ref r :: L) st μ Q = Ev d 133 409 (.ref r :: L) (.ref r :: st) μ Q := e_aload_n (by decide +kernel : decode (bOf 133) 408 = .ok (.aload_n 0, 1)) rfl
theorem x_133_409 : Ev d 133 409 (a0 :: a1 :: a2 :: .int x :: L) st μ Q = Ev d 133 410 (a0 :: a1 :: a2 :: .int x :: L) (.int x :: st) μ Q := e_iload_n (by decide +kernel : decode (bOf 133) 409 = .ok (.iload_n 3, 1)) rfl
theorem x_133_410 : Ev d 133 410 L st μ Q = Ev d 133 411 L (.int (iI 2) :: st) μ Q := e_iconst (by decide +kernel : decode (bOf 133) 410 = .ok (.iconst 2, 1))
theorem x_133_411 : Ev d 133 411 L (.int y :: .int x :: st) μ Q = Ev d 133 412 L (.int (x + y) :: st) μ Q := e_iadd (by decide +kernel : decode (bOf 133) 411 = .ok (.iadd, 1))
theorem x_133_412 (h : kd t r = 10) (hi : inB x (ln t r) = true) : Ev d 133 412 L (.int x :: .ref r :: st) (t, V, A, P) Q = Ev d 133 413 L (.int (A r x.toNatClampNeg) :: st) (t, V, A, P) Q := e_iald_ro (by decide +kernel : decode (bOf 133) 412 = .ok (.iaload, 1)) h hi
theorem x_133_413 : Ev d 133 413 (.ref r :: L) st μ Q = Ev d 133 414 (.ref r :: L) (.ref r :: st) μ Q := e_aload_n (by decide +kernel : decode (bOf 133) 413 = .ok (.aload_n 0, 1)) rfl
theorem x_133_414 : Ev d 133 414 (a0 :: a1 :: a2 :: .int x :: L) st μ Q = Ev d 133 415 (a0 :: a1 :: a2 :: .int x :: L) (.int x :: st) μ Q := e_iload_n (by decide +kernel : decode (bOf 133) 414 = .ok (.iload_n 3, 1)) rfl
theorem x_133_415 : Ev d 133 415 L st μ Q = Ev d 133 416 L (.int (iI 3) :: st) μ Q := e_iconst (by decide +kernel : decode (bOf 133) 415 = .ok (.iconst 3, 1))
theorem x_133_416 : Ev d 133 416 L (.int y :: .int x :: st) μ Q = Ev d 133 417 L (.int (x + y) :: st) μ Q := e_iadd (by decide +kernel : decode (bOf 133) 416 = .ok (.iadd, 1))
theorem x_133_417 (h : kd t r = 10) (hi : inB x (ln t r) = true) : Ev d 133 417 L (.int x :: .ref r :: st) (t, V, A, P) Q = Ev d 133 418 L (.int (A r x.toNatClampNeg) :: st) (t, V, A, P) Q := e_iald_ro (by decide +kernel : decode (bOf 133) 417 = .ok (.iaload, 1)) h hi
theorem x_133_418 : Ev d 133 418 (.ref r :: L) st μ Q = Ev d 133 419 (.ref r :: L) (.ref r :: st) μ Q := e_aload_n (by decide +kernel : decode (bOf 133) 418 = .ok (.aload_n 0, 1)) rfl
theorem x_133_419 : Ev d 133 419 (a0 :: a1 :: a2 :: .int x :: L) st μ Q = Ev d 133 420 (a0 :: a1 :: a2 :: .int x :: L) (.int x :: st) μ Q := e_iload_n (by decide +kernel : decode (bOf 133) 419 = .ok (.iload_n 3, 1)) rfl
theorem x_133_420 : Ev d 133 420 L st μ Q = Ev d 133 421 L (.int (iI 4) :: st) μ Q := e_iconst (by decide +kernel : decode (bOf 133) 420 = .ok (.iconst 4, 1))
theorem x_133_421 : Ev d 133 421 L (.int y :: .int x :: st) μ Q = Ev d 133 422 L (.int (x + y) :: st) μ Q := e_iadd (by decide +kernel : decode (bOf 133) 421 = .ok (.iadd, 1))
theorem x_133_422 (h : kd t r = 10) (hi : inB x (ln t r) = true) : Ev d 133 422 L (.int x :: .ref r :: st) (t, V, A, P) Q = Ev d 133 423 L (.int (A r x.toNatClampNeg) :: st) (t, V, A, P) Q := e_iald_ro (by decide +kernel : decode (bOf 133) 422 = .ok (.iaload, 1)) h hi
theorem x_133_423 (h : kd t r = 5) : Ev d 133 423 L [b3, b2, b1, b0, .ref r, s0] (t, V, A, P) Q = Call d 112 [.ref r, b0, b1, b2, b3] (t, V, A, P) (fun v μ1 => Ev d 133 426 L (v.toList ++ [s0]) μ1 Q) := e_callV (a := [b0, b1, b2, b3]) (r := [s0]) (by decide +kernel : decode (bOf 133) 423 = .ok (.invokevirtual 68, 3)) (by decide +kernel) (by decide +kernel) (by decide +kernel) (by omega) rfl (by simp) (by decide +kernel) h
theorem x_133_426 : Ev d 133 426 L (.int y :: .int x :: st) μ Q = if x = y then Ev d 133 655 L st μ Q else Ev d 133 429 L st μ Q := e_icmp_eq (by decide +kernel : decode (bOf 133) 426 = .ok (.if_icmp .eq 229, 3)) (by omega)
theorem x_133_429 : Ev d 133 429 L st μ Q = Ev d 133 430 L (.int (iI 0) :: st) μ Q := e_iconst (by decide +kernel : decode (bOf 133) 429 = .ok (.iconst 0, 1))
theorem x_133_430 (hx : isB x) : Ev d 133 430 L [.int x] μ Q = Q (some (.int x)) μ := e_zret (by decide +kernel : decode (bOf 133) 430 = .ok (.ireturn, 1)) (by decide +kernel) hx
theorem x_133_431 : Ev d 133 431 (a0 :: .ref r :: L) st μ Q = Ev d 133 432 (a0 :: .ref r :: L) (.ref r :: st) μ Q := e_aload_n (by decide +kernel : decode (bOf 133) 431 = .ok (.aload_n 1, 1)) rfl
theorem x_133_432 : Ev d 133 432 (.ref r :: L) st μ Q = Ev d 133 433 (.ref r :: L) (.ref r :: st) μ Q := e_aload_n (by decide +kernel : decode (bOf 133) 432 = .ok (.aload_n 0, 1)) rfl
theorem x_133_433 : Ev d 133 433 (a0 :: a1 :: a2 :: .int x :: L) st μ Q = Ev d 133 434 (a0 :: a1 :: a2 :: .int x :: L) (.int x :: st) μ Q := e_iload_n (by decide +kernel : decode (bOf 133) 433 = .ok (.iload_n 3, 1)) rfl
theorem x_133_434 : Ev d 133 434 L st μ Q = Ev d 133 435 L (.int (iI 1) :: st) μ Q := e_iconst (by decide +kernel : decode (bOf 133) 434 = .ok (.iconst 1, 1))
theorem x_133_435 : Ev d 133 435 L (.int y :: .int x :: st) μ Q = Ev d 133 436 L (.int (x + y) :: st) μ Q := e_iadd (by decide +kernel : decode (bOf 133) 435 = .ok (.iadd, 1))
theorem x_133_436 (h : kd t r = 10) (hi : inB x (ln t r) = true) : Ev d 133 436 L (.int x :: .ref r :: st) (t, V, A, P) Q = Ev d 133 437 L (.int (A r x.toNatClampNeg) :: st) (t, V, A, P) Q := e_iald_ro (by decide +kernel : decode (bOf 133) 436 = .ok (.iaload, 1)) h hi
theorem x_133_437 : Ev d 133 437 (.ref r :: L) st μ Q = Ev d 133 438 (.ref r :: L) (.ref r :: st) μ Q := e_aload_n (by decide +kernel : decode (bOf 133) 437 = .ok (.aload_n 0, 1)) rfl
theorem x_133_438 : Ev d 133 438 (a0 :: a1 :: a2 :: .int x :: L) st μ Q = Ev d 133 439 (a0 :: a1 :: a2 :: .int x :: L) (.int x :: st) μ Q := e_iload_n (by decide +kernel : decode (bOf 133) 438 = .ok (.iload_n 3, 1)) rfl
theorem x_133_439 : Ev d 133 439 L st μ Q = Ev d 133 440 L (.int (iI 2) :: st) μ Q := e_iconst (by decide +kernel : decode (bOf 133) 439 = .ok (.iconst 2, 1))
theorem x_133_440 : Ev d 133 440 L (.int y :: .int x :: st) μ Q = Ev d 133 441 L (.int (x + y) :: st) μ Q := e_iadd (by decide +kernel : decode (bOf 133) 440 = .ok (.iadd, 1))
theorem x_133_441 (h : kd t r = 10) (hi : inB x (ln t r) = true) : Ev d 133 441 L (.int x :: .ref r :: st) (t, V, A, P) Q = Ev d 133 442 L (.int (A r x.toNatClampNeg) :: st) (t, V, A, P) Q := e_iald_ro (by decide +kernel : decode (bOf 133) 441 = .ok (.iaload, 1)) h hi
theorem x_133_442 : Ev d 133 442 (.ref r :: L) st μ Q = Ev d 133 443 (.ref r :: L) (.ref r :: st) μ Q := e_aload_n (by decide +kernel : decode (bOf 133) 442 = .ok (.aload_n 0, 1)) rfl
theorem x_133_443 : Ev d 133 443 (a0 :: a1 :: a2 :: .int x :: L) st μ Q = Ev d 133 444 (a0 :: a1 :: a2 :: .int x :: L) (.int x :: st) μ Q := e_iload_n (by decide +kernel : decode (bOf 133) 443 = .ok (.iload_n 3, 1)) rfl
theorem x_133_444 : Ev d 133 444 L st μ Q = Ev d 133 445 L (.int (iI 3) :: st) μ Q := e_iconst (by decide +kernel : decode (bOf 133) 444 = .ok (.iconst 3, 1))
theorem x_133_445 : Ev d 133 445 L (.int y :: .int x :: st) μ Q = Ev d 133 446 L (.int (x + y) :: st) μ Q := e_iadd (by decide +kernel : decode (bOf 133) 445 = .ok (.iadd, 1))
theorem x_133_446 (h : kd t r = 10) (hi : inB x (ln t r) = true) : Ev d 133 446 L (.int x :: .ref r :: st) (t, V, A, P) Q = Ev d 133 447 L (.int (A r x.toNatClampNeg) :: st) (t, V, A, P) Q := e_iald_ro (by decide +kernel : decode (bOf 133) 446 = .ok (.iaload, 1)) h hi
theorem x_133_447 (h : kd t r = 4) : Ev d 133 447 L [b2, b1, b0, .ref r] (t, V, A, P) Q = Call d 57 [.ref r, b0, b1, b2] (t, V, A, P) (fun v μ1 => Ev d 133 450 L (v.toList ++ []) μ1 Q) := e_callV (a := [b0, b1, b2]) (r := []) (by decide +kernel : decode (bOf 133) 447 = .ok (.invokevirtual 69, 3)) (by decide +kernel) (by decide +kernel) (by decide +kernel) (by omega) rfl (by simp) (by decide +kernel) h
theorem x_133_450 : Ev d 133 450 (a0 :: a1 :: .ref r :: L) st μ Q = Ev d 133 451 (a0 :: a1 :: .ref r :: L) (.ref r :: st) μ Q := e_aload_n (by decide +kernel : decode (bOf 133) 450 = .ok (.aload_n 2, 1)) rfl
theorem x_133_451 : Ev d 133 451 (.ref r :: L) st μ Q = Ev d 133 452 (.ref r :: L) (.ref r :: st) μ Q := e_aload_n (by decide +kernel : decode (bOf 133) 451 = .ok (.aload_n 0, 1)) rfl
theorem x_133_452 : Ev d 133 452 (a0 :: a1 :: a2 :: .int x :: L) st μ Q = Ev d 133 453 (a0 :: a1 :: a2 :: .int x :: L) (.int x :: st) μ Q := e_iload_n (by decide +kernel : decode (bOf 133) 452 = .ok (.iload_n 3, 1)) rfl
theorem x_133_453 : Ev d 133 453 L st μ Q = Ev d 133 454 L (.int (iI 1) :: st) μ Q := e_iconst (by decide +kernel : decode (bOf 133) 453 = .ok (.iconst 1, 1))
theorem x_133_454 : Ev d 133 454 L (.int y :: .int x :: st) μ Q = Ev d 133 455 L (.int (x + y) :: st) μ Q := e_iadd (by decide +kernel : decode (bOf 133) 454 = .ok (.iadd, 1))
theorem x_133_455 (h : kd t r = 10) (hi : inB x (ln t r) = true) : Ev d 133 455 L (.int x :: .ref r :: st) (t, V, A, P) Q = Ev d 133 456 L (.int (A r x.toNatClampNeg) :: st) (t, V, A, P) Q := e_iald_ro (by decide +kernel : decode (bOf 133) 455 = .ok (.iaload, 1)) h hi
theorem x_133_456 : Ev d 133 456 (.ref r :: L) st μ Q = Ev d 133 457 (.ref r :: L) (.ref r :: st) μ Q := e_aload_n (by decide +kernel : decode (bOf 133) 456 = .ok (.aload_n 0, 1)) rfl
theorem x_133_457 : Ev d 133 457 (a0 :: a1 :: a2 :: .int x :: L) st μ Q = Ev d 133 458 (a0 :: a1 :: a2 :: .int x :: L) (.int x :: st) μ Q := e_iload_n (by decide +kernel : decode (bOf 133) 457 = .ok (.iload_n 3, 1)) rfl
theorem x_133_458 : Ev d 133 458 L st μ Q = Ev d 133 459 L (.int (iI 2) :: st) μ Q := e_iconst (by decide +kernel : decode (bOf 133) 458 = .ok (.iconst 2, 1))
theorem x_133_459 : Ev d 133 459 L (.int y :: .int x :: st) μ Q = Ev d 133 460 L (.int (x + y) :: st) μ Q := e_iadd (by decide +kernel : decode (bOf 133) 459 = .ok (.iadd, 1))
theorem x_133_460 (h : kd t r = 10) (hi : inB x (ln t r) = true) : Ev d 133 460 L (.int x :: .ref r :: st) (t, V, A, P) Q = Ev d 133 461 L (.int (A r x.toNatClampNeg) :: st) (t, V, A, P) Q := e_iald_ro (by decide +kernel : decode (bOf 133) 460 = .ok (.iaload, 1)) h hi
theorem x_133_461 : Ev d 133 461 (.ref r :: L) st μ Q = Ev d 133 462 (.ref r :: L) (.ref r :: st) μ Q := e_aload_n (by decide +kernel : decode (bOf 133) 461 = .ok (.aload_n 0, 1)) rfl
theorem x_133_462 : Ev d 133 462 (a0 :: a1 :: a2 :: .int x :: L) st μ Q = Ev d 133 463 (a0 :: a1 :: a2 :: .int x :: L) (.int x :: st) μ Q := e_iload_n (by decide +kernel : decode (bOf 133) 462 = .ok (.iload_n 3, 1)) rfl
theorem x_133_463 : Ev d 133 463 L st μ Q = Ev d 133 464 L (.int (iI 3) :: st) μ Q := e_iconst (by decide +kernel : decode (bOf 133) 463 = .ok (.iconst 3, 1))
theorem x_133_464 : Ev d 133 464 L (.int y :: .int x :: st) μ Q = Ev d 133 465 L (.int (x + y) :: st) μ Q := e_iadd (by decide +kernel : decode (bOf 133) 464 = .ok (.iadd, 1))
theorem x_133_465 (h : kd t r = 10) (hi : inB x (ln t r) = true) : Ev d 133 465 L (.int x :: .ref r :: st) (t, V, A, P) Q = Ev d 133 466 L (.int (A r x.toNatClampNeg) :: st) (t, V, A, P) Q := e_iald_ro (by decide +kernel : decode (bOf 133) 465 = .ok (.iaload, 1)) h hi
theorem x_133_466 (h : kd t r = 5) : Ev d 133 466 L [b2, b1, b0, .ref r, s0] (t, V, A, P) Q = Call d 114 [.ref r, b0, b1, b2] (t, V, A, P) (fun v μ1 => Ev d 133 469 L (v.toList ++ [s0]) μ1 Q) := e_callV (a := [b0, b1, b2]) (r := [s0]) (by decide +kernel : decode (bOf 133) 466 = .ok (.invokevirtual 73, 3)) (by decide +kernel) (by decide +kernel) (by decide +kernel) (by omega) rfl (by simp) (by decide +kernel) h
theorem x_133_469 : Ev d 133 469 L (.int y :: .int x :: st) μ Q = if x = y then Ev d 133 655 L st μ Q else Ev d 133 472 L st μ Q := e_icmp_eq (by decide +kernel : decode (bOf 133) 469 = .ok (.if_icmp .eq 186, 3)) (by omega)
theorem x_133_472 : Ev d 133 472 L st μ Q = Ev d 133 473 L (.int (iI 0) :: st) μ Q := e_iconst (by decide +kernel : decode (bOf 133) 472 = .ok (.iconst 0, 1))
theorem x_133_473 (hx : isB x) : Ev d 133 473 L [.int x] μ Q = Q (some (.int x)) μ := e_zret (by decide +kernel : decode (bOf 133) 473 = .ok (.ireturn, 1)) (by decide +kernel) hx
theorem x_133_474 : Ev d 133 474 (a0 :: .ref r :: L) st μ Q = Ev d 133 475 (a0 :: .ref r :: L) (.ref r :: st) μ Q := e_aload_n (by decide +kernel : decode (bOf 133) 474 = .ok (.aload_n 1, 1)) rfl
theorem x_133_475 : Ev d 133 475 (.ref r :: L) st μ Q = Ev d 133 476 (.ref r :: L) (.ref r :: st) μ Q := e_aload_n (by decide +kernel : decode (bOf 133) 475 = .ok (.aload_n 0, 1)) rfl
theorem x_133_476 : Ev d 133 476 (a0 :: a1 :: a2 :: .int x :: L) st μ Q = Ev d 133 477 (a0 :: a1 :: a2 :: .int x :: L) (.int x :: st) μ Q := e_iload_n (by decide +kernel : decode (bOf 133) 476 = .ok (.iload_n 3, 1)) rfl
theorem x_133_477 : Ev d 133 477 L st μ Q = Ev d 133 478 L (.int (iI 1) :: st) μ Q := e_iconst (by decide +kernel : decode (bOf 133) 477 = .ok (.iconst 1, 1))
theorem x_133_478 : Ev d 133 478 L (.int y :: .int x :: st) μ Q = Ev d 133 479 L (.int (x + y) :: st) μ Q := e_iadd (by decide +kernel : decode (bOf 133) 478 = .ok (.iadd, 1))
theorem x_133_479 (h : kd t r = 10) (hi : inB x (ln t r) = true) : Ev d 133 479 L (.int x :: .ref r :: st) (t, V, A, P) Q = Ev d 133 480 L (.int (A r x.toNatClampNeg) :: st) (t, V, A, P) Q := e_iald_ro (by decide +kernel : decode (bOf 133) 479 = .ok (.iaload, 1)) h hi
theorem x_133_480 (h : kd t r = 4) : Ev d 133 480 L [b0, .ref r] (t, V, A, P) Q = Call d 58 [.ref r, b0] (t, V, A, P) (fun v μ1 => Ev d 133 483 L (v.toList ++ []) μ1 Q) := e_callV (a := [b0]) (r := []) (by decide +kernel : decode (bOf 133) 480 = .ok (.invokevirtual 74, 3)) (by decide +kernel) (by decide +kernel) (by decide +kernel) (by omega) rfl (by simp) (by decide +kernel) h
theorem x_133_483 : Ev d 133 483 (a0 :: a1 :: .ref r :: L) st μ Q = Ev d 133 484 (a0 :: a1 :: .ref r :: L) (.ref r :: st) μ Q := e_aload_n (by decide +kernel : decode (bOf 133) 483 = .ok (.aload_n 2, 1)) rfl
theorem x_133_484 : Ev d 133 484 (.ref r :: L) st μ Q = Ev d 133 485 (.ref r :: L) (.ref r :: st) μ Q := e_aload_n (by decide +kernel : decode (bOf 133) 484 = .ok (.aload_n 0, 1)) rfl
theorem x_133_485 : Ev d 133 485 (a0 :: a1 :: a2 :: .int x :: L) st μ Q = Ev d 133 486 (a0 :: a1 :: a2 :: .int x :: L) (.int x :: st) μ Q := e_iload_n (by decide +kernel : decode (bOf 133) 485 = .ok (.iload_n 3, 1)) rfl
theorem x_133_486 : Ev d 133 486 L st μ Q = Ev d 133 487 L (.int (iI 1) :: st) μ Q := e_iconst (by decide +kernel : decode (bOf 133) 486 = .ok (.iconst 1, 1))
theorem x_133_487 : Ev d 133 487 L (.int y :: .int x :: st) μ Q = Ev d 133 488 L (.int (x + y) :: st) μ Q := e_iadd (by decide +kernel : decode (bOf 133) 487 = .ok (.iadd, 1))
theorem x_133_488 (h : kd t r = 10) (hi : inB x (ln t r) = true) : Ev d 133 488 L (.int x :: .ref r :: st) (t, V, A, P) Q = Ev d 133 489 L (.int (A r x.toNatClampNeg) :: st) (t, V, A, P) Q := e_iald_ro (by decide +kernel : decode (bOf 133) 488 = .ok (.iaload, 1)) h hi
theorem x_133_489 (h : kd t r = 5) : Ev d 133 489 L [b0, .ref r, s0] (t, V, A, P) Q = Call d 115 [.ref r, b0] (t, V, A, P) (fun v μ1 => Ev d 133 492 L (v.toList ++ [s0]) μ1 Q) := e_callV (a := [b0]) (r := [s0]) (by decide +kernel : decode (bOf 133) 489 = .ok (.invokevirtual 77, 3)) (by decide +kernel) (by decide +kernel) (by decide +kernel) (by omega) rfl (by simp) (by decide +kernel) h
theorem x_133_492 : Ev d 133 492 L (.int y :: .int x :: st) μ Q = if x = y then Ev d 133 655 L st μ Q else Ev d 133 495 L st μ Q := e_icmp_eq (by decide +kernel : decode (bOf 133) 492 = .ok (.if_icmp .eq 163, 3)) (by omega)
theorem x_133_495 : Ev d 133 495 L st μ Q = Ev d 133 496 L (.int (iI 0) :: st) μ Q := e_iconst (by decide +kernel : decode (bOf 133) 495 = .ok (.iconst 0, 1))
theorem x_133_496 (hx : isB x) : Ev d 133 496 L [.int x] μ Q = Q (some (.int x)) μ := e_zret (by decide +kernel : decode (bOf 133) 496 = .ok (.ireturn, 1)) (by decide +kernel) hx
theorem x_133_497 : Ev d 133 497 (a0 :: .ref r :: L) st μ Q = Ev d 133 498 (a0 :: .ref r :: L) (.ref r :: st) μ Q := e_aload_n (by decide +kernel : decode (bOf 133) 497 = .ok (.aload_n 1, 1)) rfl
theorem x_133_498 : Ev d 133 498 (.ref r :: L) st μ Q = Ev d 133 499 (.ref r :: L) (.ref r :: st) μ Q := e_aload_n (by decide +kernel : decode (bOf 133) 498 = .ok (.aload_n 0, 1)) rfl
theorem x_133_499 : Ev d 133 499 (a0 :: a1 :: a2 :: .int x :: L) st μ Q = Ev d 133 500 (a0 :: a1 :: a2 :: .int x :: L) (.int x :: st) μ Q := e_iload_n (by decide +kernel : decode (bOf 133) 499 = .ok (.iload_n 3, 1)) rfl
theorem x_133_500 : Ev d 133 500 L st μ Q = Ev d 133 501 L (.int (iI 1) :: st) μ Q := e_iconst (by decide +kernel : decode (bOf 133) 500 = .ok (.iconst 1, 1))
theorem x_133_501 : Ev d 133 501 L (.int y :: .int x :: st) μ Q = Ev d 133 502 L (.int (x + y) :: st) μ Q := e_iadd (by decide +kernel : decode (bOf 133) 501 = .ok (.iadd, 1))
theorem x_133_502 (h : kd t r = 10) (hi : inB x (ln t r) = true) : Ev d 133 502 L (.int x :: .ref r :: st) (t, V, A, P) Q = Ev d 133 503 L (.int (A r x.toNatClampNeg) :: st) (t, V, A, P) Q := e_iald_ro (by decide +kernel : decode (bOf 133) 502 = .ok (.iaload, 1)) h hi
theorem x_133_503 : Ev d 133 503 (.ref r :: L) st μ Q = Ev d 133 504 (.ref r :: L) (.ref r :: st) μ Q := e_aload_n (by decide +kernel : decode (bOf 133) 503 = .ok (.aload_n 0, 1)) rfl
theorem x_133_504 : Ev d 133 504 (a0 :: a1 :: a2 :: .int x :: L) st μ Q = Ev d 133 505 (a0 :: a1 :: a2 :: .int x :: L) (.int x :: st) μ Q := e_iload_n (by decide +kernel : decode (bOf 133) 504 = .ok (.iload_n 3, 1)) rfl
theorem x_133_505 : Ev d 133 505 L st μ Q = Ev d 133 506 L (.int (iI 2) :: st) μ Q := e_iconst (by decide +kernel : decode (bOf 133) 505 = .ok (.iconst 2, 1))
theorem x_133_506 : Ev d 133 506 L (.int y :: .int x :: st) μ Q = Ev d 133 507 L (.int (x + y) :: st) μ Q := e_iadd (by decide +kernel : decode (bOf 133) 506 = .ok (.iadd, 1))
theorem x_133_507 (h : kd t r = 10) (hi : inB x (ln t r) = true) : Ev d 133 507 L (.int x :: .ref r :: st) (t, V, A, P) Q = Ev d 133 508 L (.int (A r x.toNatClampNeg) :: st) (t, V, A, P) Q := e_iald_ro (by decide +kernel : decode (bOf 133) 507 = .ok (.iaload, 1)) h hi
theorem x_133_508 (h : kd t r = 4) : Ev d 133 508 L [b1, b0, .ref r] (t, V, A, P) Q = Call d 59 [.ref r, b0, b1] (t, V, A, P) (fun v μ1 => Ev d 133 511 L (v.toList ++ []) μ1 Q) := e_callV (a := [b0, b1]) (r := []) (by decide +kernel : decode (bOf 133) 508 = .ok (.invokevirtual 78, 3)) (by decide +kernel) (by decide +kernel) (by decide +kernel) (by omega) rfl (by simp) (by decide +kernel) h
theorem x_133_511 : Ev d 133 511 (a0 :: a1 :: .ref r :: L) st μ Q = Ev d 133 512 (a0 :: a1 :: .ref r :: L) (.ref r :: st) μ Q := e_aload_n (by decide +kernel : decode (bOf 133) 511 = .ok (.aload_n 2, 1)) rfl
theorem x_133_512 : Ev d 133 512 (.ref r :: L) st μ Q = Ev d 133 513 (.ref r :: L) (.ref r :: st) μ Q := e_aload_n (by decide +kernel : decode (bOf 133) 512 = .ok (.aload_n 0, 1)) rfl
theorem x_133_513 : Ev d 133 513 (a0 :: a1 :: a2 :: .int x :: L) st μ Q = Ev d 133 514 (a0 :: a1 :: a2 :: .int x :: L) (.int x :: st) μ Q := e_iload_n (by decide +kernel : decode (bOf 133) 513 = .ok (.iload_n 3, 1)) rfl
theorem x_133_514 : Ev d 133 514 L st μ Q = Ev d 133 515 L (.int (iI 1) :: st) μ Q := e_iconst (by decide +kernel : decode (bOf 133) 514 = .ok (.iconst 1, 1))
theorem x_133_515 : Ev d 133 515 L (.int y :: .int x :: st) μ Q = Ev d 133 516 L (.int (x + y) :: st) μ Q := e_iadd (by decide +kernel : decode (bOf 133) 515 = .ok (.iadd, 1))
theorem x_133_516 (h : kd t r = 10) (hi : inB x (ln t r) = true) : Ev d 133 516 L (.int x :: .ref r :: st) (t, V, A, P) Q = Ev d 133 517 L (.int (A r x.toNatClampNeg) :: st) (t, V, A, P) Q := e_iald_ro (by decide +kernel : decode (bOf 133) 516 = .ok (.iaload, 1)) h hi
theorem x_133_517 : Ev d 133 517 (.ref r :: L) st μ Q = Ev d 133 518 (.ref r :: L) (.ref r :: st) μ Q := e_aload_n (by decide +kernel : decode (bOf 133) 517 = .ok (.aload_n 0, 1)) rfl
theorem x_133_518 : Ev d 133 518 (a0 :: a1 :: a2 :: .int x :: L) st μ Q = Ev d 133 519 (a0 :: a1 :: a2 :: .int x :: L) (.int x :: st) μ Q := e_iload_n (by decide +kernel : decode (bOf 133) 518 = .ok (.iload_n 3, 1)) rfl
theorem x_133_519 : Ev d 133 519 L st μ Q = Ev d 133 520 L (.int (iI 2) :: st) μ Q := e_iconst (by decide +kernel : decode (bOf 133) 519 = .ok (.iconst 2, 1))
theorem x_133_520 : Ev d 133 520 L (.int y :: .int x :: st) μ Q = Ev d 133 521 L (.int (x + y) :: st) μ Q := e_iadd (by decide +kernel : decode (bOf 133) 520 = .ok (.iadd, 1))
theorem x_133_521 (h : kd t r = 10) (hi : inB x (ln t r) = true) : Ev d 133 521 L (.int x :: .ref r :: st) (t, V, A, P) Q = Ev d 133 522 L (.int (A r x.toNatClampNeg) :: st) (t, V, A, P) Q := e_iald_ro (by decide +kernel : decode (bOf 133) 521 = .ok (.iaload, 1)) h hi
theorem x_133_522 (h : kd t r = 5) : Ev d 133 522 L [b1, b0, .ref r, s0] (t, V, A, P) Q = Call d 118 [.ref r, b0, b1] (t, V, A, P) (fun v μ1 => Ev d 133 525 L (v.toList ++ [s0]) μ1 Q) := e_callV (a := [b0, b1]) (r := [s0]) (by decide +kernel : decode (bOf 133) 522 = .ok (.invokevirtual 81, 3)) (by decide +kernel) (by decide +kernel) (by decide +kernel) (by omega) rfl (by simp) (by decide +kernel) h
theorem x_133_525 : Ev d 133 525 L (.int y :: .int x :: st) μ Q = if x = y then Ev d 133 655 L st μ Q else Ev d 133 528 L st μ Q := e_icmp_eq (by decide +kernel : decode (bOf 133) 525 = .ok (.if_icmp .eq 130, 3)) (by omega)
theorem x_133_528 : Ev d 133 528 L st μ Q = Ev d 133 529 L (.int (iI 0) :: st) μ Q := e_iconst (by decide +kernel : decode (bOf 133) 528 = .ok (.iconst 0, 1))
theorem x_133_529 (hx : isB x) : Ev d 133 529 L [.int x] μ Q = Q (some (.int x)) μ := e_zret (by decide +kernel : decode (bOf 133) 529 = .ok (.ireturn, 1)) (by decide +kernel) hx
theorem x_133_530 : Ev d 133 530 (a0 :: .ref r :: L) st μ Q = Ev d 133 531 (a0 :: .ref r :: L) (.ref r :: st) μ Q := e_aload_n (by decide +kernel : decode (bOf 133) 530 = .ok (.aload_n 1, 1)) rfl
theorem x_133_531 : Ev d 133 531 (.ref r :: L) st μ Q = Ev d 133 532 (.ref r :: L) (.ref r :: st) μ Q := e_aload_n (by decide +kernel : decode (bOf 133) 531 = .ok (.aload_n 0, 1)) rfl
theorem x_133_532 : Ev d 133 532 (a0 :: a1 :: a2 :: .int x :: L) st μ Q = Ev d 133 533 (a0 :: a1 :: a2 :: .int x :: L) (.int x :: st) μ Q := e_iload_n (by decide +kernel : decode (bOf 133) 532 = .ok (.iload_n 3, 1)) rfl
theorem x_133_533 : Ev d 133 533 L st μ Q = Ev d 133 534 L (.int (iI 1) :: st) μ Q := e_iconst (by decide +kernel : decode (bOf 133) 533 = .ok (.iconst 1, 1))
theorem x_133_534 : Ev d 133 534 L (.int y :: .int x :: st) μ Q = Ev d 133 535 L (.int (x + y) :: st) μ Q := e_iadd (by decide +kernel : decode (bOf 133) 534 = .ok (.iadd, 1))
theorem x_133_535 (h : kd t r = 10) (hi : inB x (ln t r) = true) : Ev d 133 535 L (.int x :: .ref r :: st) (t, V, A, P) Q = Ev d 133 536 L (.int (A r x.toNatClampNeg) :: st) (t, V, A, P) Q := e_iald_ro (by decide +kernel : decode (bOf 133) 535 = .ok (.iaload, 1)) h hi
theorem x_133_536 : Ev d 133 536 (.ref r :: L) st μ Q = Ev d 133 537 (.ref r :: L) (.ref r :: st) μ Q := e_aload_n (by decide +kernel : decode (bOf 133) 536 = .ok (.aload_n 0, 1)) rfl
theorem x_133_537 : Ev d 133 537 (a0 :: a1 :: a2 :: .int x :: L) st μ Q = Ev d 133 538 (a0 :: a1 :: a2 :: .int x :: L) (.int x :: st) μ Q := e_iload_n (by decide +kernel : decode (bOf 133) 537 = .ok (.iload_n 3, 1)) rfl
theorem x_133_538 : Ev d 133 538 L st μ Q = Ev d 133 539 L (.int (iI 2) :: st) μ Q := e_iconst (by decide +kernel : decode (bOf 133) 538 = .ok (.iconst 2, 1))
theorem x_133_539 : Ev d 133 539 L (.int y :: .int x :: st) μ Q = Ev d 133 540 L (.int (x + y) :: st) μ Q := e_iadd (by decide +kernel : decode (bOf 133) 539 = .ok (.iadd, 1))
theorem x_133_540 (h : kd t r = 10) (hi : inB x (ln t r) = true) : Ev d 133 540 L (.int x :: .ref r :: st) (t, V, A, P) Q = Ev d 133 541 L (.int (A r x.toNatClampNeg) :: st) (t, V, A, P) Q := e_iald_ro (by decide +kernel : decode (bOf 133) 540 = .ok (.iaload, 1)) h hi
theorem x_133_541 (h : kd t r = 4) : Ev d 133 541 L [b1, b0, .ref r] (t, V, A, P) Q = Call d 60 [.ref r, b0, b1] (t, V, A, P) (fun v μ1 => Ev d 133 544 L (v.toList ++ []) μ1 Q) := e_callV (a := [b0, b1]) (r := []) (by decide +kernel : decode (bOf 133) 541 = .ok (.invokevirtual 82, 3)) (by decide +kernel) (by decide +kernel) (by decide +kernel) (by omega) rfl (by simp) (by decide +kernel) h
theorem x_133_544 : Ev d 133 544 (a0 :: a1 :: .ref r :: L) st μ Q = Ev d 133 545 (a0 :: a1 :: .ref r :: L) (.ref r :: st) μ Q := e_aload_n (by decide +kernel : decode (bOf 133) 544 = .ok (.aload_n 2, 1)) rfl
theorem x_133_545 : Ev d 133 545 (.ref r :: L) st μ Q = Ev d 133 546 (.ref r :: L) (.ref r :: st) μ Q := e_aload_n (by decide +kernel : decode (bOf 133) 545 = .ok (.aload_n 0, 1)) rfl
theorem x_133_546 : Ev d 133 546 (a0 :: a1 :: a2 :: .int x :: L) st μ Q = Ev d 133 547 (a0 :: a1 :: a2 :: .int x :: L) (.int x :: st) μ Q := e_iload_n (by decide +kernel : decode (bOf 133) 546 = .ok (.iload_n 3, 1)) rfl
theorem x_133_547 : Ev d 133 547 L st μ Q = Ev d 133 548 L (.int (iI 1) :: st) μ Q := e_iconst (by decide +kernel : decode (bOf 133) 547 = .ok (.iconst 1, 1))
theorem x_133_548 : Ev d 133 548 L (.int y :: .int x :: st) μ Q = Ev d 133 549 L (.int (x + y) :: st) μ Q := e_iadd (by decide +kernel : decode (bOf 133) 548 = .ok (.iadd, 1))
theorem x_133_549 (h : kd t r = 10) (hi : inB x (ln t r) = true) : Ev d 133 549 L (.int x :: .ref r :: st) (t, V, A, P) Q = Ev d 133 550 L (.int (A r x.toNatClampNeg) :: st) (t, V, A, P) Q := e_iald_ro (by decide +kernel : decode (bOf 133) 549 = .ok (.iaload, 1)) h hi
theorem x_133_550 : Ev d 133 550 (.ref r :: L) st μ Q = Ev d 133 551 (.ref r :: L) (.ref r :: st) μ Q := e_aload_n (by decide +kernel : decode (bOf 133) 550 = .ok (.aload_n 0, 1)) rfl
theorem x_133_551 : Ev d 133 551 (a0 :: a1 :: a2 :: .int x :: L) st μ Q = Ev d 133 552 (a0 :: a1 :: a2 :: .int x :: L) (.int x :: st) μ Q := e_iload_n (by decide +kernel : decode (bOf 133) 551 = .ok (.iload_n 3, 1)) rfl
theorem x_133_552 : Ev d 133 552 L st μ Q = Ev d 133 553 L (.int (iI 2) :: st) μ Q := e_iconst (by decide +kernel : decode (bOf 133) 552 = .ok (.iconst 2, 1))
theorem x_133_553 : Ev d 133 553 L (.int y :: .int x :: st) μ Q = Ev d 133 554 L (.int (x + y) :: st) μ Q := e_iadd (by decide +kernel : decode (bOf 133) 553 = .ok (.iadd, 1))
theorem x_133_554 (h : kd t r = 10) (hi : inB x (ln t r) = true) : Ev d 133 554 L (.int x :: .ref r :: st) (t, V, A, P) Q = Ev d 133 555 L (.int (A r x.toNatClampNeg) :: st) (t, V, A, P) Q := e_iald_ro (by decide +kernel : decode (bOf 133) 554 = .ok (.iaload, 1)) h hi
theorem x_133_555 (h : kd t r = 5) : Ev d 133 555 L [b1, b0, .ref r, s0] (t, V, A, P) Q = Call d 123 [.ref r, b0, b1] (t, V, A, P) (fun v μ1 => Ev d 133 558 L (v.toList ++ [s0]) μ1 Q) := e_callV (a := [b0, b1]) (r := [s0]) (by decide +kernel : decode (bOf 133) 555 = .ok (.invokevirtual 85, 3)) (by decide +kernel) (by decide +kernel) (by decide +kernel) (by omega) rfl (by simp) (by decide +kernel) h
theorem x_133_558 : Ev d 133 558 L (.int y :: .int x :: st) μ Q = if x = y then Ev d 133 655 L st μ Q else Ev d 133 561 L st μ Q := e_icmp_eq (by decide +kernel : decode (bOf 133) 558 = .ok (.if_icmp .eq 97, 3)) (by omega)
theorem x_133_561 : Ev d 133 561 L st μ Q = Ev d 133 562 L (.int (iI 0) :: st) μ Q := e_iconst (by decide +kernel : decode (bOf 133) 561 = .ok (.iconst 0, 1))
theorem x_133_562 (hx : isB x) : Ev d 133 562 L [.int x] μ Q = Q (some (.int x)) μ := e_zret (by decide +kernel : decode (bOf 133) 562 = .ok (.ireturn, 1)) (by decide +kernel) hx
theorem x_133_563 : Ev d 133 563 (a0 :: .ref r :: L) st μ Q = Ev d 133 564 (a0 :: .ref r :: L) (.ref r :: st) μ Q := e_aload_n (by decide +kernel : decode (bOf 133) 563 = .ok (.aload_n 1, 1)) rfl
theorem x_133_564 : Ev d 133 564 (.ref r :: L) st μ Q = Ev d 133 565 (.ref r :: L) (.ref r :: st) μ Q := e_aload_n (by decide +kernel : decode (bOf 133) 564 = .ok (.aload_n 0, 1)) rfl
theorem x_133_565 : Ev d 133 565 (a0 :: a1 :: a2 :: .int x :: L) st μ Q = Ev d 133 566 (a0 :: a1 :: a2 :: .int x :: L) (.int x :: st) μ Q := e_iload_n (by decide +kernel : decode (bOf 133) 565 = .ok (.iload_n 3, 1)) rfl
theorem x_133_566 : Ev d 133 566 L st μ Q = Ev d 133 567 L (.int (iI 1) :: st) μ Q := e_iconst (by decide +kernel : decode (bOf 133) 566 = .ok (.iconst 1, 1))
theorem x_133_567 : Ev d 133 567 L (.int y :: .int x :: st) μ Q = Ev d 133 568 L (.int (x + y) :: st) μ Q := e_iadd (by decide +kernel : decode (bOf 133) 567 = .ok (.iadd, 1))
theorem x_133_568 (h : kd t r = 10) (hi : inB x (ln t r) = true) : Ev d 133 568 L (.int x :: .ref r :: st) (t, V, A, P) Q = Ev d 133 569 L (.int (A r x.toNatClampNeg) :: st) (t, V, A, P) Q := e_iald_ro (by decide +kernel : decode (bOf 133) 568 = .ok (.iaload, 1)) h hi
theorem x_133_569 (h : kd t r = 4) : Ev d 133 569 L [b0, .ref r] (t, V, A, P) Q = Call d 61 [.ref r, b0] (t, V, A, P) (fun v μ1 => Ev d 133 572 L (v.toList ++ []) μ1 Q) := e_callV (a := [b0]) (r := []) (by decide +kernel : decode (bOf 133) 569 = .ok (.invokevirtual 86, 3)) (by decide +kernel) (by decide +kernel) (by decide +kernel) (by omega) rfl (by simp) (by decide +kernel) h
theorem x_133_572 : Ev d 133 572 (a0 :: a1 :: .ref r :: L) st μ Q = Ev d 133 573 (a0 :: a1 :: .ref r :: L) (.ref r :: st) μ Q := e_aload_n (by decide +kernel : decode (bOf 133) 572 = .ok (.aload_n 2, 1)) rfl
theorem x_133_573 : Ev d 133 573 (.ref r :: L) st μ Q = Ev d 133 574 (.ref r :: L) (.ref r :: st) μ Q := e_aload_n (by decide +kernel : decode (bOf 133) 573 = .ok (.aload_n 0, 1)) rfl
theorem x_133_574 : Ev d 133 574 (a0 :: a1 :: a2 :: .int x :: L) st μ Q = Ev d 133 575 (a0 :: a1 :: a2 :: .int x :: L) (.int x :: st) μ Q := e_iload_n (by decide +kernel : decode (bOf 133) 574 = .ok (.iload_n 3, 1)) rfl
theorem x_133_575 : Ev d 133 575 L st μ Q = Ev d 133 576 L (.int (iI 1) :: st) μ Q := e_iconst (by decide +kernel : decode (bOf 133) 575 = .ok (.iconst 1, 1))
theorem x_133_576 : Ev d 133 576 L (.int y :: .int x :: st) μ Q = Ev d 133 577 L (.int (x + y) :: st) μ Q := e_iadd (by decide +kernel : decode (bOf 133) 576 = .ok (.iadd, 1))
theorem x_133_577 (h : kd t r = 10) (hi : inB x (ln t r) = true) : Ev d 133 577 L (.int x :: .ref r :: st) (t, V, A, P) Q = Ev d 133 578 L (.int (A r x.toNatClampNeg) :: st) (t, V, A, P) Q := e_iald_ro (by decide +kernel : decode (bOf 133) 577 = .ok (.iaload, 1)) h hi
theorem x_133_578 (h : kd t r = 5) : Ev d 133 578 L [b0, .ref r, s0] (t, V, A, P) Q = Call d 124 [.ref r, b0] (t, V, A, P) (fun v μ1 => Ev d 133 581 L (v.toList ++ [s0]) μ1 Q) := e_callV (a := [b0]) (r := [s0]) (by decide +kernel : decode (bOf 133) 578 = .ok (.invokevirtual 89, 3)) (by decide +kernel) (by decide +kernel) (by decide +kernel) (by omega) rfl (by simp) (by decide +kernel) h
theorem x_133_581 : Ev d 133 581 L (.int y :: .int x :: st) μ Q = if x = y then Ev d 133 655 L st μ Q else Ev d 133 584 L st μ Q := e_icmp_eq (by decide +kernel : decode (bOf 133) 581 = .ok (.if_icmp .eq 74, 3)) (by omega)
theorem x_133_584 : Ev d 133 584 L st μ Q = Ev d 133 585 L (.int (iI 0) :: st) μ Q := e_iconst (by decide +kernel : decode (bOf 133) 584 = .ok (.iconst 0, 1))
theorem x_133_585 (hx : isB x) : Ev d 133 585 L [.int x] μ Q = Q (some (.int x)) μ := e_zret (by decide +kernel : decode (bOf 133) 585 = .ok (.ireturn, 1)) (by decide +kernel) hx
theorem x_133_586 : Ev d 133 586 (a0 :: .ref r :: L) st μ Q = Ev d 133 587 (a0 :: .ref r :: L) (.ref r :: st) μ Q := e_aload_n (by decide +kernel : decode (bOf 133) 586 = .ok (.aload_n 1, 1)) rfl
theorem x_133_587 : Ev d 133 587 (.ref r :: L) st μ Q = Ev d 133 588 (.ref r :: L) (.ref r :: st) μ Q := e_aload_n (by decide +kernel : decode (bOf 133) 587 = .ok (.aload_n 0, 1)) rfl
theorem x_133_588 : Ev d 133 588 (a0 :: a1 :: a2 :: .int x :: L) st μ Q = Ev d 133 589 (a0 :: a1 :: a2 :: .int x :: L) (.int x :: st) μ Q := e_iload_n (by decide +kernel : decode (bOf 133) 588 = .ok (.iload_n 3, 1)) rfl
theorem x_133_589 : Ev d 133 589 L st μ Q = Ev d 133 590 L (.int (iI 1) :: st) μ Q := e_iconst (by decide +kernel : decode (bOf 133) 589 = .ok (.iconst 1, 1))
theorem x_133_590 : Ev d 133 590 L (.int y :: .int x :: st) μ Q = Ev d 133 591 L (.int (x + y) :: st) μ Q := e_iadd (by decide +kernel : decode (bOf 133) 590 = .ok (.iadd, 1))
theorem x_133_591 (h : kd t r = 10) (hi : inB x (ln t r) = true) : Ev d 133 591 L (.int x :: .ref r :: st) (t, V, A, P) Q = Ev d 133 592 L (.int (A r x.toNatClampNeg) :: st) (t, V, A, P) Q := e_iald_ro (by decide +kernel : decode (bOf 133) 591 = .ok (.iaload, 1)) h hi
theorem x_133_592 (h : kd t r = 4) : Ev d 133 592 L [b0, .ref r] (t, V, A, P) Q = Call d 62 [.ref r, b0] (t, V, A, P) (fun v μ1 => Ev d 133 595 L (v.toList ++ []) μ1 Q) := e_callV (a := [b0]) (r := []) (by decide +kernel : decode (bOf 133) 592 = .ok (.invokevirtual 90, 3)) (by decide +kernel) (by decide +kernel) (by decide +kernel) (by omega) rfl (by simp) (by decide +kernel) h
theorem x_133_595 : Ev d 133 595 (a0 :: a1 :: .ref r :: L) st μ Q = Ev d 133 596 (a0 :: a1 :: .ref r :: L) (.ref r :: st) μ Q := e_aload_n (by decide +kernel : decode (bOf 133) 595 = .ok (.aload_n 2, 1)) rfl
theorem x_133_596 : Ev d 133 596 (.ref r :: L) st μ Q = Ev d 133 597 (.ref r :: L) (.ref r :: st) μ Q := e_aload_n (by decide +kernel : decode (bOf 133) 596 = .ok (.aload_n 0, 1)) rfl
theorem x_133_597 : Ev d 133 597 (a0 :: a1 :: a2 :: .int x :: L) st μ Q = Ev d 133 598 (a0 :: a1 :: a2 :: .int x :: L) (.int x :: st) μ Q := e_iload_n (by decide +kernel : decode (bOf 133) 597 = .ok (.iload_n 3, 1)) rfl
theorem x_133_598 : Ev d 133 598 L st μ Q = Ev d 133 599 L (.int (iI 1) :: st) μ Q := e_iconst (by decide +kernel : decode (bOf 133) 598 = .ok (.iconst 1, 1))
theorem x_133_599 : Ev d 133 599 L (.int y :: .int x :: st) μ Q = Ev d 133 600 L (.int (x + y) :: st) μ Q := e_iadd (by decide +kernel : decode (bOf 133) 599 = .ok (.iadd, 1))
theorem x_133_600 (h : kd t r = 10) (hi : inB x (ln t r) = true) : Ev d 133 600 L (.int x :: .ref r :: st) (t, V, A, P) Q = Ev d 133 601 L (.int (A r x.toNatClampNeg) :: st) (t, V, A, P) Q := e_iald_ro (by decide +kernel : decode (bOf 133) 600 = .ok (.iaload, 1)) h hi
theorem x_133_601 (h : kd t r = 5) : Ev d 133 601 L [b0, .ref r, s0] (t, V, A, P) Q = Call d 125 [.ref r, b0] (t, V, A, P) (fun v μ1 => Ev d 133 604 L (v.toList ++ [s0]) μ1 Q) := e_callV (a := [b0]) (r := [s0]) (by decide +kernel : decode (bOf 133) 601 = .ok (.invokevirtual 93, 3)) (by decide +kernel) (by decide +kernel) (by decide +kernel) (by omega) rfl (by simp) (by decide +kernel) h
theorem x_133_604 : Ev d 133 604 L (.int y :: .int x :: st) μ Q = if x = y then Ev d 133 655 L st μ Q else Ev d 133 607 L st μ Q := e_icmp_eq (by decide +kernel : decode (bOf 133) 604 = .ok (.if_icmp .eq 51, 3)) (by omega)
theorem x_133_607 : Ev d 133 607 L st μ Q = Ev d 133 608 L (.int (iI 0) :: st) μ Q := e_iconst (by decide +kernel : decode (bOf 133) 607 = .ok (.iconst 0, 1))
theorem x_133_608 (hx : isB x) : Ev d 133 608 L [.int x] μ Q = Q (some (.int x)) μ := e_zret (by decide +kernel : decode (bOf 133) 608 = .ok (.ireturn, 1)) (by decide +kernel) hx
theorem x_133_609 : Ev d 133 609 (a0 :: .ref r :: L) st μ Q = Ev d 133 610 (a0 :: .ref r :: L) (.ref r :: st) μ Q := e_aload_n (by decide +kernel : decode (bOf 133) 609 = .ok (.aload_n 1, 1)) rfl
theorem x_133_610 : Ev d 133 610 (.ref r :: L) st μ Q = Ev d 133 611 (.ref r :: L) (.ref r :: st) μ Q := e_aload_n (by decide +kernel : decode (bOf 133) 610 = .ok (.aload_n 0, 1)) rfl
theorem x_133_611 : Ev d 133 611 (a0 :: a1 :: a2 :: .int x :: L) st μ Q = Ev d 133 612 (a0 :: a1 :: a2 :: .int x :: L) (.int x :: st) μ Q := e_iload_n (by decide +kernel : decode (bOf 133) 611 = .ok (.iload_n 3, 1)) rfl
theorem x_133_612 : Ev d 133 612 L st μ Q = Ev d 133 613 L (.int (iI 1) :: st) μ Q := e_iconst (by decide +kernel : decode (bOf 133) 612 = .ok (.iconst 1, 1))
theorem x_133_613 : Ev d 133 613 L (.int y :: .int x :: st) μ Q = Ev d 133 614 L (.int (x + y) :: st) μ Q := e_iadd (by decide +kernel : decode (bOf 133) 613 = .ok (.iadd, 1))
theorem x_133_614 (h : kd t r = 10) (hi : inB x (ln t r) = true) : Ev d 133 614 L (.int x :: .ref r :: st) (t, V, A, P) Q = Ev d 133 615 L (.int (A r x.toNatClampNeg) :: st) (t, V, A, P) Q := e_iald_ro (by decide +kernel : decode (bOf 133) 614 = .ok (.iaload, 1)) h hi
theorem x_133_615 (h : kd t r = 4) : Ev d 133 615 L [b0, .ref r] (t, V, A, P) Q = Call d 63 [.ref r, b0] (t, V, A, P) (fun v μ1 => Ev d 133 618 L (v.toList ++ []) μ1 Q) := e_callV (a := [b0]) (r := []) (by decide +kernel : decode (bOf 133) 615 = .ok (.invokevirtual 94, 3)) (by decide +kernel) (by decide +kernel) (by decide +kernel) (by omega) rfl (by simp) (by decide +kernel) h
theorem x_133_618 : Ev d 133 618 (a0 :: a1 :: .ref r :: L) st μ Q = Ev d 133 619 (a0 :: a1 :: .ref r :: L) (.ref r :: st) μ Q := e_aload_n (by decide +kernel : decode (bOf 133) 618 = .ok (.aload_n 2, 1)) rfl
theorem x_133_619 : Ev d 133 619 (.ref r :: L) st μ Q = Ev d 133 620 (.ref r :: L) (.ref r :: st) μ Q := e_aload_n (by decide +kernel : decode (bOf 133) 619 = .ok (.aload_n 0, 1)) rfl
theorem x_133_620 : Ev d 133 620 (a0 :: a1 :: a2 :: .int x :: L) st μ Q = Ev d 133 621 (a0 :: a1 :: a2 :: .int x :: L) (.int x :: st) μ Q := e_iload_n (by decide +kernel : decode (bOf 133) 620 = .ok (.iload_n 3, 1)) rfl
theorem x_133_621 : Ev d 133 621 L st μ Q = Ev d 133 622 L (.int (iI 1) :: st) μ Q := e_iconst (by decide +kernel : decode (bOf 133) 621 = .ok (.iconst 1, 1))
theorem x_133_622 : Ev d 133 622 L (.int y :: .int x :: st) μ Q = Ev d 133 623 L (.int (x + y) :: st) μ Q := e_iadd (by decide +kernel : decode (bOf 133) 622 = .ok (.iadd, 1))
theorem x_133_623 (h : kd t r = 10) (hi : inB x (ln t r) = true) : Ev d 133 623 L (.int x :: .ref r :: st) (t, V, A, P) Q = Ev d 133 624 L (.int (A r x.toNatClampNeg) :: st) (t, V, A, P) Q := e_iald_ro (by decide +kernel : decode (bOf 133) 623 = .ok (.iaload, 1)) h hi
theorem x_133_624 (h : kd t r = 5) : Ev d 133 624 L [b0, .ref r, s0] (t, V, A, P) Q = Call d 126 [.ref r, b0] (t, V, A, P) (fun v μ1 => Ev d 133 627 L (v.toList ++ [s0]) μ1 Q) := e_callV (a := [b0]) (r := [s0]) (by decide +kernel : decode (bOf 133) 624 = .ok (.invokevirtual 97, 3)) (by decide +kernel) (by decide +kernel) (by decide +kernel) (by omega) rfl (by simp) (by decide +kernel) h
theorem x_133_627 : Ev d 133 627 L (.int y :: .int x :: st) μ Q = if x = y then Ev d 133 655 L st μ Q else Ev d 133 630 L st μ Q := e_icmp_eq (by decide +kernel : decode (bOf 133) 627 = .ok (.if_icmp .eq 28, 3)) (by omega)
theorem x_133_630 : Ev d 133 630 L st μ Q = Ev d 133 631 L (.int (iI 0) :: st) μ Q := e_iconst (by decide +kernel : decode (bOf 133) 630 = .ok (.iconst 0, 1))
theorem x_133_631 (hx : isB x) : Ev d 133 631 L [.int x] μ Q = Q (some (.int x)) μ := e_zret (by decide +kernel : decode (bOf 133) 631 = .ok (.ireturn, 1)) (by decide +kernel) hx
theorem x_133_632 : Ev d 133 632 (a0 :: .ref r :: L) st μ Q = Ev d 133 633 (a0 :: .ref r :: L) (.ref r :: st) μ Q := e_aload_n (by decide +kernel : decode (bOf 133) 632 = .ok (.aload_n 1, 1)) rfl
theorem x_133_633 : Ev d 133 633 (.ref r :: L) st μ Q = Ev d 133 634 (.ref r :: L) (.ref r :: st) μ Q := e_aload_n (by decide +kernel : decode (bOf 133) 633 = .ok (.aload_n 0, 1)) rfl
theorem x_133_634 : Ev d 133 634 (a0 :: a1 :: a2 :: .int x :: L) st μ Q = Ev d 133 635 (a0 :: a1 :: a2 :: .int x :: L) (.int x :: st) μ Q := e_iload_n (by decide +kernel : decode (bOf 133) 634 = .ok (.iload_n 3, 1)) rfl
theorem x_133_635 : Ev d 133 635 L st μ Q = Ev d 133 636 L (.int (iI 1) :: st) μ Q := e_iconst (by decide +kernel : decode (bOf 133) 635 = .ok (.iconst 1, 1))
theorem x_133_636 : Ev d 133 636 L (.int y :: .int x :: st) μ Q = Ev d 133 637 L (.int (x + y) :: st) μ Q := e_iadd (by decide +kernel : decode (bOf 133) 636 = .ok (.iadd, 1))
theorem x_133_637 (h : kd t r = 10) (hi : inB x (ln t r) = true) : Ev d 133 637 L (.int x :: .ref r :: st) (t, V, A, P) Q = Ev d 133 638 L (.int (A r x.toNatClampNeg) :: st) (t, V, A, P) Q := e_iald_ro (by decide +kernel : decode (bOf 133) 637 = .ok (.iaload, 1)) h hi
theorem x_133_638 (h : kd t r = 4) : Ev d 133 638 L [b0, .ref r] (t, V, A, P) Q = Call d 64 [.ref r, b0] (t, V, A, P) (fun v μ1 => Ev d 133 641 L (v.toList ++ []) μ1 Q) := e_callV (a := [b0]) (r := []) (by decide +kernel : decode (bOf 133) 638 = .ok (.invokevirtual 98, 3)) (by decide +kernel) (by decide +kernel) (by decide +kernel) (by omega) rfl (by simp) (by decide +kernel) h
theorem x_133_641 : Ev d 133 641 (a0 :: a1 :: .ref r :: L) st μ Q = Ev d 133 642 (a0 :: a1 :: .ref r :: L) (.ref r :: st) μ Q := e_aload_n (by decide +kernel : decode (bOf 133) 641 = .ok (.aload_n 2, 1)) rfl
theorem x_133_642 : Ev d 133 642 (.ref r :: L) st μ Q = Ev d 133 643 (.ref r :: L) (.ref r :: st) μ Q := e_aload_n (by decide +kernel : decode (bOf 133) 642 = .ok (.aload_n 0, 1)) rfl
theorem x_133_643 : Ev d 133 643 (a0 :: a1 :: a2 :: .int x :: L) st μ Q = Ev d 133 644 (a0 :: a1 :: a2 :: .int x :: L) (.int x :: st) μ Q := e_iload_n (by decide +kernel : decode (bOf 133) 643 = .ok (.iload_n 3, 1)) rfl
theorem x_133_644 : Ev d 133 644 L st μ Q = Ev d 133 645 L (.int (iI 1) :: st) μ Q := e_iconst (by decide +kernel : decode (bOf 133) 644 = .ok (.iconst 1, 1))
theorem x_133_645 : Ev d 133 645 L (.int y :: .int x :: st) μ Q = Ev d 133 646 L (.int (x + y) :: st) μ Q := e_iadd (by decide +kernel : decode (bOf 133) 645 = .ok (.iadd, 1))
theorem x_133_646 (h : kd t r = 10) (hi : inB x (ln t r) = true) : Ev d 133 646 L (.int x :: .ref r :: st) (t, V, A, P) Q = Ev d 133 647 L (.int (A r x.toNatClampNeg) :: st) (t, V, A, P) Q := e_iald_ro (by decide +kernel : decode (bOf 133) 646 = .ok (.iaload, 1)) h hi
theorem x_133_647 (h : kd t r = 5) : Ev d 133 647 L [b0, .ref r, s0] (t, V, A, P) Q = Call d 130 [.ref r, b0] (t, V, A, P) (fun v μ1 => Ev d 133 650 L (v.toList ++ [s0]) μ1 Q) := e_callV (a := [b0]) (r := [s0]) (by decide +kernel : decode (bOf 133) 647 = .ok (.invokevirtual 101, 3)) (by decide +kernel) (by decide +kernel) (by decide +kernel) (by omega) rfl (by simp) (by decide +kernel) h
theorem x_133_650 : Ev d 133 650 L (.int y :: .int x :: st) μ Q = if x = y then Ev d 133 655 L st μ Q else Ev d 133 653 L st μ Q := e_icmp_eq (by decide +kernel : decode (bOf 133) 650 = .ok (.if_icmp .eq 5, 3)) (by omega)
theorem x_133_653 : Ev d 133 653 L st μ Q = Ev d 133 654 L (.int (iI 0) :: st) μ Q := e_iconst (by decide +kernel : decode (bOf 133) 653 = .ok (.iconst 0, 1))
theorem x_133_654 (hx : isB x) : Ev d 133 654 L [.int x] μ Q = Q (some (.int x)) μ := e_zret (by decide +kernel : decode (bOf 133) 654 = .ok (.ireturn, 1)) (by decide +kernel) hx
theorem x_133_655 (h : a2.category = 1) : Ev d 133 655 (a0 :: a1 :: a2 :: .int x :: L) st μ Q = Ev d 133 658 (a0 :: a1 :: a2 :: .int (x + (iI 5)) :: L) st μ Q := e_iinc (by decide +kernel : decode (bOf 133) 655 = .ok (.iinc 3 5, 3)) rfl (by simp [stOK, h])
theorem x_133_658 : Ev d 133 658 L st μ Q = Ev d 133 18 L st μ Q := e_goto (by decide +kernel : decode (bOf 133) 658 = .ok (.goto (-640), 3)) (by omega)
theorem x_133_661 : Ev d 133 661 L st μ Q = Ev d 133 662 L (.int (iI 1) :: st) μ Q := e_iconst (by decide +kernel : decode (bOf 133) 661 = .ok (.iconst 1, 1))
theorem x_133_662 (hx : isB x) : Ev d 133 662 L [.int x] μ Q = Q (some (.int x)) μ := e_zret (by decide +kernel : decode (bOf 133) 662 = .ok (.ireturn, 1)) (by decide +kernel) hx
end Xf
