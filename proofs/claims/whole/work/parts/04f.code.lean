section Xf
variable {d : Nat} {L st : List Value} {μ : mM} {Q : Option Value → mM → Prop} {t : mL} {V : Nat → Nat → Value} {A : Nat → Nat → Int32} {P : Nat → Nat → Option Nat} {N S : Nat} {K : Nat → Nat × Nat}
variable {a0 a1 a2 a3 a4 a5 a6 a7 a8 a9 a10 a11 a12 b0 b1 b2 b3 s0 s1 s2 s3 : Value} {x y i0 i1 i2 i3 i4 : Int32} {w z : Int64} {r q r0 r1 r2 : Nat}
theorem c_129 : Call (d + 1) 129 [.int i0] μ Q = Ev d 129 0 [.int i0] [] μ Q := call_ev rfl rfl
theorem x_129_0 : Ev d 129 0 (.int x :: L) st μ Q = Ev d 129 1 (.int x :: L) (.int x :: st) μ Q := e_iload_n (by decide +kernel : decode (bOf 129) 0 = .ok (.iload_n 0, 1)) rfl
theorem x_129_1 : Ev d 129 1 (.int x :: L) st μ Q = Ev d 129 2 (.int x :: L) (.int x :: st) μ Q := e_iload_n (by decide +kernel : decode (bOf 129) 1 = .ok (.iload_n 0, 1)) rfl
theorem x_129_2 : Ev d 129 2 L st μ Q = Ev d 129 3 L (.int (iI 1) :: st) μ Q := e_iconst (by decide +kernel : decode (bOf 129) 2 = .ok (.iconst 1, 1))
theorem x_129_3 : Ev d 129 3 L (.int y :: .int x :: st) μ Q = Ev d 129 4 L (.int (x.toUInt32 >>> (y.toUInt32 &&& Int32.toUInt32 31)).toInt32 :: st) μ Q := e_iushr (by decide +kernel : decode (bOf 129) 3 = .ok (.iushr, 1))
theorem x_129_4 : Ev d 129 4 L st μ Q = Ev d 129 7 L (.int (iI 1431655765) :: st) μ Q := e_ldc_w (by decide +kernel : decode (bOf 129) 4 = .ok (.ldc_w 265, 3)) (by decide +kernel)
theorem x_129_7 : Ev d 129 7 L (.int y :: .int x :: st) μ Q = Ev d 129 8 L (.int (x &&& y) :: st) μ Q := e_iand (by decide +kernel : decode (bOf 129) 7 = .ok (.iand, 1))
theorem x_129_8 : Ev d 129 8 L (.int y :: .int x :: st) μ Q = Ev d 129 9 L (.int (x - y) :: st) μ Q := e_isub (by decide +kernel : decode (bOf 129) 8 = .ok (.isub, 1))
theorem x_129_9 : Ev d 129 9 (a0 :: L) (.int x :: st) μ Q = Ev d 129 10 (.int x :: L) st μ Q := e_istore_n (by decide +kernel : decode (bOf 129) 9 = .ok (.istore_n 0, 1)) (by show stOK _ 0 = true; simp [stOK])
theorem x_129_10 : Ev d 129 10 (.int x :: L) st μ Q = Ev d 129 11 (.int x :: L) (.int x :: st) μ Q := e_iload_n (by decide +kernel : decode (bOf 129) 10 = .ok (.iload_n 0, 1)) rfl
theorem x_129_11 : Ev d 129 11 L st μ Q = Ev d 129 14 L (.int (iI 858993459) :: st) μ Q := e_ldc_w (by decide +kernel : decode (bOf 129) 11 = .ok (.ldc_w 266, 3)) (by decide +kernel)
theorem x_129_14 : Ev d 129 14 L (.int y :: .int x :: st) μ Q = Ev d 129 15 L (.int (x &&& y) :: st) μ Q := e_iand (by decide +kernel : decode (bOf 129) 14 = .ok (.iand, 1))
theorem x_129_15 : Ev d 129 15 (.int x :: L) st μ Q = Ev d 129 16 (.int x :: L) (.int x :: st) μ Q := e_iload_n (by decide +kernel : decode (bOf 129) 15 = .ok (.iload_n 0, 1)) rfl
theorem x_129_16 : Ev d 129 16 L st μ Q = Ev d 129 17 L (.int (iI 2) :: st) μ Q := e_iconst (by decide +kernel : decode (bOf 129) 16 = .ok (.iconst 2, 1))
theorem x_129_17 : Ev d 129 17 L (.int y :: .int x :: st) μ Q = Ev d 129 18 L (.int (x.toUInt32 >>> (y.toUInt32 &&& Int32.toUInt32 31)).toInt32 :: st) μ Q := e_iushr (by decide +kernel : decode (bOf 129) 17 = .ok (.iushr, 1))
theorem x_129_18 : Ev d 129 18 L st μ Q = Ev d 129 21 L (.int (iI 858993459) :: st) μ Q := e_ldc_w (by decide +kernel : decode (bOf 129) 18 = .ok (.ldc_w 266, 3)) (by decide +kernel)
theorem x_129_21 : Ev d 129 21 L (.int y :: .int x :: st) μ Q = Ev d 129 22 L (.int (x &&& y) :: st) μ Q := e_iand (by decide +kernel : decode (bOf 129) 21 = .ok (.iand, 1))
theorem x_129_22 : Ev d 129 22 L (.int y :: .int x :: st) μ Q = Ev d 129 23 L (.int (x + y) :: st) μ Q := e_iadd (by decide +kernel : decode (bOf 129) 22 = .ok (.iadd, 1))
theorem x_129_23 : Ev d 129 23 (a0 :: L) (.int x :: st) μ Q = Ev d 129 24 (.int x :: L) st μ Q := e_istore_n (by decide +kernel : decode (bOf 129) 23 = .ok (.istore_n 0, 1)) (by show stOK _ 0 = true; simp [stOK])
theorem x_129_24 : Ev d 129 24 (.int x :: L) st μ Q = Ev d 129 25 (.int x :: L) (.int x :: st) μ Q := e_iload_n (by decide +kernel : decode (bOf 129) 24 = .ok (.iload_n 0, 1)) rfl
theorem x_129_25 : Ev d 129 25 (.int x :: L) st μ Q = Ev d 129 26 (.int x :: L) (.int x :: st) μ Q := e_iload_n (by decide +kernel : decode (bOf 129) 25 = .ok (.iload_n 0, 1)) rfl
theorem x_129_26 : Ev d 129 26 L st μ Q = Ev d 129 27 L (.int (iI 4) :: st) μ Q := e_iconst (by decide +kernel : decode (bOf 129) 26 = .ok (.iconst 4, 1))
theorem x_129_27 : Ev d 129 27 L (.int y :: .int x :: st) μ Q = Ev d 129 28 L (.int (x.toUInt32 >>> (y.toUInt32 &&& Int32.toUInt32 31)).toInt32 :: st) μ Q := e_iushr (by decide +kernel : decode (bOf 129) 27 = .ok (.iushr, 1))
theorem x_129_28 : Ev d 129 28 L (.int y :: .int x :: st) μ Q = Ev d 129 29 L (.int (x + y) :: st) μ Q := e_iadd (by decide +kernel : decode (bOf 129) 28 = .ok (.iadd, 1))
theorem x_129_29 : Ev d 129 29 L st μ Q = Ev d 129 32 L (.int (iI 252645135) :: st) μ Q := e_ldc_w (by decide +kernel : decode (bOf 129) 29 = .ok (.ldc_w 267, 3)) (by decide +kernel)
theorem x_129_32 : Ev d 129 32 L (.int y :: .int x :: st) μ Q = Ev d 129 33 L (.int (x &&& y) :: st) μ Q := e_iand (by decide +kernel : decode (bOf 129) 32 = .ok (.iand, 1))
theorem x_129_33 : Ev d 129 33 (a0 :: L) (.int x :: st) μ Q = Ev d 129 34 (.int x :: L) st μ Q := e_istore_n (by decide +kernel : decode (bOf 129) 33 = .ok (.istore_n 0, 1)) (by show stOK _ 0 = true; simp [stOK])
theorem x_129_34 : Ev d 129 34 (.int x :: L) st μ Q = Ev d 129 35 (.int x :: L) (.int x :: st) μ Q := e_iload_n (by decide +kernel : decode (bOf 129) 34 = .ok (.iload_n 0, 1)) rfl
theorem x_129_35 : Ev d 129 35 (.int x :: L) st μ Q = Ev d 129 36 (.int x :: L) (.int x :: st) μ Q := e_iload_n (by decide +kernel : decode (bOf 129) 35 = .ok (.iload_n 0, 1)) rfl
theorem x_129_36 : Ev d 129 36 L st μ Q = Ev d 129 38 L (.int (iI 8) :: st) μ Q := e_bipush (by decide +kernel : decode (bOf 129) 36 = .ok (.bipush 8, 2)) (by decide +kernel)
theorem x_129_38 : Ev d 129 38 L (.int y :: .int x :: st) μ Q = Ev d 129 39 L (.int (x.toUInt32 >>> (y.toUInt32 &&& Int32.toUInt32 31)).toInt32 :: st) μ Q := e_iushr (by decide +kernel : decode (bOf 129) 38 = .ok (.iushr, 1))
theorem x_129_39 : Ev d 129 39 L (.int y :: .int x :: st) μ Q = Ev d 129 40 L (.int (x + y) :: st) μ Q := e_iadd (by decide +kernel : decode (bOf 129) 39 = .ok (.iadd, 1))
theorem x_129_40 : Ev d 129 40 (a0 :: L) (.int x :: st) μ Q = Ev d 129 41 (.int x :: L) st μ Q := e_istore_n (by decide +kernel : decode (bOf 129) 40 = .ok (.istore_n 0, 1)) (by show stOK _ 0 = true; simp [stOK])
theorem x_129_41 : Ev d 129 41 (.int x :: L) st μ Q = Ev d 129 42 (.int x :: L) (.int x :: st) μ Q := e_iload_n (by decide +kernel : decode (bOf 129) 41 = .ok (.iload_n 0, 1)) rfl
theorem x_129_42 : Ev d 129 42 (.int x :: L) st μ Q = Ev d 129 43 (.int x :: L) (.int x :: st) μ Q := e_iload_n (by decide +kernel : decode (bOf 129) 42 = .ok (.iload_n 0, 1)) rfl
theorem x_129_43 : Ev d 129 43 L st μ Q = Ev d 129 45 L (.int (iI 16) :: st) μ Q := e_bipush (by decide +kernel : decode (bOf 129) 43 = .ok (.bipush 16, 2)) (by decide +kernel)
theorem x_129_45 : Ev d 129 45 L (.int y :: .int x :: st) μ Q = Ev d 129 46 L (.int (x.toUInt32 >>> (y.toUInt32 &&& Int32.toUInt32 31)).toInt32 :: st) μ Q := e_iushr (by decide +kernel : decode (bOf 129) 45 = .ok (.iushr, 1))
theorem x_129_46 : Ev d 129 46 L (.int y :: .int x :: st) μ Q = Ev d 129 47 L (.int (x + y) :: st) μ Q := e_iadd (by decide +kernel : decode (bOf 129) 46 = .ok (.iadd, 1))
theorem x_129_47 : Ev d 129 47 (a0 :: L) (.int x :: st) μ Q = Ev d 129 48 (.int x :: L) st μ Q := e_istore_n (by decide +kernel : decode (bOf 129) 47 = .ok (.istore_n 0, 1)) (by show stOK _ 0 = true; simp [stOK])
theorem x_129_48 : Ev d 129 48 (.int x :: L) st μ Q = Ev d 129 49 (.int x :: L) (.int x :: st) μ Q := e_iload_n (by decide +kernel : decode (bOf 129) 48 = .ok (.iload_n 0, 1)) rfl
theorem x_129_49 : Ev d 129 49 L st μ Q = Ev d 129 51 L (.int (iI 63) :: st) μ Q := e_bipush (by decide +kernel : decode (bOf 129) 49 = .ok (.bipush 63, 2)) (by decide +kernel)
theorem x_129_51 : Ev d 129 51 L (.int y :: .int x :: st) μ Q = Ev d 129 52 L (.int (x &&& y) :: st) μ Q := e_iand (by decide +kernel : decode (bOf 129) 51 = .ok (.iand, 1))
theorem x_129_52 : Ev d 129 52 L [.int x] μ Q = Q (some (.int x)) μ := e_iret (by decide +kernel : decode (bOf 129) 52 = .ok (.ireturn, 1)) (by decide +kernel)
theorem c_131 : Call (d + 1) 131 [.ref r0] μ Q = Ev d 131 0 [.ref r0, .null, .null, .null] [] μ Q := call_ev rfl rfl
theorem x_131_0 : Ev d 131 0 L st ((N, S, K), V, A, P) Q = Ev d 131 3 L (.ref N :: st) ((N + 1, S + 12, up1 K N (4, 12)), up1 V N (rw' [.null, .null, .null, .null, .null, .null, .null, .null, .null, .int 0, .int 0, .int 0]), A, P) Q := e_new 12 [.null, .null, .null, .null, .null, .null, .null, .null, .null, .int 0, .int 0, .int 0] (by decide +kernel : decode (bOf 131) 0 = .ok (.new 7, 3)) (by decide +kernel) (by decide +kernel) (by decide +kernel) (by decide +kernel)
theorem x_131_3 : Ev d 131 3 L (.ref r :: st) μ Q = Ev d 131 4 L (.ref r :: .ref r :: st) μ Q := e_dup_a (by decide +kernel : decode (bOf 131) 3 = .ok (.dup, 1))
theorem x_131_4 : Ev d 131 4 L [.ref r, s0] μ Q = Call d 41 [.ref r] μ (fun v μ1 => Ev d 131 7 L (v.toList ++ [s0]) μ1 Q) := e_callI (a := []) (r := [s0]) (by decide +kernel : decode (bOf 131) 4 = .ok (.invokespecial 9, 3)) (by decide +kernel) (by decide +kernel) (by decide +kernel) (by decide +kernel) (by omega) rfl (by simp)
theorem x_131_7 (h : a0.category = 1) : Ev d 131 7 (a0 :: a1 :: L) (.ref r :: st) μ Q = Ev d 131 8 (a0 :: .ref r :: L) st μ Q := e_astore_n (by decide +kernel : decode (bOf 131) 7 = .ok (.astore_n 1, 1)) (by show stOK _ 1 = true; simp [stOK, h])
theorem x_131_8 : Ev d 131 8 L st ((N, S, K), V, A, P) Q = Ev d 131 11 L (.ref N :: st) ((N + 1, S + 32, up1 K N (5, 32)), up1 V N (rw' [.int 0, .null, .null, .int 0, .null, .null, .null, .int 0, .null, .int 0, .null, .null, .int 0, .int 0, .int 0, .int 0, .int 0, .int 0, .int 0, .null, .null, .null, .null, .int 0, .int 0, .null, .int 0, .int 0, .int 0, .int 0, .null, .null]), A, P) Q := e_new 32 [.int 0, .null, .null, .int 0, .null, .null, .null, .int 0, .null, .int 0, .null, .null, .int 0, .int 0, .int 0, .int 0, .int 0, .int 0, .int 0, .null, .null, .null, .null, .int 0, .int 0, .null, .int 0, .int 0, .int 0, .int 0, .null, .null] (by decide +kernel : decode (bOf 131) 8 = .ok (.new 10, 3)) (by decide +kernel) (by decide +kernel) (by decide +kernel) (by decide +kernel)
theorem x_131_11 : Ev d 131 11 L (.ref r :: st) μ Q = Ev d 131 12 L (.ref r :: .ref r :: st) μ Q := e_dup_a (by decide +kernel : decode (bOf 131) 11 = .ok (.dup, 1))
theorem x_131_12 : Ev d 131 12 L [.ref r, s0] μ Q = Call d 77 [.ref r] μ (fun v μ1 => Ev d 131 15 L (v.toList ++ [s0]) μ1 Q) := e_callI (a := []) (r := [s0]) (by decide +kernel : decode (bOf 131) 12 = .ok (.invokespecial 12, 3)) (by decide +kernel) (by decide +kernel) (by decide +kernel) (by decide +kernel) (by omega) rfl (by simp)
theorem x_131_15 (h : a1.category = 1) : Ev d 131 15 (a0 :: a1 :: a2 :: L) (.ref r :: st) μ Q = Ev d 131 16 (a0 :: a1 :: .ref r :: L) st μ Q := e_astore_n (by decide +kernel : decode (bOf 131) 15 = .ok (.astore_n 2, 1)) (by show stOK _ 2 = true; simp [stOK, h])
theorem x_131_16 : Ev d 131 16 L st μ Q = Ev d 131 17 L (.int (iI 0) :: st) μ Q := e_iconst (by decide +kernel : decode (bOf 131) 16 = .ok (.iconst 0, 1))
theorem x_131_17 (h : a2.category = 1) : Ev d 131 17 (a0 :: a1 :: a2 :: a3 :: L) (.int x :: st) μ Q = Ev d 131 18 (a0 :: a1 :: a2 :: .int x :: L) st μ Q := e_istore_n (by decide +kernel : decode (bOf 131) 17 = .ok (.istore_n 3, 1)) (by show stOK _ 3 = true; simp [stOK, h])
theorem x_131_18 : Ev d 131 18 (a0 :: a1 :: a2 :: .int x :: L) st μ Q = Ev d 131 19 (a0 :: a1 :: a2 :: .int x :: L) (.int x :: st) μ Q := e_iload_n (by decide +kernel : decode (bOf 131) 18 = .ok (.iload_n 3, 1)) rfl
theorem x_131_19 : Ev d 131 19 (.ref r :: L) st μ Q = Ev d 131 20 (.ref r :: L) (.ref r :: st) μ Q := e_aload_n (by decide +kernel : decode (bOf 131) 19 = .ok (.aload_n 0, 1)) rfl
theorem x_131_20 (h : kd t r = 10) : Ev d 131 20 L (.ref r :: st) (t, V, A, P) Q = Ev d 131 21 L (.int (Int32.ofNat (ln t r)) :: st) (t, V, A, P) Q := e_alen (by decide +kernel : decode (bOf 131) 20 = .ok (.arraylength, 1)) h
theorem x_131_21 : Ev d 131 21 L st μ Q = Ev d 131 22 L (.int (iI 5) :: st) μ Q := e_iconst (by decide +kernel : decode (bOf 131) 21 = .ok (.iconst 5, 1))
theorem x_131_22 : Ev d 131 22 L (.int y :: .int x :: st) μ Q = Ev d 131 23 L (.int (x - y) :: st) μ Q := e_isub (by decide +kernel : decode (bOf 131) 22 = .ok (.isub, 1))
theorem x_131_23 : Ev d 131 23 L (.int y :: .int x :: st) μ Q = if y < x then Ev d 131 661 L st μ Q else Ev d 131 26 L st μ Q := e_icmp_gt (by decide +kernel : decode (bOf 131) 23 = .ok (.if_icmp .gt 638, 3)) (by omega)
theorem x_131_26 : Ev d 131 26 (.ref r :: L) st μ Q = Ev d 131 27 (.ref r :: L) (.ref r :: st) μ Q := e_aload_n (by decide +kernel : decode (bOf 131) 26 = .ok (.aload_n 0, 1)) rfl
theorem x_131_27 : Ev d 131 27 (a0 :: a1 :: a2 :: .int x :: L) st μ Q = Ev d 131 28 (a0 :: a1 :: a2 :: .int x :: L) (.int x :: st) μ Q := e_iload_n (by decide +kernel : decode (bOf 131) 27 = .ok (.iload_n 3, 1)) rfl
theorem x_131_28 (h : kd t r = 10) (hi : inB x (ln t r) = true) : Ev d 131 28 L (.int x :: .ref r :: st) (t, V, A, P) Q = Ev d 131 29 L (.int (A r x.toNatClampNeg) :: st) (t, V, A, P) Q := e_iald_ro (by decide +kernel : decode (bOf 131) 28 = .ok (.iaload, 1)) h hi
theorem x_131_29 : Ev d 131 29 L st μ Q = Ev d 131 31 L (.int (iI 31) :: st) μ Q := e_bipush (by decide +kernel : decode (bOf 131) 29 = .ok (.bipush 31, 2)) (by decide +kernel)
theorem x_131_31 : Ev d 131 31 L (.int y :: .int x :: st) μ Q = Ev d 131 32 L (.int (x &&& y) :: st) μ Q := e_iand (by decide +kernel : decode (bOf 131) 31 = .ok (.iand, 1))
theorem x_131_32 : Ev d 131 32 L (.int x :: st) μ Q = if x = iI 0 then Ev d 131 132 L st μ Q else if x = iI 1 then Ev d 131 155 L st μ Q else if x = iI 2 then Ev d 131 168 L st μ Q else if x = iI 3 then Ev d 131 181 L st μ Q else if x = iI 4 then Ev d 131 204 L st μ Q else if x = iI 5 then Ev d 131 227 L st μ Q else if x = iI 6 then Ev d 131 250 L st μ Q else if x = iI 7 then Ev d 131 263 L st μ Q else if x = iI 8 then Ev d 131 276 L st μ Q else if x = iI 9 then Ev d 131 309 L st μ Q else if x = iI 10 then Ev d 131 332 L st μ Q else if x = iI 11 then Ev d 131 355 L st μ Q else if x = iI 12 then Ev d 131 378 L st μ Q else if x = iI 13 then Ev d 131 431 L st μ Q else if x = iI 14 then Ev d 131 474 L st μ Q else if x = iI 15 then Ev d 131 497 L st μ Q else if x = iI 16 then Ev d 131 530 L st μ Q else if x = iI 17 then Ev d 131 563 L st μ Q else if x = iI 18 then Ev d 131 586 L st μ Q else if x = iI 19 then Ev d 131 609 L st μ Q else if x = iI 20 then Ev d 131 632 L st μ Q else Ev d 131 655 L st μ Q := by
  have hd : decode (bOf 131) 32 = .ok (.tableswitch 623 0 20 #[100, 123, 136, 149, 172, 195, 218, 231, 244, 277, 300, 323, 346, 399, 442, 465, 498, 531, 554, 577, 600], 100) := by decide +kernel
  by_cases h0 : x = iI 0
  · rw [if_pos h0]; exact e_sw hd (sw_in (off := 100) h0 (by omega) (by omega) (by omega) rfl (by omega))
  rw [if_neg h0]
  by_cases h1 : x = iI 1
  · rw [if_pos h1]; exact e_sw hd (sw_in (off := 123) h1 (by omega) (by omega) (by omega) rfl (by omega))
  rw [if_neg h1]
  by_cases h2 : x = iI 2
  · rw [if_pos h2]; exact e_sw hd (sw_in (off := 136) h2 (by omega) (by omega) (by omega) rfl (by omega))
  rw [if_neg h2]
  by_cases h3 : x = iI 3
  · rw [if_pos h3]; exact e_sw hd (sw_in (off := 149) h3 (by omega) (by omega) (by omega) rfl (by omega))
  rw [if_neg h3]
  by_cases h4 : x = iI 4
  · rw [if_pos h4]; exact e_sw hd (sw_in (off := 172) h4 (by omega) (by omega) (by omega) rfl (by omega))
  rw [if_neg h4]
  by_cases h5 : x = iI 5
  · rw [if_pos h5]; exact e_sw hd (sw_in (off := 195) h5 (by omega) (by omega) (by omega) rfl (by omega))
  rw [if_neg h5]
  by_cases h6 : x = iI 6
  · rw [if_pos h6]; exact e_sw hd (sw_in (off := 218) h6 (by omega) (by omega) (by omega) rfl (by omega))
  rw [if_neg h6]
  by_cases h7 : x = iI 7
  · rw [if_pos h7]; exact e_sw hd (sw_in (off := 231) h7 (by omega) (by omega) (by omega) rfl (by omega))
  rw [if_neg h7]
  by_cases h8 : x = iI 8
  · rw [if_pos h8]; exact e_sw hd (sw_in (off := 244) h8 (by omega) (by omega) (by omega) rfl (by omega))
  rw [if_neg h8]
  by_cases h9 : x = iI 9
  · rw [if_pos h9]; exact e_sw hd (sw_in (off := 277) h9 (by omega) (by omega) (by omega) rfl (by omega))
  rw [if_neg h9]
  by_cases h10 : x = iI 10
  · rw [if_pos h10]; exact e_sw hd (sw_in (off := 300) h10 (by omega) (by omega) (by omega) rfl (by omega))
  rw [if_neg h10]
  by_cases h11 : x = iI 11
  · rw [if_pos h11]; exact e_sw hd (sw_in (off := 323) h11 (by omega) (by omega) (by omega) rfl (by omega))
  rw [if_neg h11]
  by_cases h12 : x = iI 12
  · rw [if_pos h12]; exact e_sw hd (sw_in (off := 346) h12 (by omega) (by omega) (by omega) rfl (by omega))
  rw [if_neg h12]
  by_cases h13 : x = iI 13
  · rw [if_pos h13]; exact e_sw hd (sw_in (off := 399) h13 (by omega) (by omega) (by omega) rfl (by omega))
  rw [if_neg h13]
  by_cases h14 : x = iI 14
  · rw [if_pos h14]; exact e_sw hd (sw_in (off := 442) h14 (by omega) (by omega) (by omega) rfl (by omega))
  rw [if_neg h14]
  by_cases h15 : x = iI 15
  · rw [if_pos h15]; exact e_sw hd (sw_in (off := 465) h15 (by omega) (by omega) (by omega) rfl (by omega))
  rw [if_neg h15]
  by_cases h16 : x = iI 16
  · rw [if_pos h16]; exact e_sw hd (sw_in (off := 498) h16 (by omega) (by omega) (by omega) rfl (by omega))
  rw [if_neg h16]
  by_cases h17 : x = iI 17
  · rw [if_pos h17]; exact e_sw hd (sw_in (off := 531) h17 (by omega) (by omega) (by omega) rfl (by omega))
  rw [if_neg h17]
  by_cases h18 : x = iI 18
  · rw [if_pos h18]; exact e_sw hd (sw_in (off := 554) h18 (by omega) (by omega) (by omega) rfl (by omega))
  rw [if_neg h18]
  by_cases h19 : x = iI 19
  · rw [if_pos h19]; exact e_sw hd (sw_in (off := 577) h19 (by omega) (by omega) (by omega) rfl (by omega))
  rw [if_neg h19]
  by_cases h20 : x = iI 20
  · rw [if_pos h20]; exact e_sw hd (sw_in (off := 600) h20 (by omega) (by omega) (by omega) rfl (by omega))
  rw [if_neg h20]
  have g0 := ne_toInt h0
  have g1 := ne_toInt h1
  have g2 := ne_toInt h2
  have g3 := ne_toInt h3
  have g4 := ne_toInt h4
  have g5 := ne_toInt h5
  have g6 := ne_toInt h6
  have g7 := ne_toInt h7
  have g8 := ne_toInt h8
  have g9 := ne_toInt h9
  have g10 := ne_toInt h10
  have g11 := ne_toInt h11
  have g12 := ne_toInt h12
  have g13 := ne_toInt h13
  have g14 := ne_toInt h14
  have g15 := ne_toInt h15
  have g16 := ne_toInt h16
  have g17 := ne_toInt h17
  have g18 := ne_toInt h18
  have g19 := ne_toInt h19
  have g20 := ne_toInt h20
  exact e_sw hd (sw_out (by omega) (by omega))
theorem x_131_132 : Ev d 131 132 (a0 :: .ref r :: L) st μ Q = Ev d 131 133 (a0 :: .ref r :: L) (.ref r :: st) μ Q := e_aload_n (by decide +kernel : decode (bOf 131) 132 = .ok (.aload_n 1, 1)) rfl
theorem x_131_133 : Ev d 131 133 (.ref r :: L) st μ Q = Ev d 131 134 (.ref r :: L) (.ref r :: st) μ Q := e_aload_n (by decide +kernel : decode (bOf 131) 133 = .ok (.aload_n 0, 1)) rfl
theorem x_131_134 : Ev d 131 134 (a0 :: a1 :: a2 :: .int x :: L) st μ Q = Ev d 131 135 (a0 :: a1 :: a2 :: .int x :: L) (.int x :: st) μ Q := e_iload_n (by decide +kernel : decode (bOf 131) 134 = .ok (.iload_n 3, 1)) rfl
theorem x_131_135 : Ev d 131 135 L st μ Q = Ev d 131 136 L (.int (iI 1) :: st) μ Q := e_iconst (by decide +kernel : decode (bOf 131) 135 = .ok (.iconst 1, 1))
theorem x_131_136 : Ev d 131 136 L (.int y :: .int x :: st) μ Q = Ev d 131 137 L (.int (x + y) :: st) μ Q := e_iadd (by decide +kernel : decode (bOf 131) 136 = .ok (.iadd, 1))
theorem x_131_137 (h : kd t r = 10) (hi : inB x (ln t r) = true) : Ev d 131 137 L (.int x :: .ref r :: st) (t, V, A, P) Q = Ev d 131 138 L (.int (A r x.toNatClampNeg) :: st) (t, V, A, P) Q := e_iald_ro (by decide +kernel : decode (bOf 131) 137 = .ok (.iaload, 1)) h hi
theorem x_131_138 (h : kd t r = 4) : Ev d 131 138 L [b0, .ref r] (t, V, A, P) Q = Call d 42 [.ref r, b0] (t, V, A, P) (fun v μ1 => Ev d 131 141 L (v.toList ++ []) μ1 Q) := e_callV (a := [b0]) (r := []) (by decide +kernel : decode (bOf 131) 138 = .ok (.invokevirtual 13, 3)) (by decide +kernel) (by decide +kernel) (by decide +kernel) (by omega) rfl (by simp) (by decide +kernel) h
theorem x_131_141 : Ev d 131 141 (a0 :: a1 :: .ref r :: L) st μ Q = Ev d 131 142 (a0 :: a1 :: .ref r :: L) (.ref r :: st) μ Q := e_aload_n (by decide +kernel : decode (bOf 131) 141 = .ok (.aload_n 2, 1)) rfl
theorem x_131_142 : Ev d 131 142 (.ref r :: L) st μ Q = Ev d 131 143 (.ref r :: L) (.ref r :: st) μ Q := e_aload_n (by decide +kernel : decode (bOf 131) 142 = .ok (.aload_n 0, 1)) rfl
theorem x_131_143 : Ev d 131 143 (a0 :: a1 :: a2 :: .int x :: L) st μ Q = Ev d 131 144 (a0 :: a1 :: a2 :: .int x :: L) (.int x :: st) μ Q := e_iload_n (by decide +kernel : decode (bOf 131) 143 = .ok (.iload_n 3, 1)) rfl
theorem x_131_144 : Ev d 131 144 L st μ Q = Ev d 131 145 L (.int (iI 1) :: st) μ Q := e_iconst (by decide +kernel : decode (bOf 131) 144 = .ok (.iconst 1, 1))
theorem x_131_145 : Ev d 131 145 L (.int y :: .int x :: st) μ Q = Ev d 131 146 L (.int (x + y) :: st) μ Q := e_iadd (by decide +kernel : decode (bOf 131) 145 = .ok (.iadd, 1))
theorem x_131_146 (h : kd t r = 10) (hi : inB x (ln t r) = true) : Ev d 131 146 L (.int x :: .ref r :: st) (t, V, A, P) Q = Ev d 131 147 L (.int (A r x.toNatClampNeg) :: st) (t, V, A, P) Q := e_iald_ro (by decide +kernel : decode (bOf 131) 146 = .ok (.iaload, 1)) h hi
theorem x_131_147 (h : kd t r = 5) : Ev d 131 147 L [b0, .ref r, s0] (t, V, A, P) Q = Call d 86 [.ref r, b0] (t, V, A, P) (fun v μ1 => Ev d 131 150 L (v.toList ++ [s0]) μ1 Q) := e_callV (a := [b0]) (r := [s0]) (by decide +kernel : decode (bOf 131) 147 = .ok (.invokevirtual 17, 3)) (by decide +kernel) (by decide +kernel) (by decide +kernel) (by omega) rfl (by simp) (by decide +kernel) h
theorem x_131_150 : Ev d 131 150 L (.int y :: .int x :: st) μ Q = if x = y then Ev d 131 655 L st μ Q else Ev d 131 153 L st μ Q := e_icmp_eq (by decide +kernel : decode (bOf 131) 150 = .ok (.if_icmp .eq 505, 3)) (by omega)
theorem x_131_153 : Ev d 131 153 L st μ Q = Ev d 131 154 L (.int (iI 0) :: st) μ Q := e_iconst (by decide +kernel : decode (bOf 131) 153 = .ok (.iconst 0, 1))
theorem x_131_154 (hx : isB x) : Ev d 131 154 L [.int x] μ Q = Q (some (.int x)) μ := e_zret (by decide +kernel : decode (bOf 131) 154 = .ok (.ireturn, 1)) (by decide +kernel) hx
theorem x_131_155 : Ev d 131 155 (a0 :: .ref r :: L) st μ Q = Ev d 131 156 (a0 :: .ref r :: L) (.ref r :: st) μ Q := e_aload_n (by decide +kernel : decode (bOf 131) 155 = .ok (.aload_n 1, 1)) rfl
theorem x_131_156 (h : kd t r = 4) : Ev d 131 156 L [.ref r] (t, V, A, P) Q = Call d 43 [.ref r] (t, V, A, P) (fun v μ1 => Ev d 131 159 L (v.toList ++ []) μ1 Q) := e_callV (a := []) (r := []) (by decide +kernel : decode (bOf 131) 156 = .ok (.invokevirtual 18, 3)) (by decide +kernel) (by decide +kernel) (by decide +kernel) (by omega) rfl (by simp) (by decide +kernel) h
theorem x_131_159 : Ev d 131 159 (a0 :: a1 :: .ref r :: L) st μ Q = Ev d 131 160 (a0 :: a1 :: .ref r :: L) (.ref r :: st) μ Q := e_aload_n (by decide +kernel : decode (bOf 131) 159 = .ok (.aload_n 2, 1)) rfl
theorem x_131_160 (h : kd t r = 5) : Ev d 131 160 L [.ref r, s0] (t, V, A, P) Q = Call d 87 [.ref r] (t, V, A, P) (fun v μ1 => Ev d 131 163 L (v.toList ++ [s0]) μ1 Q) := e_callV (a := []) (r := [s0]) (by decide +kernel : decode (bOf 131) 160 = .ok (.invokevirtual 22, 3)) (by decide +kernel) (by decide +kernel) (by decide +kernel) (by omega) rfl (by simp) (by decide +kernel) h
theorem x_131_163 : Ev d 131 163 L (.int y :: .int x :: st) μ Q = if x = y then Ev d 131 655 L st μ Q else Ev d 131 166 L st μ Q := e_icmp_eq (by decide +kernel : decode (bOf 131) 163 = .ok (.if_icmp .eq 492, 3)) (by omega)
theorem x_131_166 : Ev d 131 166 L st μ Q = Ev d 131 167 L (.int (iI 0) :: st) μ Q := e_iconst (by decide +kernel : decode (bOf 131) 166 = .ok (.iconst 0, 1))
theorem x_131_167 (hx : isB x) : Ev d 131 167 L [.int x] μ Q = Q (some (.int x)) μ := e_zret (by decide +kernel : decode (bOf 131) 167 = .ok (.ireturn, 1)) (by decide +kernel) hx
theorem x_131_168 : Ev d 131 168 (a0 :: .ref r :: L) st μ Q = Ev d 131 169 (a0 :: .ref r :: L) (.ref r :: st) μ Q := e_aload_n (by decide +kernel : decode (bOf 131) 168 = .ok (.aload_n 1, 1)) rfl
theorem x_131_169 (h : kd t r = 4) : Ev d 131 169 L [.ref r] (t, V, A, P) Q = Call d 44 [.ref r] (t, V, A, P) (fun v μ1 => Ev d 131 172 L (v.toList ++ []) μ1 Q) := e_callV (a := []) (r := []) (by decide +kernel : decode (bOf 131) 169 = .ok (.invokevirtual 23, 3)) (by decide +kernel) (by decide +kernel) (by decide +kernel) (by omega) rfl (by simp) (by decide +kernel) h
theorem x_131_172 : Ev d 131 172 (a0 :: a1 :: .ref r :: L) st μ Q = Ev d 131 173 (a0 :: a1 :: .ref r :: L) (.ref r :: st) μ Q := e_aload_n (by decide +kernel : decode (bOf 131) 172 = .ok (.aload_n 2, 1)) rfl
theorem x_131_173 (h : kd t r = 5) : Ev d 131 173 L [.ref r, s0] (t, V, A, P) Q = Call d 91 [.ref r] (t, V, A, P) (fun v μ1 => Ev d 131 176 L (v.toList ++ [s0]) μ1 Q) := e_callV (a := []) (r := [s0]) (by decide +kernel : decode (bOf 131) 173 = .ok (.invokevirtual 26, 3)) (by decide +kernel) (by decide +kernel) (by decide +kernel) (by omega) rfl (by simp) (by decide +kernel) h
theorem x_131_176 : Ev d 131 176 L (.int y :: .int x :: st) μ Q = if x = y then Ev d 131 655 L st μ Q else Ev d 131 179 L st μ Q := e_icmp_eq (by decide +kernel : decode (bOf 131) 176 = .ok (.if_icmp .eq 479, 3)) (by omega)
theorem x_131_179 : Ev d 131 179 L st μ Q = Ev d 131 180 L (.int (iI 0) :: st) μ Q := e_iconst (by decide +kernel : decode (bOf 131) 179 = .ok (.iconst 0, 1))
theorem x_131_180 (hx : isB x) : Ev d 131 180 L [.int x] μ Q = Q (some (.int x)) μ := e_zret (by decide +kernel : decode (bOf 131) 180 = .ok (.ireturn, 1)) (by decide +kernel) hx
theorem x_131_181 : Ev d 131 181 (a0 :: .ref r :: L) st μ Q = Ev d 131 182 (a0 :: .ref r :: L) (.ref r :: st) μ Q := e_aload_n (by decide +kernel : decode (bOf 131) 181 = .ok (.aload_n 1, 1)) rfl
theorem x_131_182 : Ev d 131 182 (.ref r :: L) st μ Q = Ev d 131 183 (.ref r :: L) (.ref r :: st) μ Q := e_aload_n (by decide +kernel : decode (bOf 131) 182 = .ok (.aload_n 0, 1)) rfl
theorem x_131_183 : Ev d 131 183 (a0 :: a1 :: a2 :: .int x :: L) st μ Q = Ev d 131 184 (a0 :: a1 :: a2 :: .int x :: L) (.int x :: st) μ Q := e_iload_n (by decide +kernel : decode (bOf 131) 183 = .ok (.iload_n 3, 1)) rfl
theorem x_131_184 : Ev d 131 184 L st μ Q = Ev d 131 185 L (.int (iI 1) :: st) μ Q := e_iconst (by decide +kernel : decode (bOf 131) 184 = .ok (.iconst 1, 1))
theorem x_131_185 : Ev d 131 185 L (.int y :: .int x :: st) μ Q = Ev d 131 186 L (.int (x + y) :: st) μ Q := e_iadd (by decide +kernel : decode (bOf 131) 185 = .ok (.iadd, 1))
theorem x_131_186 (h : kd t r = 10) (hi : inB x (ln t r) = true) : Ev d 131 186 L (.int x :: .ref r :: st) (t, V, A, P) Q = Ev d 131 187 L (.int (A r x.toNatClampNeg) :: st) (t, V, A, P) Q := e_iald_ro (by decide +kernel : decode (bOf 131) 186 = .ok (.iaload, 1)) h hi
theorem x_131_187 (h : kd t r = 4) : Ev d 131 187 L [b0, .ref r] (t, V, A, P) Q = Call d 45 [.ref r, b0] (t, V, A, P) (fun v μ1 => Ev d 131 190 L (v.toList ++ []) μ1 Q) := e_callV (a := [b0]) (r := []) (by decide +kernel : decode (bOf 131) 187 = .ok (.invokevirtual 27, 3)) (by decide +kernel) (by decide +kernel) (by decide +kernel) (by omega) rfl (by simp) (by decide +kernel) h
theorem x_131_190 : Ev d 131 190 (a0 :: a1 :: .ref r :: L) st μ Q = Ev d 131 191 (a0 :: a1 :: .ref r :: L) (.ref r :: st) μ Q := e_aload_n (by decide +kernel : decode (bOf 131) 190 = .ok (.aload_n 2, 1)) rfl
theorem x_131_191 : Ev d 131 191 (.ref r :: L) st μ Q = Ev d 131 192 (.ref r :: L) (.ref r :: st) μ Q := e_aload_n (by decide +kernel : decode (bOf 131) 191 = .ok (.aload_n 0, 1)) rfl
theorem x_131_192 : Ev d 131 192 (a0 :: a1 :: a2 :: .int x :: L) st μ Q = Ev d 131 193 (a0 :: a1 :: a2 :: .int x :: L) (.int x :: st) μ Q := e_iload_n (by decide +kernel : decode (bOf 131) 192 = .ok (.iload_n 3, 1)) rfl
theorem x_131_193 : Ev d 131 193 L st μ Q = Ev d 131 194 L (.int (iI 1) :: st) μ Q := e_iconst (by decide +kernel : decode (bOf 131) 193 = .ok (.iconst 1, 1))
theorem x_131_194 : Ev d 131 194 L (.int y :: .int x :: st) μ Q = Ev d 131 195 L (.int (x + y) :: st) μ Q := e_iadd (by decide +kernel : decode (bOf 131) 194 = .ok (.iadd, 1))
theorem x_131_195 (h : kd t r = 10) (hi : inB x (ln t r) = true) : Ev d 131 195 L (.int x :: .ref r :: st) (t, V, A, P) Q = Ev d 131 196 L (.int (A r x.toNatClampNeg) :: st) (t, V, A, P) Q := e_iald_ro (by decide +kernel : decode (bOf 131) 195 = .ok (.iaload, 1)) h hi
theorem x_131_196 (h : kd t r = 5) : Ev d 131 196 L [b0, .ref r, s0] (t, V, A, P) Q = Call d 95 [.ref r, b0] (t, V, A, P) (fun v μ1 => Ev d 131 199 L (v.toList ++ [s0]) μ1 Q) := e_callV (a := [b0]) (r := [s0]) (by decide +kernel : decode (bOf 131) 196 = .ok (.invokevirtual 30, 3)) (by decide +kernel) (by decide +kernel) (by decide +kernel) (by omega) rfl (by simp) (by decide +kernel) h
theorem x_131_199 : Ev d 131 199 L (.int y :: .int x :: st) μ Q = if x = y then Ev d 131 655 L st μ Q else Ev d 131 202 L st μ Q := e_icmp_eq (by decide +kernel : decode (bOf 131) 199 = .ok (.if_icmp .eq 456, 3)) (by omega)
theorem x_131_202 : Ev d 131 202 L st μ Q = Ev d 131 203 L (.int (iI 0) :: st) μ Q := e_iconst (by decide +kernel : decode (bOf 131) 202 = .ok (.iconst 0, 1))
theorem x_131_203 (hx : isB x) : Ev d 131 203 L [.int x] μ Q = Q (some (.int x)) μ := e_zret (by decide +kernel : decode (bOf 131) 203 = .ok (.ireturn, 1)) (by decide +kernel) hx
theorem x_131_204 : Ev d 131 204 (a0 :: .ref r :: L) st μ Q = Ev d 131 205 (a0 :: .ref r :: L) (.ref r :: st) μ Q := e_aload_n (by decide +kernel : decode (bOf 131) 204 = .ok (.aload_n 1, 1)) rfl
theorem x_131_205 : Ev d 131 205 (.ref r :: L) st μ Q = Ev d 131 206 (.ref r :: L) (.ref r :: st) μ Q := e_aload_n (by decide +kernel : decode (bOf 131) 205 = .ok (.aload_n 0, 1)) rfl
theorem x_131_206 : Ev d 131 206 (a0 :: a1 :: a2 :: .int x :: L) st μ Q = Ev d 131 207 (a0 :: a1 :: a2 :: .int x :: L) (.int x :: st) μ Q := e_iload_n (by decide +kernel : decode (bOf 131) 206 = .ok (.iload_n 3, 1)) rfl
theorem x_131_207 : Ev d 131 207 L st μ Q = Ev d 131 208 L (.int (iI 1) :: st) μ Q := e_iconst (by decide +kernel : decode (bOf 131) 207 = .ok (.iconst 1, 1))
theorem x_131_208 : Ev d 131 208 L (.int y :: .int x :: st) μ Q = Ev d 131 209 L (.int (x + y) :: st) μ Q := e_iadd (by decide +kernel : decode (bOf 131) 208 = .ok (.iadd, 1))
theorem x_131_209 (h : kd t r = 10) (hi : inB x (ln t r) = true) : Ev d 131 209 L (.int x :: .ref r :: st) (t, V, A, P) Q = Ev d 131 210 L (.int (A r x.toNatClampNeg) :: st) (t, V, A, P) Q := e_iald_ro (by decide +kernel : decode (bOf 131) 209 = .ok (.iaload, 1)) h hi
theorem x_131_210 (h : kd t r = 4) : Ev d 131 210 L [b0, .ref r] (t, V, A, P) Q = Call d 46 [.ref r, b0] (t, V, A, P) (fun v μ1 => Ev d 131 213 L (v.toList ++ []) μ1 Q) := e_callV (a := [b0]) (r := []) (by decide +kernel : decode (bOf 131) 210 = .ok (.invokevirtual 31, 3)) (by decide +kernel) (by decide +kernel) (by decide +kernel) (by omega) rfl (by simp) (by decide +kernel) h
theorem x_131_213 : Ev d 131 213 (a0 :: a1 :: .ref r :: L) st μ Q = Ev d 131 214 (a0 :: a1 :: .ref r :: L) (.ref r :: st) μ Q := e_aload_n (by decide +kernel : decode (bOf 131) 213 = .ok (.aload_n 2, 1)) rfl
theorem x_131_214 : Ev d 131 214 (.ref r :: L) st μ Q = Ev d 131 215 (.ref r :: L) (.ref r :: st) μ Q := e_aload_n (by decide +kernel : decode (bOf 131) 214 = .ok (.aload_n 0, 1)) rfl
theorem x_131_215 : Ev d 131 215 (a0 :: a1 :: a2 :: .int x :: L) st μ Q = Ev d 131 216 (a0 :: a1 :: a2 :: .int x :: L) (.int x :: st) μ Q := e_iload_n (by decide +kernel : decode (bOf 131) 215 = .ok (.iload_n 3, 1)) rfl
theorem x_131_216 : Ev d 131 216 L st μ Q = Ev d 131 217 L (.int (iI 1) :: st) μ Q := e_iconst (by decide +kernel : decode (bOf 131) 216 = .ok (.iconst 1, 1))
theorem x_131_217 : Ev d 131 217 L (.int y :: .int x :: st) μ Q = Ev d 131 218 L (.int (x + y) :: st) μ Q := e_iadd (by decide +kernel : decode (bOf 131) 217 = .ok (.iadd, 1))
theorem x_131_218 (h : kd t r = 10) (hi : inB x (ln t r) = true) : Ev d 131 218 L (.int x :: .ref r :: st) (t, V, A, P) Q = Ev d 131 219 L (.int (A r x.toNatClampNeg) :: st) (t, V, A, P) Q := e_iald_ro (by decide +kernel : decode (bOf 131) 218 = .ok (.iaload, 1)) h hi
theorem x_131_219 (h : kd t r = 5) : Ev d 131 219 L [b0, .ref r, s0] (t, V, A, P) Q = Call d 96 [.ref r, b0] (t, V, A, P) (fun v μ1 => Ev d 131 222 L (v.toList ++ [s0]) μ1 Q) := e_callV (a := [b0]) (r := [s0]) (by decide +kernel : decode (bOf 131) 219 = .ok (.invokevirtual 34, 3)) (by decide +kernel) (by decide +kernel) (by decide +kernel) (by omega) rfl (by simp) (by decide +kernel) h
theorem x_131_222 : Ev d 131 222 L (.int y :: .int x :: st) μ Q = if x = y then Ev d 131 655 L st μ Q else Ev d 131 225 L st μ Q := e_icmp_eq (by decide +kernel : decode (bOf 131) 222 = .ok (.if_icmp .eq 433, 3)) (by omega)
theorem x_131_225 : Ev d 131 225 L st μ Q = Ev d 131 226 L (.int (iI 0) :: st) μ Q := e_iconst (by decide +kernel : decode (bOf 131) 225 = .ok (.iconst 0, 1))
theorem x_131_226 (hx : isB x) : Ev d 131 226 L [.int x] μ Q = Q (some (.int x)) μ := e_zret (by decide +kernel : decode (bOf 131) 226 = .ok (.ireturn, 1)) (by decide +kernel) hx
theorem x_131_227 : Ev d 131 227 (a0 :: .ref r :: L) st μ Q = Ev d 131 228 (a0 :: .ref r :: L) (.ref r :: st) μ Q := e_aload_n (by decide +kernel : decode (bOf 131) 227 = .ok (.aload_n 1, 1)) rfl
theorem x_131_228 : Ev d 131 228 (.ref r :: L) st μ Q = Ev d 131 229 (.ref r :: L) (.ref r :: st) μ Q := e_aload_n (by decide +kernel : decode (bOf 131) 228 = .ok (.aload_n 0, 1)) rfl
theorem x_131_229 : Ev d 131 229 (a0 :: a1 :: a2 :: .int x :: L) st μ Q = Ev d 131 230 (a0 :: a1 :: a2 :: .int x :: L) (.int x :: st) μ Q := e_iload_n (by decide +kernel : decode (bOf 131) 229 = .ok (.iload_n 3, 1)) rfl
theorem x_131_230 : Ev d 131 230 L st μ Q = Ev d 131 231 L (.int (iI 1) :: st) μ Q := e_iconst (by decide +kernel : decode (bOf 131) 230 = .ok (.iconst 1, 1))
theorem x_131_231 : Ev d 131 231 L (.int y :: .int x :: st) μ Q = Ev d 131 232 L (.int (x + y) :: st) μ Q := e_iadd (by decide +kernel : decode (bOf 131) 231 = .ok (.iadd, 1))
theorem x_131_232 (h : kd t r = 10) (hi : inB x (ln t r) = true) : Ev d 131 232 L (.int x :: .ref r :: st) (t, V, A, P) Q = Ev d 131 233 L (.int (A r x.toNatClampNeg) :: st) (t, V, A, P) Q := e_iald_ro (by decide +kernel : decode (bOf 131) 232 = .ok (.iaload, 1)) h hi
theorem x_131_233 (h : kd t r = 4) : Ev d 131 233 L [b0, .ref r] (t, V, A, P) Q = Call d 47 [.ref r, b0] (t, V, A, P) (fun v μ1 => Ev d 131 236 L (v.toList ++ []) μ1 Q) := e_callV (a := [b0]) (r := []) (by decide +kernel : decode (bOf 131) 233 = .ok (.invokevirtual 35, 3)) (by decide +kernel) (by decide +kernel) (by decide +kernel) (by omega) rfl (by simp) (by decide +kernel) h
theorem x_131_236 : Ev d 131 236 (a0 :: a1 :: .ref r :: L) st μ Q = Ev d 131 237 (a0 :: a1 :: .ref r :: L) (.ref r :: st) μ Q := e_aload_n (by decide +kernel : decode (bOf 131) 236 = .ok (.aload_n 2, 1)) rfl
theorem x_131_237 : Ev d 131 237 (.ref r :: L) st μ Q = Ev d 131 238 (.ref r :: L) (.ref r :: st) μ Q := e_aload_n (by decide +kernel : decode (bOf 131) 237 = .ok (.aload_n 0, 1)) rfl
theorem x_131_238 : Ev d 131 238 (a0 :: a1 :: a2 :: .int x :: L) st μ Q = Ev d 131 239 (a0 :: a1 :: a2 :: .int x :: L) (.int x :: st) μ Q := e_iload_n (by decide +kernel : decode (bOf 131) 238 = .ok (.iload_n 3, 1)) rfl
theorem x_131_239 : Ev d 131 239 L st μ Q = Ev d 131 240 L (.int (iI 1) :: st) μ Q := e_iconst (by decide +kernel : decode (bOf 131) 239 = .ok (.iconst 1, 1))
theorem x_131_240 : Ev d 131 240 L (.int y :: .int x :: st) μ Q = Ev d 131 241 L (.int (x + y) :: st) μ Q := e_iadd (by decide +kernel : decode (bOf 131) 240 = .ok (.iadd, 1))
theorem x_131_241 (h : kd t r = 10) (hi : inB x (ln t r) = true) : Ev d 131 241 L (.int x :: .ref r :: st) (t, V, A, P) Q = Ev d 131 242 L (.int (A r x.toNatClampNeg) :: st) (t, V, A, P) Q := e_iald_ro (by decide +kernel : decode (bOf 131) 241 = .ok (.iaload, 1)) h hi
theorem x_131_242 (h : kd t r = 5) : Ev d 131 242 L [b0, .ref r, s0] (t, V, A, P) Q = Call d 98 [.ref r, b0] (t, V, A, P) (fun v μ1 => Ev d 131 245 L (v.toList ++ [s0]) μ1 Q) := e_callV (a := [b0]) (r := [s0]) (by decide +kernel : decode (bOf 131) 242 = .ok (.invokevirtual 38, 3)) (by decide +kernel) (by decide +kernel) (by decide +kernel) (by omega) rfl (by simp) (by decide +kernel) h
theorem x_131_245 : Ev d 131 245 L (.int y :: .int x :: st) μ Q = if x = y then Ev d 131 655 L st μ Q else Ev d 131 248 L st μ Q := e_icmp_eq (by decide +kernel : decode (bOf 131) 245 = .ok (.if_icmp .eq 410, 3)) (by omega)
theorem x_131_248 : Ev d 131 248 L st μ Q = Ev d 131 249 L (.int (iI 0) :: st) μ Q := e_iconst (by decide +kernel : decode (bOf 131) 248 = .ok (.iconst 0, 1))
theorem x_131_249 (hx : isB x) : Ev d 131 249 L [.int x] μ Q = Q (some (.int x)) μ := e_zret (by decide +kernel : decode (bOf 131) 249 = .ok (.ireturn, 1)) (by decide +kernel) hx
theorem x_131_250 : Ev d 131 250 (a0 :: .ref r :: L) st μ Q = Ev d 131 251 (a0 :: .ref r :: L) (.ref r :: st) μ Q := e_aload_n (by decide +kernel : decode (bOf 131) 250 = .ok (.aload_n 1, 1)) rfl
theorem x_131_251 (h : kd t r = 4) : Ev d 131 251 L [.ref r] (t, V, A, P) Q = Call d 48 [.ref r] (t, V, A, P) (fun v μ1 => Ev d 131 254 L (v.toList ++ []) μ1 Q) := e_callV (a := []) (r := []) (by decide +kernel : decode (bOf 131) 251 = .ok (.invokevirtual 39, 3)) (by decide +kernel) (by decide +kernel) (by decide +kernel) (by omega) rfl (by simp) (by decide +kernel) h
theorem x_131_254 : Ev d 131 254 (a0 :: a1 :: .ref r :: L) st μ Q = Ev d 131 255 (a0 :: a1 :: .ref r :: L) (.ref r :: st) μ Q := e_aload_n (by decide +kernel : decode (bOf 131) 254 = .ok (.aload_n 2, 1)) rfl
theorem x_131_255 (h : kd t r = 5) : Ev d 131 255 L [.ref r, s0] (t, V, A, P) Q = Call d 99 [.ref r] (t, V, A, P) (fun v μ1 => Ev d 131 258 L (v.toList ++ [s0]) μ1 Q) := e_callV (a := []) (r := [s0]) (by decide +kernel : decode (bOf 131) 255 = .ok (.invokevirtual 42, 3)) (by decide +kernel) (by decide +kernel) (by decide +kernel) (by omega) rfl (by simp) (by decide +kernel) h
theorem x_131_258 : Ev d 131 258 L (.int y :: .int x :: st) μ Q = if x = y then Ev d 131 655 L st μ Q else Ev d 131 261 L st μ Q := e_icmp_eq (by decide +kernel : decode (bOf 131) 258 = .ok (.if_icmp .eq 397, 3)) (by omega)
theorem x_131_261 : Ev d 131 261 L st μ Q = Ev d 131 262 L (.int (iI 0) :: st) μ Q := e_iconst (by decide +kernel : decode (bOf 131) 261 = .ok (.iconst 0, 1))
theorem x_131_262 (hx : isB x) : Ev d 131 262 L [.int x] μ Q = Q (some (.int x)) μ := e_zret (by decide +kernel : decode (bOf 131) 262 = .ok (.ireturn, 1)) (by decide +kernel) hx
theorem x_131_263 : Ev d 131 263 (a0 :: .ref r :: L) st μ Q = Ev d 131 264 (a0 :: .ref r :: L) (.ref r :: st) μ Q := e_aload_n (by decide +kernel : decode (bOf 131) 263 = .ok (.aload_n 1, 1)) rfl
theorem x_131_264 (h : kd t r = 4) : Ev d 131 264 L [.ref r] (t, V, A, P) Q = Call d 49 [.ref r] (t, V, A, P) (fun v μ1 => Ev d 131 267 L (v.toList ++ []) μ1 Q) := e_callV (a := []) (r := []) (by decide +kernel : decode (bOf 131) 264 = .ok (.invokevirtual 43, 3)) (by decide +kernel) (by decide +kernel) (by decide +kernel) (by omega) rfl (by simp) (by decide +kernel) h
theorem x_131_267 : Ev d 131 267 (a0 :: a1 :: .ref r :: L) st μ Q = Ev d 131 268 (a0 :: a1 :: .ref r :: L) (.ref r :: st) μ Q := e_aload_n (by decide +kernel : decode (bOf 131) 267 = .ok (.aload_n 2, 1)) rfl
theorem x_131_268 (h : kd t r = 5) : Ev d 131 268 L [.ref r, s0] (t, V, A, P) Q = Call d 100 [.ref r] (t, V, A, P) (fun v μ1 => Ev d 131 271 L (v.toList ++ [s0]) μ1 Q) := e_callV (a := []) (r := [s0]) (by decide +kernel : decode (bOf 131) 268 = .ok (.invokevirtual 46, 3)) (by decide +kernel) (by decide +kernel) (by decide +kernel) (by omega) rfl (by simp) (by decide +kernel) h
theorem x_131_271 : Ev d 131 271 L (.int y :: .int x :: st) μ Q = if x = y then Ev d 131 655 L st μ Q else Ev d 131 274 L st μ Q := e_icmp_eq (by decide +kernel : decode (bOf 131) 271 = .ok (.if_icmp .eq 384, 3)) (by omega)
theorem x_131_274 : Ev d 131 274 L st μ Q = Ev d 131 275 L (.int (iI 0) :: st) μ Q := e_iconst (by decide +kernel : decode (bOf 131) 274 = .ok (.iconst 0, 1))
theorem x_131_275 (hx : isB x) : Ev d 131 275 L [.int x] μ Q = Q (some (.int x)) μ := e_zret (by decide +kernel : decode (bOf 131) 275 = .ok (.ireturn, 1)) (by decide +kernel) hx
theorem x_131_276 : Ev d 131 276 (a0 :: .ref r :: L) st μ Q = Ev d 131 277 (a0 :: .ref r :: L) (.ref r :: st) μ Q := e_aload_n (by decide +kernel : decode (bOf 131) 276 = .ok (.aload_n 1, 1)) rfl
theorem x_131_277 : Ev d 131 277 (.ref r :: L) st μ Q = Ev d 131 278 (.ref r :: L) (.ref r :: st) μ Q := e_aload_n (by decide +kernel : decode (bOf 131) 277 = .ok (.aload_n 0, 1)) rfl
theorem x_131_278 : Ev d 131 278 (a0 :: a1 :: a2 :: .int x :: L) st μ Q = Ev d 131 279 (a0 :: a1 :: a2 :: .int x :: L) (.int x :: st) μ Q := e_iload_n (by decide +kernel : decode (bOf 131) 278 = .ok (.iload_n 3, 1)) rfl
theorem x_131_279 : Ev d 131 279 L st μ Q = Ev d 131 280 L (.int (iI 1) :: st) μ Q := e_iconst (by decide +kernel : decode (bOf 131) 279 = .ok (.iconst 1, 1))
theorem x_131_280 : Ev d 131 280 L (.int y :: .int x :: st) μ Q = Ev d 131 281 L (.int (x + y) :: st) μ Q := e_iadd (by decide +kernel : decode (bOf 131) 280 = .ok (.iadd, 1))
theorem x_131_281 (h : kd t r = 10) (hi : inB x (ln t r) = true) : Ev d 131 281 L (.int x :: .ref r :: st) (t, V, A, P) Q = Ev d 131 282 L (.int (A r x.toNatClampNeg) :: st) (t, V, A, P) Q := e_iald_ro (by decide +kernel : decode (bOf 131) 281 = .ok (.iaload, 1)) h hi
theorem x_131_282 : Ev d 131 282 (.ref r :: L) st μ Q = Ev d 131 283 (.ref r :: L) (.ref r :: st) μ Q := e_aload_n (by decide +kernel : decode (bOf 131) 282 = .ok (.aload_n 0, 1)) rfl
theorem x_131_283 : Ev d 131 283 (a0 :: a1 :: a2 :: .int x :: L) st μ Q = Ev d 131 284 (a0 :: a1 :: a2 :: .int x :: L) (.int x :: st) μ Q := e_iload_n (by decide +kernel : decode (bOf 131) 283 = .ok (.iload_n 3, 1)) rfl
theorem x_131_284 : Ev d 131 284 L st μ Q = Ev d 131 285 L (.int (iI 2) :: st) μ Q := e_iconst (by decide +kernel : decode (bOf 131) 284 = .ok (.iconst 2, 1))
theorem x_131_285 : Ev d 131 285 L (.int y :: .int x :: st) μ Q = Ev d 131 286 L (.int (x + y) :: st) μ Q := e_iadd (by decide +kernel : decode (bOf 131) 285 = .ok (.iadd, 1))
theorem x_131_286 (h : kd t r = 10) (hi : inB x (ln t r) = true) : Ev d 131 286 L (.int x :: .ref r :: st) (t, V, A, P) Q = Ev d 131 287 L (.int (A r x.toNatClampNeg) :: st) (t, V, A, P) Q := e_iald_ro (by decide +kernel : decode (bOf 131) 286 = .ok (.iaload, 1)) h hi
theorem x_131_287 (h : kd t r = 4) : Ev d 131 287 L [b1, b0, .ref r] (t, V, A, P) Q = Call d 50 [.ref r, b0, b1] (t, V, A, P) (fun v μ1 => Ev d 131 290 L (v.toList ++ []) μ1 Q) := e_callV (a := [b0, b1]) (r := []) (by decide +kernel : decode (bOf 131) 287 = .ok (.invokevirtual 47, 3)) (by decide +kernel) (by decide +kernel) (by decide +kernel) (by omega) rfl (by simp) (by decide +kernel) h
theorem x_131_290 : Ev d 131 290 (a0 :: a1 :: .ref r :: L) st μ Q = Ev d 131 291 (a0 :: a1 :: .ref r :: L) (.ref r :: st) μ Q := e_aload_n (by decide +kernel : decode (bOf 131) 290 = .ok (.aload_n 2, 1)) rfl
theorem x_131_291 : Ev d 131 291 (.ref r :: L) st μ Q = Ev d 131 292 (.ref r :: L) (.ref r :: st) μ Q := e_aload_n (by decide +kernel : decode (bOf 131) 291 = .ok (.aload_n 0, 1)) rfl
theorem x_131_292 : Ev d 131 292 (a0 :: a1 :: a2 :: .int x :: L) st μ Q = Ev d 131 293 (a0 :: a1 :: a2 :: .int x :: L) (.int x :: st) μ Q := e_iload_n (by decide +kernel : decode (bOf 131) 292 = .ok (.iload_n 3, 1)) rfl
theorem x_131_293 : Ev d 131 293 L st μ Q = Ev d 131 294 L (.int (iI 1) :: st) μ Q := e_iconst (by decide +kernel : decode (bOf 131) 293 = .ok (.iconst 1, 1))
theorem x_131_294 : Ev d 131 294 L (.int y :: .int x :: st) μ Q = Ev d 131 295 L (.int (x + y) :: st) μ Q := e_iadd (by decide +kernel : decode (bOf 131) 294 = .ok (.iadd, 1))
theorem x_131_295 (h : kd t r = 10) (hi : inB x (ln t r) = true) : Ev d 131 295 L (.int x :: .ref r :: st) (t, V, A, P) Q = Ev d 131 296 L (.int (A r x.toNatClampNeg) :: st) (t, V, A, P) Q := e_iald_ro (by decide +kernel : decode (bOf 131) 295 = .ok (.iaload, 1)) h hi
theorem x_131_296 : Ev d 131 296 (.ref r :: L) st μ Q = Ev d 131 297 (.ref r :: L) (.ref r :: st) μ Q := e_aload_n (by decide +kernel : decode (bOf 131) 296 = .ok (.aload_n 0, 1)) rfl
theorem x_131_297 : Ev d 131 297 (a0 :: a1 :: a2 :: .int x :: L) st μ Q = Ev d 131 298 (a0 :: a1 :: a2 :: .int x :: L) (.int x :: st) μ Q := e_iload_n (by decide +kernel : decode (bOf 131) 297 = .ok (.iload_n 3, 1)) rfl
theorem x_131_298 : Ev d 131 298 L st μ Q = Ev d 131 299 L (.int (iI 2) :: st) μ Q := e_iconst (by decide +kernel : decode (bOf 131) 298 = .ok (.iconst 2, 1))
theorem x_131_299 : Ev d 131 299 L (.int y :: .int x :: st) μ Q = Ev d 131 300 L (.int (x + y) :: st) μ Q := e_iadd (by decide +kernel : decode (bOf 131) 299 = .ok (.iadd, 1))
theorem x_131_300 (h : kd t r = 10) (hi : inB x (ln t r) = true) : Ev d 131 300 L (.int x :: .ref r :: st) (t, V, A, P) Q = Ev d 131 301 L (.int (A r x.toNatClampNeg) :: st) (t, V, A, P) Q := e_iald_ro (by decide +kernel : decode (bOf 131) 300 = .ok (.iaload, 1)) h hi
theorem x_131_301 (h : kd t r = 5) : Ev d 131 301 L [b1, b0, .ref r, s0] (t, V, A, P) Q = Call d 101 [.ref r, b0, b1] (t, V, A, P) (fun v μ1 => Ev d 131 304 L (v.toList ++ [s0]) μ1 Q) := e_callV (a := [b0, b1]) (r := [s0]) (by decide +kernel : decode (bOf 131) 301 = .ok (.invokevirtual 51, 3)) (by decide +kernel) (by decide +kernel) (by decide +kernel) (by omega) rfl (by simp) (by decide +kernel) h
theorem x_131_304 : Ev d 131 304 L (.int y :: .int x :: st) μ Q = if x = y then Ev d 131 655 L st μ Q else Ev d 131 307 L st μ Q := e_icmp_eq (by decide +kernel : decode (bOf 131) 304 = .ok (.if_icmp .eq 351, 3)) (by omega)
theorem x_131_307 : Ev d 131 307 L st μ Q = Ev d 131 308 L (.int (iI 0) :: st) μ Q := e_iconst (by decide +kernel : decode (bOf 131) 307 = .ok (.iconst 0, 1))
theorem x_131_308 (hx : isB x) : Ev d 131 308 L [.int x] μ Q = Q (some (.int x)) μ := e_zret (by decide +kernel : decode (bOf 131) 308 = .ok (.ireturn, 1)) (by decide +kernel) hx
theorem x_131_309 : Ev d 131 309 (a0 :: .ref r :: L) st μ Q = Ev d 131 310 (a0 :: .ref r :: L) (.ref r :: st) μ Q := e_aload_n (by decide +kernel : decode (bOf 131) 309 = .ok (.aload_n 1, 1)) rfl
theorem x_131_310 : Ev d 131 310 (.ref r :: L) st μ Q = Ev d 131 311 (.ref r :: L) (.ref r :: st) μ Q := e_aload_n (by decide +kernel : decode (bOf 131) 310 = .ok (.aload_n 0, 1)) rfl
theorem x_131_311 : Ev d 131 311 (a0 :: a1 :: a2 :: .int x :: L) st μ Q = Ev d 131 312 (a0 :: a1 :: a2 :: .int x :: L) (.int x :: st) μ Q := e_iload_n (by decide +kernel : decode (bOf 131) 311 = .ok (.iload_n 3, 1)) rfl
theorem x_131_312 : Ev d 131 312 L st μ Q = Ev d 131 313 L (.int (iI 1) :: st) μ Q := e_iconst (by decide +kernel : decode (bOf 131) 312 = .ok (.iconst 1, 1))
theorem x_131_313 : Ev d 131 313 L (.int y :: .int x :: st) μ Q = Ev d 131 314 L (.int (x + y) :: st) μ Q := e_iadd (by decide +kernel : decode (bOf 131) 313 = .ok (.iadd, 1))
theorem x_131_314 (h : kd t r = 10) (hi : inB x (ln t r) = true) : Ev d 131 314 L (.int x :: .ref r :: st) (t, V, A, P) Q = Ev d 131 315 L (.int (A r x.toNatClampNeg) :: st) (t, V, A, P) Q := e_iald_ro (by decide +kernel : decode (bOf 131) 314 = .ok (.iaload, 1)) h hi
theorem x_131_315 (h : kd t r = 4) : Ev d 131 315 L [b0, .ref r] (t, V, A, P) Q = Call d 51 [.ref r, b0] (t, V, A, P) (fun v μ1 => Ev d 131 318 L (v.toList ++ []) μ1 Q) := e_callV (a := [b0]) (r := []) (by decide +kernel : decode (bOf 131) 315 = .ok (.invokevirtual 52, 3)) (by decide +kernel) (by decide +kernel) (by decide +kernel) (by omega) rfl (by simp) (by decide +kernel) h
theorem x_131_318 : Ev d 131 318 (a0 :: a1 :: .ref r :: L) st μ Q = Ev d 131 319 (a0 :: a1 :: .ref r :: L) (.ref r :: st) μ Q := e_aload_n (by decide +kernel : decode (bOf 131) 318 = .ok (.aload_n 2, 1)) rfl
theorem x_131_319 : Ev d 131 319 (.ref r :: L) st μ Q = Ev d 131 320 (.ref r :: L) (.ref r :: st) μ Q := e_aload_n (by decide +kernel : decode (bOf 131) 319 = .ok (.aload_n 0, 1)) rfl
theorem x_131_320 : Ev d 131 320 (a0 :: a1 :: a2 :: .int x :: L) st μ Q = Ev d 131 321 (a0 :: a1 :: a2 :: .int x :: L) (.int x :: st) μ Q := e_iload_n (by decide +kernel : decode (bOf 131) 320 = .ok (.iload_n 3, 1)) rfl
theorem x_131_321 : Ev d 131 321 L st μ Q = Ev d 131 322 L (.int (iI 1) :: st) μ Q := e_iconst (by decide +kernel : decode (bOf 131) 321 = .ok (.iconst 1, 1))
theorem x_131_322 : Ev d 131 322 L (.int y :: .int x :: st) μ Q = Ev d 131 323 L (.int (x + y) :: st) μ Q := e_iadd (by decide +kernel : decode (bOf 131) 322 = .ok (.iadd, 1))
theorem x_131_323 (h : kd t r = 10) (hi : inB x (ln t r) = true) : Ev d 131 323 L (.int x :: .ref r :: st) (t, V, A, P) Q = Ev d 131 324 L (.int (A r x.toNatClampNeg) :: st) (t, V, A, P) Q := e_iald_ro (by decide +kernel : decode (bOf 131) 323 = .ok (.iaload, 1)) h hi
theorem x_131_324 (h : kd t r = 5) : Ev d 131 324 L [b0, .ref r, s0] (t, V, A, P) Q = Call d 102 [.ref r, b0] (t, V, A, P) (fun v μ1 => Ev d 131 327 L (v.toList ++ [s0]) μ1 Q) := e_callV (a := [b0]) (r := [s0]) (by decide +kernel : decode (bOf 131) 324 = .ok (.invokevirtual 55, 3)) (by decide +kernel) (by decide +kernel) (by decide +kernel) (by omega) rfl (by simp) (by decide +kernel) h
theorem x_131_327 : Ev d 131 327 L (.int y :: .int x :: st) μ Q = if x = y then Ev d 131 655 L st μ Q else Ev d 131 330 L st μ Q := e_icmp_eq (by decide +kernel : decode (bOf 131) 327 = .ok (.if_icmp .eq 328, 3)) (by omega)
theorem x_131_330 : Ev d 131 330 L st μ Q = Ev d 131 331 L (.int (iI 0) :: st) μ Q := e_iconst (by decide +kernel : decode (bOf 131) 330 = .ok (.iconst 0, 1))
theorem x_131_331 (hx : isB x) : Ev d 131 331 L [.int x] μ Q = Q (some (.int x)) μ := e_zret (by decide +kernel : decode (bOf 131) 331 = .ok (.ireturn, 1)) (by decide +kernel) hx
theorem x_131_332 : Ev d 131 332 (a0 :: .ref r :: L) st μ Q = Ev d 131 333 (a0 :: .ref r :: L) (.ref r :: st) μ Q := e_aload_n (by decide +kernel : decode (bOf 131) 332 = .ok (.aload_n 1, 1)) rfl
theorem x_131_333 : Ev d 131 333 (.ref r :: L) st μ Q = Ev d 131 334 (.ref r :: L) (.ref r :: st) μ Q := e_aload_n (by decide +kernel : decode (bOf 131) 333 = .ok (.aload_n 0, 1)) rfl
theorem x_131_334 : Ev d 131 334 (a0 :: a1 :: a2 :: .int x :: L) st μ Q = Ev d 131 335 (a0 :: a1 :: a2 :: .int x :: L) (.int x :: st) μ Q := e_iload_n (by decide +kernel : decode (bOf 131) 334 = .ok (.iload_n 3, 1)) rfl
theorem x_131_335 : Ev d 131 335 L st μ Q = Ev d 131 336 L (.int (iI 1) :: st) μ Q := e_iconst (by decide +kernel : decode (bOf 131) 335 = .ok (.iconst 1, 1))
theorem x_131_336 : Ev d 131 336 L (.int y :: .int x :: st) μ Q = Ev d 131 337 L (.int (x + y) :: st) μ Q := e_iadd (by decide +kernel : decode (bOf 131) 336 = .ok (.iadd, 1))
theorem x_131_337 (h : kd t r = 10) (hi : inB x (ln t r) = true) : Ev d 131 337 L (.int x :: .ref r :: st) (t, V, A, P) Q = Ev d 131 338 L (.int (A r x.toNatClampNeg) :: st) (t, V, A, P) Q := e_iald_ro (by decide +kernel : decode (bOf 131) 337 = .ok (.iaload, 1)) h hi
theorem x_131_338 (h : kd t r = 4) : Ev d 131 338 L [b0, .ref r] (t, V, A, P) Q = Call d 52 [.ref r, b0] (t, V, A, P) (fun v μ1 => Ev d 131 341 L (v.toList ++ []) μ1 Q) := e_callV (a := [b0]) (r := []) (by decide +kernel : decode (bOf 131) 338 = .ok (.invokevirtual 56, 3)) (by decide +kernel) (by decide +kernel) (by decide +kernel) (by omega) rfl (by simp) (by decide +kernel) h
theorem x_131_341 : Ev d 131 341 (a0 :: a1 :: .ref r :: L) st μ Q = Ev d 131 342 (a0 :: a1 :: .ref r :: L) (.ref r :: st) μ Q := e_aload_n (by decide +kernel : decode (bOf 131) 341 = .ok (.aload_n 2, 1)) rfl
theorem x_131_342 : Ev d 131 342 (.ref r :: L) st μ Q = Ev d 131 343 (.ref r :: L) (.ref r :: st) μ Q := e_aload_n (by decide +kernel : decode (bOf 131) 342 = .ok (.aload_n 0, 1)) rfl
theorem x_131_343 : Ev d 131 343 (a0 :: a1 :: a2 :: .int x :: L) st μ Q = Ev d 131 344 (a0 :: a1 :: a2 :: .int x :: L) (.int x :: st) μ Q := e_iload_n (by decide +kernel : decode (bOf 131) 343 = .ok (.iload_n 3, 1)) rfl
theorem x_131_344 : Ev d 131 344 L st μ Q = Ev d 131 345 L (.int (iI 1) :: st) μ Q := e_iconst (by decide +kernel : decode (bOf 131) 344 = .ok (.iconst 1, 1))
theorem x_131_345 : Ev d 131 345 L (.int y :: .int x :: st) μ Q = Ev d 131 346 L (.int (x + y) :: st) μ Q := e_iadd (by decide +kernel : decode (bOf 131) 345 = .ok (.iadd, 1))
theorem x_131_346 (h : kd t r = 10) (hi : inB x (ln t r) = true) : Ev d 131 346 L (.int x :: .ref r :: st) (t, V, A, P) Q = Ev d 131 347 L (.int (A r x.toNatClampNeg) :: st) (t, V, A, P) Q := e_iald_ro (by decide +kernel : decode (bOf 131) 346 = .ok (.iaload, 1)) h hi
theorem x_131_347 (h : kd t r = 5) : Ev d 131 347 L [b0, .ref r, s0] (t, V, A, P) Q = Call d 103 [.ref r, b0] (t, V, A, P) (fun v μ1 => Ev d 131 350 L (v.toList ++ [s0]) μ1 Q) := e_callV (a := [b0]) (r := [s0]) (by decide +kernel : decode (bOf 131) 347 = .ok (.invokevirtual 59, 3)) (by decide +kernel) (by decide +kernel) (by decide +kernel) (by omega) rfl (by simp) (by decide +kernel) h
theorem x_131_350 : Ev d 131 350 L (.int y :: .int x :: st) μ Q = if x = y then Ev d 131 655 L st μ Q else Ev d 131 353 L st μ Q := e_icmp_eq (by decide +kernel : decode (bOf 131) 350 = .ok (.if_icmp .eq 305, 3)) (by omega)
theorem x_131_353 : Ev d 131 353 L st μ Q = Ev d 131 354 L (.int (iI 0) :: st) μ Q := e_iconst (by decide +kernel : decode (bOf 131) 353 = .ok (.iconst 0, 1))
theorem x_131_354 (hx : isB x) : Ev d 131 354 L [.int x] μ Q = Q (some (.int x)) μ := e_zret (by decide +kernel : decode (bOf 131) 354 = .ok (.ireturn, 1)) (by decide +kernel) hx
theorem x_131_355 : Ev d 131 355 (a0 :: .ref r :: L) st μ Q = Ev d 131 356 (a0 :: .ref r :: L) (.ref r :: st) μ Q := e_aload_n (by decide +kernel : decode (bOf 131) 355 = .ok (.aload_n 1, 1)) rfl
theorem x_131_356 : Ev d 131 356 (.ref r :: L) st μ Q = Ev d 131 357 (.ref r :: L) (.ref r :: st) μ Q := e_aload_n (by decide +kernel : decode (bOf 131) 356 = .ok (.aload_n 0, 1)) rfl
theorem x_131_357 : Ev d 131 357 (a0 :: a1 :: a2 :: .int x :: L) st μ Q = Ev d 131 358 (a0 :: a1 :: a2 :: .int x :: L) (.int x :: st) μ Q := e_iload_n (by decide +kernel : decode (bOf 131) 357 = .ok (.iload_n 3, 1)) rfl
theorem x_131_358 : Ev d 131 358 L st μ Q = Ev d 131 359 L (.int (iI 1) :: st) μ Q := e_iconst (by decide +kernel : decode (bOf 131) 358 = .ok (.iconst 1, 1))
theorem x_131_359 : Ev d 131 359 L (.int y :: .int x :: st) μ Q = Ev d 131 360 L (.int (x + y) :: st) μ Q := e_iadd (by decide +kernel : decode (bOf 131) 359 = .ok (.iadd, 1))
theorem x_131_360 (h : kd t r = 10) (hi : inB x (ln t r) = true) : Ev d 131 360 L (.int x :: .ref r :: st) (t, V, A, P) Q = Ev d 131 361 L (.int (A r x.toNatClampNeg) :: st) (t, V, A, P) Q := e_iald_ro (by decide +kernel : decode (bOf 131) 360 = .ok (.iaload, 1)) h hi
theorem x_131_361 (h : kd t r = 4) : Ev d 131 361 L [b0, .ref r] (t, V, A, P) Q = Call d 53 [.ref r, b0] (t, V, A, P) (fun v μ1 => Ev d 131 364 L (v.toList ++ []) μ1 Q) := e_callV (a := [b0]) (r := []) (by decide +kernel : decode (bOf 131) 361 = .ok (.invokevirtual 60, 3)) (by decide +kernel) (by decide +kernel) (by decide +kernel) (by omega) rfl (by simp) (by decide +kernel) h
theorem x_131_364 : Ev d 131 364 (a0 :: a1 :: .ref r :: L) st μ Q = Ev d 131 365 (a0 :: a1 :: .ref r :: L) (.ref r :: st) μ Q := e_aload_n (by decide +kernel : decode (bOf 131) 364 = .ok (.aload_n 2, 1)) rfl
theorem x_131_365 : Ev d 131 365 (.ref r :: L) st μ Q = Ev d 131 366 (.ref r :: L) (.ref r :: st) μ Q := e_aload_n (by decide +kernel : decode (bOf 131) 365 = .ok (.aload_n 0, 1)) rfl
theorem x_131_366 : Ev d 131 366 (a0 :: a1 :: a2 :: .int x :: L) st μ Q = Ev d 131 367 (a0 :: a1 :: a2 :: .int x :: L) (.int x :: st) μ Q := e_iload_n (by decide +kernel : decode (bOf 131) 366 = .ok (.iload_n 3, 1)) rfl
theorem x_131_367 : Ev d 131 367 L st μ Q = Ev d 131 368 L (.int (iI 1) :: st) μ Q := e_iconst (by decide +kernel : decode (bOf 131) 367 = .ok (.iconst 1, 1))
theorem x_131_368 : Ev d 131 368 L (.int y :: .int x :: st) μ Q = Ev d 131 369 L (.int (x + y) :: st) μ Q := e_iadd (by decide +kernel : decode (bOf 131) 368 = .ok (.iadd, 1))
theorem x_131_369 (h : kd t r = 10) (hi : inB x (ln t r) = true) : Ev d 131 369 L (.int x :: .ref r :: st) (t, V, A, P) Q = Ev d 131 370 L (.int (A r x.toNatClampNeg) :: st) (t, V, A, P) Q := e_iald_ro (by decide +kernel : decode (bOf 131) 369 = .ok (.iaload, 1)) h hi
theorem x_131_370 (h : kd t r = 5) : Ev d 131 370 L [b0, .ref r, s0] (t, V, A, P) Q = Call d 104 [.ref r, b0] (t, V, A, P) (fun v μ1 => Ev d 131 373 L (v.toList ++ [s0]) μ1 Q) := e_callV (a := [b0]) (r := [s0]) (by decide +kernel : decode (bOf 131) 370 = .ok (.invokevirtual 63, 3)) (by decide +kernel) (by decide +kernel) (by decide +kernel) (by omega) rfl (by simp) (by decide +kernel) h
theorem x_131_373 : Ev d 131 373 L (.int y :: .int x :: st) μ Q = if x = y then Ev d 131 655 L st μ Q else Ev d 131 376 L st μ Q := e_icmp_eq (by decide +kernel : decode (bOf 131) 373 = .ok (.if_icmp .eq 282, 3)) (by omega)
theorem x_131_376 : Ev d 131 376 L st μ Q = Ev d 131 377 L (.int (iI 0) :: st) μ Q := e_iconst (by decide +kernel : decode (bOf 131) 376 = .ok (.iconst 0, 1))
theorem x_131_377 (hx : isB x) : Ev d 131 377 L [.int x] μ Q = Q (some (.int x)) μ := e_zret (by decide +kernel : decode (bOf 131) 377 = .ok (.ireturn, 1)) (by decide +kernel) hx
theorem x_131_378 : Ev d 131 378 (a0 :: .ref r :: L) st μ Q = Ev d 131 379 (a0 :: .ref r :: L) (.ref r :: st) μ Q := e_aload_n (by decide +kernel : decode (bOf 131) 378 = .ok (.aload_n 1, 1)) rfl
theorem x_131_379 : Ev d 131 379 (.ref r :: L) st μ Q = Ev d 131 380 (.ref r :: L) (.ref r :: st) μ Q := e_aload_n (by decide +kernel : decode (bOf 131) 379 = .ok (.aload_n 0, 1)) rfl
theorem x_131_380 : Ev d 131 380 (a0 :: a1 :: a2 :: .int x :: L) st μ Q = Ev d 131 381 (a0 :: a1 :: a2 :: .int x :: L) (.int x :: st) μ Q := e_iload_n (by decide +kernel : decode (bOf 131) 380 = .ok (.iload_n 3, 1)) rfl
theorem x_131_381 : Ev d 131 381 L st μ Q = Ev d 131 382 L (.int (iI 1) :: st) μ Q := e_iconst (by decide +kernel : decode (bOf 131) 381 = .ok (.iconst 1, 1))
theorem x_131_382 : Ev d 131 382 L (.int y :: .int x :: st) μ Q = Ev d 131 383 L (.int (x + y) :: st) μ Q := e_iadd (by decide +kernel : decode (bOf 131) 382 = .ok (.iadd, 1))
theorem x_131_383 (h : kd t r = 10) (hi : inB x (ln t r) = true) : Ev d 131 383 L (.int x :: .ref r :: st) (t, V, A, P) Q = Ev d 131 384 L (.int (A r x.toNatClampNeg) :: st) (t, V, A, P) Q := e_iald_ro (by decide +kernel : decode (bOf 131) 383 = .ok (.iaload, 1)) h hi
theorem x_131_384 : Ev d 131 384 (.ref r :: L) st μ Q = Ev d 131 385 (.ref r :: L) (.ref r :: st) μ Q := e_aload_n (by decide +kernel : decode (bOf 131) 384 = .ok (.aload_n 0, 1)) rfl
theorem x_131_385 : Ev d 131 385 (a0 :: a1 :: a2 :: .int x :: L) st μ Q = Ev d 131 386 (a0 :: a1 :: a2 :: .int x :: L) (.int x :: st) μ Q := e_iload_n (by decide +kernel : decode (bOf 131) 385 = .ok (.iload_n 3, 1)) rfl
theorem x_131_386 : Ev d 131 386 L st μ Q = Ev d 131 387 L (.int (iI 2) :: st) μ Q := e_iconst (by decide +kernel : decode (bOf 131) 386 = .ok (.iconst 2, 1))
theorem x_131_387 : Ev d 131 387 L (.int y :: .int x :: st) μ Q = Ev d 131 388 L (.int (x + y) :: st) μ Q := e_iadd (by decide +kernel : decode (bOf 131) 387 = .ok (.iadd, 1))
theorem x_131_388 (h : kd t r = 10) (hi : inB x (ln t r) = true) : Ev d 131 388 L (.int x :: .ref r :: st) (t, V, A, P) Q = Ev d 131 389 L (.int (A r x.toNatClampNeg) :: st) (t, V, A, P) Q := e_iald_ro (by decide +kernel : decode (bOf 131) 388 = .ok (.iaload, 1)) h hi
theorem x_131_389 : Ev d 131 389 (.ref r :: L) st μ Q = Ev d 131 390 (.ref r :: L) (.ref r :: st) μ Q := e_aload_n (by decide +kernel : decode (bOf 131) 389 = .ok (.aload_n 0, 1)) rfl
theorem x_131_390 : Ev d 131 390 (a0 :: a1 :: a2 :: .int x :: L) st μ Q = Ev d 131 391 (a0 :: a1 :: a2 :: .int x :: L) (.int x :: st) μ Q := e_iload_n (by decide +kernel : decode (bOf 131) 390 = .ok (.iload_n 3, 1)) rfl
theorem x_131_391 : Ev d 131 391 L st μ Q = Ev d 131 392 L (.int (iI 3) :: st) μ Q := e_iconst (by decide +kernel : decode (bOf 131) 391 = .ok (.iconst 3, 1))
theorem x_131_392 : Ev d 131 392 L (.int y :: .int x :: st) μ Q = Ev d 131 393 L (.int (x + y) :: st) μ Q := e_iadd (by decide +kernel : decode (bOf 131) 392 = .ok (.iadd, 1))
theorem x_131_393 (h : kd t r = 10) (hi : inB x (ln t r) = true) : Ev d 131 393 L (.int x :: .ref r :: st) (t, V, A, P) Q = Ev d 131 394 L (.int (A r x.toNatClampNeg) :: st) (t, V, A, P) Q := e_iald_ro (by decide +kernel : decode (bOf 131) 393 = .ok (.iaload, 1)) h hi
theorem x_131_394 : Ev d 131 394 (.ref r :: L) st μ Q = Ev d 131 395 (.ref r :: L) (.ref r :: st) μ Q := e_aload_n (by decide +kernel : decode (bOf 131) 394 = .ok (.aload_n 0, 1)) rfl
theorem x_131_395 : Ev d 131 395 (a0 :: a1 :: a2 :: .int x :: L) st μ Q = Ev d 131 396 (a0 :: a1 :: a2 :: .int x :: L) (.int x :: st) μ Q := e_iload_n (by decide +kernel : decode (bOf 131) 395 = .ok (.iload_n 3, 1)) rfl
theorem x_131_396 : Ev d 131 396 L st μ Q = Ev d 131 397 L (.int (iI 4) :: st) μ Q := e_iconst (by decide +kernel : decode (bOf 131) 396 = .ok (.iconst 4, 1))
theorem x_131_397 : Ev d 131 397 L (.int y :: .int x :: st) μ Q = Ev d 131 398 L (.int (x + y) :: st) μ Q := e_iadd (by decide +kernel : decode (bOf 131) 397 = .ok (.iadd, 1))
theorem x_131_398 (h : kd t r = 10) (hi : inB x (ln t r) = true) : Ev d 131 398 L (.int x :: .ref r :: st) (t, V, A, P) Q = Ev d 131 399 L (.int (A r x.toNatClampNeg) :: st) (t, V, A, P) Q := e_iald_ro (by decide +kernel : decode (bOf 131) 398 = .ok (.iaload, 1)) h hi
theorem x_131_399 (h : kd t r = 4) : Ev d 131 399 L [b3, b2, b1, b0, .ref r] (t, V, A, P) Q = Call d 54 [.ref r, b0, b1, b2, b3] (t, V, A, P) (fun v μ1 => Ev d 131 402 L (v.toList ++ []) μ1 Q) := e_callV (a := [b0, b1, b2, b3]) (r := []) (by decide +kernel : decode (bOf 131) 399 = .ok (.invokevirtual 64, 3)) (by decide +kernel) (by decide +kernel) (by decide +kernel) (by omega) rfl (by simp) (by decide +kernel) h
theorem x_131_402 : Ev d 131 402 (a0 :: a1 :: .ref r :: L) st μ Q = Ev d 131 403 (a0 :: a1 :: .ref r :: L) (.ref r :: st) μ Q := e_aload_n (by decide +kernel : decode (bOf 131) 402 = .ok (.aload_n 2, 1)) rfl
theorem x_131_403 : Ev d 131 403 (.ref r :: L) st μ Q = Ev d 131 404 (.ref r :: L) (.ref r :: st) μ Q := e_aload_n (by decide +kernel : decode (bOf 131) 403 = .ok (.aload_n 0, 1)) rfl
theorem x_131_404 : Ev d 131 404 (a0 :: a1 :: a2 :: .int x :: L) st μ Q = Ev d 131 405 (a0 :: a1 :: a2 :: .int x :: L) (.int x :: st) μ Q := e_iload_n (by decide +kernel : decode (bOf 131) 404 = .ok (.iload_n 3, 1)) rfl
theorem x_131_405 : Ev d 131 405 L st μ Q = Ev d 131 406 L (.int (iI 1) :: st) μ Q := e_iconst (by decide +kernel : decode (bOf 131) 405 = .ok (.iconst 1, 1))
theorem x_131_406 : Ev d 131 406 L (.int y :: .int x :: st) μ Q = Ev d 131 407 L (.int (x + y) :: st) μ Q := e_iadd (by decide +kernel : decode (bOf 131) 406 = .ok (.iadd, 1))
theorem x_131_407 (h : kd t r = 10) (hi : inB x (ln t r) = true) : Ev d 131 407 L (.int x :: .ref r :: st) (t, V, A, P) Q = Ev d 131 408 L (.int (A r x.toNatClampNeg) :: st) (t, V, A, P) Q := e_iald_ro (by decide +kernel : decode (bOf 131) 407 = .ok (.iaload, 1)) h hi
theorem x_131_408 : Ev d 131 408 (.ref r :: L) st μ Q = Ev d 131 409 (.ref r :: L) (.ref r :: st) μ Q := e_aload_n (by decide +kernel : decode (bOf 131) 408 = .ok (.aload_n 0, 1)) rfl
theorem x_131_409 : Ev d 131 409 (a0 :: a1 :: a2 :: .int x :: L) st μ Q = Ev d 131 410 (a0 :: a1 :: a2 :: .int x :: L) (.int x :: st) μ Q := e_iload_n (by decide +kernel : decode (bOf 131) 409 = .ok (.iload_n 3, 1)) rfl
theorem x_131_410 : Ev d 131 410 L st μ Q = Ev d 131 411 L (.int (iI 2) :: st) μ Q := e_iconst (by decide +kernel : decode (bOf 131) 410 = .ok (.iconst 2, 1))
theorem x_131_411 : Ev d 131 411 L (.int y :: .int x :: st) μ Q = Ev d 131 412 L (.int (x + y) :: st) μ Q := e_iadd (by decide +kernel : decode (bOf 131) 411 = .ok (.iadd, 1))
theorem x_131_412 (h : kd t r = 10) (hi : inB x (ln t r) = true) : Ev d 131 412 L (.int x :: .ref r :: st) (t, V, A, P) Q = Ev d 131 413 L (.int (A r x.toNatClampNeg) :: st) (t, V, A, P) Q := e_iald_ro (by decide +kernel : decode (bOf 131) 412 = .ok (.iaload, 1)) h hi
theorem x_131_413 : Ev d 131 413 (.ref r :: L) st μ Q = Ev d 131 414 (.ref r :: L) (.ref r :: st) μ Q := e_aload_n (by decide +kernel : decode (bOf 131) 413 = .ok (.aload_n 0, 1)) rfl
theorem x_131_414 : Ev d 131 414 (a0 :: a1 :: a2 :: .int x :: L) st μ Q = Ev d 131 415 (a0 :: a1 :: a2 :: .int x :: L) (.int x :: st) μ Q := e_iload_n (by decide +kernel : decode (bOf 131) 414 = .ok (.iload_n 3, 1)) rfl
theorem x_131_415 : Ev d 131 415 L st μ Q = Ev d 131 416 L (.int (iI 3) :: st) μ Q := e_iconst (by decide +kernel : decode (bOf 131) 415 = .ok (.iconst 3, 1))
theorem x_131_416 : Ev d 131 416 L (.int y :: .int x :: st) μ Q = Ev d 131 417 L (.int (x + y) :: st) μ Q := e_iadd (by decide +kernel : decode (bOf 131) 416 = .ok (.iadd, 1))
theorem x_131_417 (h : kd t r = 10) (hi : inB x (ln t r) = true) : Ev d 131 417 L (.int x :: .ref r :: st) (t, V, A, P) Q = Ev d 131 418 L (.int (A r x.toNatClampNeg) :: st) (t, V, A, P) Q := e_iald_ro (by decide +kernel : decode (bOf 131) 417 = .ok (.iaload, 1)) h hi
theorem x_131_418 : Ev d 131 418 (.ref r :: L) st μ Q = Ev d 131 419 (.ref r :: L) (.ref r :: st) μ Q := e_aload_n (by decide +kernel : decode (bOf 131) 418 = .ok (.aload_n 0, 1)) rfl
theorem x_131_419 : Ev d 131 419 (a0 :: a1 :: a2 :: .int x :: L) st μ Q = Ev d 131 420 (a0 :: a1 :: a2 :: .int x :: L) (.int x :: st) μ Q := e_iload_n (by decide +kernel : decode (bOf 131) 419 = .ok (.iload_n 3, 1)) rfl
theorem x_131_420 : Ev d 131 420 L st μ Q = Ev d 131 421 L (.int (iI 4) :: st) μ Q := e_iconst (by decide +kernel : decode (bOf 131) 420 = .ok (.iconst 4, 1))
theorem x_131_421 : Ev d 131 421 L (.int y :: .int x :: st) μ Q = Ev d 131 422 L (.int (x + y) :: st) μ Q := e_iadd (by decide +kernel : decode (bOf 131) 421 = .ok (.iadd, 1))
theorem x_131_422 (h : kd t r = 10) (hi : inB x (ln t r) = true) : Ev d 131 422 L (.int x :: .ref r :: st) (t, V, A, P) Q = Ev d 131 423 L (.int (A r x.toNatClampNeg) :: st) (t, V, A, P) Q := e_iald_ro (by decide +kernel : decode (bOf 131) 422 = .ok (.iaload, 1)) h hi
theorem x_131_423 (h : kd t r = 5) : Ev d 131 423 L [b3, b2, b1, b0, .ref r, s0] (t, V, A, P) Q = Call d 110 [.ref r, b0, b1, b2, b3] (t, V, A, P) (fun v μ1 => Ev d 131 426 L (v.toList ++ [s0]) μ1 Q) := e_callV (a := [b0, b1, b2, b3]) (r := [s0]) (by decide +kernel : decode (bOf 131) 423 = .ok (.invokevirtual 68, 3)) (by decide +kernel) (by decide +kernel) (by decide +kernel) (by omega) rfl (by simp) (by decide +kernel) h
theorem x_131_426 : Ev d 131 426 L (.int y :: .int x :: st) μ Q = if x = y then Ev d 131 655 L st μ Q else Ev d 131 429 L st μ Q := e_icmp_eq (by decide +kernel : decode (bOf 131) 426 = .ok (.if_icmp .eq 229, 3)) (by omega)
theorem x_131_429 : Ev d 131 429 L st μ Q = Ev d 131 430 L (.int (iI 0) :: st) μ Q := e_iconst (by decide +kernel : decode (bOf 131) 429 = .ok (.iconst 0, 1))
theorem x_131_430 (hx : isB x) : Ev d 131 430 L [.int x] μ Q = Q (some (.int x)) μ := e_zret (by decide +kernel : decode (bOf 131) 430 = .ok (.ireturn, 1)) (by decide +kernel) hx
theorem x_131_431 : Ev d 131 431 (a0 :: .ref r :: L) st μ Q = Ev d 131 432 (a0 :: .ref r :: L) (.ref r :: st) μ Q := e_aload_n (by decide +kernel : decode (bOf 131) 431 = .ok (.aload_n 1, 1)) rfl
theorem x_131_432 : Ev d 131 432 (.ref r :: L) st μ Q = Ev d 131 433 (.ref r :: L) (.ref r :: st) μ Q := e_aload_n (by decide +kernel : decode (bOf 131) 432 = .ok (.aload_n 0, 1)) rfl
theorem x_131_433 : Ev d 131 433 (a0 :: a1 :: a2 :: .int x :: L) st μ Q = Ev d 131 434 (a0 :: a1 :: a2 :: .int x :: L) (.int x :: st) μ Q := e_iload_n (by decide +kernel : decode (bOf 131) 433 = .ok (.iload_n 3, 1)) rfl
theorem x_131_434 : Ev d 131 434 L st μ Q = Ev d 131 435 L (.int (iI 1) :: st) μ Q := e_iconst (by decide +kernel : decode (bOf 131) 434 = .ok (.iconst 1, 1))
theorem x_131_435 : Ev d 131 435 L (.int y :: .int x :: st) μ Q = Ev d 131 436 L (.int (x + y) :: st) μ Q := e_iadd (by decide +kernel : decode (bOf 131) 435 = .ok (.iadd, 1))
theorem x_131_436 (h : kd t r = 10) (hi : inB x (ln t r) = true) : Ev d 131 436 L (.int x :: .ref r :: st) (t, V, A, P) Q = Ev d 131 437 L (.int (A r x.toNatClampNeg) :: st) (t, V, A, P) Q := e_iald_ro (by decide +kernel : decode (bOf 131) 436 = .ok (.iaload, 1)) h hi
theorem x_131_437 : Ev d 131 437 (.ref r :: L) st μ Q = Ev d 131 438 (.ref r :: L) (.ref r :: st) μ Q := e_aload_n (by decide +kernel : decode (bOf 131) 437 = .ok (.aload_n 0, 1)) rfl
theorem x_131_438 : Ev d 131 438 (a0 :: a1 :: a2 :: .int x :: L) st μ Q = Ev d 131 439 (a0 :: a1 :: a2 :: .int x :: L) (.int x :: st) μ Q := e_iload_n (by decide +kernel : decode (bOf 131) 438 = .ok (.iload_n 3, 1)) rfl
theorem x_131_439 : Ev d 131 439 L st μ Q = Ev d 131 440 L (.int (iI 2) :: st) μ Q := e_iconst (by decide +kernel : decode (bOf 131) 439 = .ok (.iconst 2, 1))
theorem x_131_440 : Ev d 131 440 L (.int y :: .int x :: st) μ Q = Ev d 131 441 L (.int (x + y) :: st) μ Q := e_iadd (by decide +kernel : decode (bOf 131) 440 = .ok (.iadd, 1))
theorem x_131_441 (h : kd t r = 10) (hi : inB x (ln t r) = true) : Ev d 131 441 L (.int x :: .ref r :: st) (t, V, A, P) Q = Ev d 131 442 L (.int (A r x.toNatClampNeg) :: st) (t, V, A, P) Q := e_iald_ro (by decide +kernel : decode (bOf 131) 441 = .ok (.iaload, 1)) h hi
theorem x_131_442 : Ev d 131 442 (.ref r :: L) st μ Q = Ev d 131 443 (.ref r :: L) (.ref r :: st) μ Q := e_aload_n (by decide +kernel : decode (bOf 131) 442 = .ok (.aload_n 0, 1)) rfl
theorem x_131_443 : Ev d 131 443 (a0 :: a1 :: a2 :: .int x :: L) st μ Q = Ev d 131 444 (a0 :: a1 :: a2 :: .int x :: L) (.int x :: st) μ Q := e_iload_n (by decide +kernel : decode (bOf 131) 443 = .ok (.iload_n 3, 1)) rfl
theorem x_131_444 : Ev d 131 444 L st μ Q = Ev d 131 445 L (.int (iI 3) :: st) μ Q := e_iconst (by decide +kernel : decode (bOf 131) 444 = .ok (.iconst 3, 1))
theorem x_131_445 : Ev d 131 445 L (.int y :: .int x :: st) μ Q = Ev d 131 446 L (.int (x + y) :: st) μ Q := e_iadd (by decide +kernel : decode (bOf 131) 445 = .ok (.iadd, 1))
theorem x_131_446 (h : kd t r = 10) (hi : inB x (ln t r) = true) : Ev d 131 446 L (.int x :: .ref r :: st) (t, V, A, P) Q = Ev d 131 447 L (.int (A r x.toNatClampNeg) :: st) (t, V, A, P) Q := e_iald_ro (by decide +kernel : decode (bOf 131) 446 = .ok (.iaload, 1)) h hi
theorem x_131_447 (h : kd t r = 4) : Ev d 131 447 L [b2, b1, b0, .ref r] (t, V, A, P) Q = Call d 55 [.ref r, b0, b1, b2] (t, V, A, P) (fun v μ1 => Ev d 131 450 L (v.toList ++ []) μ1 Q) := e_callV (a := [b0, b1, b2]) (r := []) (by decide +kernel : decode (bOf 131) 447 = .ok (.invokevirtual 69, 3)) (by decide +kernel) (by decide +kernel) (by decide +kernel) (by omega) rfl (by simp) (by decide +kernel) h
theorem x_131_450 : Ev d 131 450 (a0 :: a1 :: .ref r :: L) st μ Q = Ev d 131 451 (a0 :: a1 :: .ref r :: L) (.ref r :: st) μ Q := e_aload_n (by decide +kernel : decode (bOf 131) 450 = .ok (.aload_n 2, 1)) rfl
theorem x_131_451 : Ev d 131 451 (.ref r :: L) st μ Q = Ev d 131 452 (.ref r :: L) (.ref r :: st) μ Q := e_aload_n (by decide +kernel : decode (bOf 131) 451 = .ok (.aload_n 0, 1)) rfl
theorem x_131_452 : Ev d 131 452 (a0 :: a1 :: a2 :: .int x :: L) st μ Q = Ev d 131 453 (a0 :: a1 :: a2 :: .int x :: L) (.int x :: st) μ Q := e_iload_n (by decide +kernel : decode (bOf 131) 452 = .ok (.iload_n 3, 1)) rfl
theorem x_131_453 : Ev d 131 453 L st μ Q = Ev d 131 454 L (.int (iI 1) :: st) μ Q := e_iconst (by decide +kernel : decode (bOf 131) 453 = .ok (.iconst 1, 1))
theorem x_131_454 : Ev d 131 454 L (.int y :: .int x :: st) μ Q = Ev d 131 455 L (.int (x + y) :: st) μ Q := e_iadd (by decide +kernel : decode (bOf 131) 454 = .ok (.iadd, 1))
theorem x_131_455 (h : kd t r = 10) (hi : inB x (ln t r) = true) : Ev d 131 455 L (.int x :: .ref r :: st) (t, V, A, P) Q = Ev d 131 456 L (.int (A r x.toNatClampNeg) :: st) (t, V, A, P) Q := e_iald_ro (by decide +kernel : decode (bOf 131) 455 = .ok (.iaload, 1)) h hi
theorem x_131_456 : Ev d 131 456 (.ref r :: L) st μ Q = Ev d 131 457 (.ref r :: L) (.ref r :: st) μ Q := e_aload_n (by decide +kernel : decode (bOf 131) 456 = .ok (.aload_n 0, 1)) rfl
theorem x_131_457 : Ev d 131 457 (a0 :: a1 :: a2 :: .int x :: L) st μ Q = Ev d 131 458 (a0 :: a1 :: a2 :: .int x :: L) (.int x :: st) μ Q := e_iload_n (by decide +kernel : decode (bOf 131) 457 = .ok (.iload_n 3, 1)) rfl
theorem x_131_458 : Ev d 131 458 L st μ Q = Ev d 131 459 L (.int (iI 2) :: st) μ Q := e_iconst (by decide +kernel : decode (bOf 131) 458 = .ok (.iconst 2, 1))
theorem x_131_459 : Ev d 131 459 L (.int y :: .int x :: st) μ Q = Ev d 131 460 L (.int (x + y) :: st) μ Q := e_iadd (by decide +kernel : decode (bOf 131) 459 = .ok (.iadd, 1))
theorem x_131_460 (h : kd t r = 10) (hi : inB x (ln t r) = true) : Ev d 131 460 L (.int x :: .ref r :: st) (t, V, A, P) Q = Ev d 131 461 L (.int (A r x.toNatClampNeg) :: st) (t, V, A, P) Q := e_iald_ro (by decide +kernel : decode (bOf 131) 460 = .ok (.iaload, 1)) h hi
theorem x_131_461 : Ev d 131 461 (.ref r :: L) st μ Q = Ev d 131 462 (.ref r :: L) (.ref r :: st) μ Q := e_aload_n (by decide +kernel : decode (bOf 131) 461 = .ok (.aload_n 0, 1)) rfl
theorem x_131_462 : Ev d 131 462 (a0 :: a1 :: a2 :: .int x :: L) st μ Q = Ev d 131 463 (a0 :: a1 :: a2 :: .int x :: L) (.int x :: st) μ Q := e_iload_n (by decide +kernel : decode (bOf 131) 462 = .ok (.iload_n 3, 1)) rfl
theorem x_131_463 : Ev d 131 463 L st μ Q = Ev d 131 464 L (.int (iI 3) :: st) μ Q := e_iconst (by decide +kernel : decode (bOf 131) 463 = .ok (.iconst 3, 1))
theorem x_131_464 : Ev d 131 464 L (.int y :: .int x :: st) μ Q = Ev d 131 465 L (.int (x + y) :: st) μ Q := e_iadd (by decide +kernel : decode (bOf 131) 464 = .ok (.iadd, 1))
theorem x_131_465 (h : kd t r = 10) (hi : inB x (ln t r) = true) : Ev d 131 465 L (.int x :: .ref r :: st) (t, V, A, P) Q = Ev d 131 466 L (.int (A r x.toNatClampNeg) :: st) (t, V, A, P) Q := e_iald_ro (by decide +kernel : decode (bOf 131) 465 = .ok (.iaload, 1)) h hi
theorem x_131_466 (h : kd t r = 5) : Ev d 131 466 L [b2, b1, b0, .ref r, s0] (t, V, A, P) Q = Call d 112 [.ref r, b0, b1, b2] (t, V, A, P) (fun v μ1 => Ev d 131 469 L (v.toList ++ [s0]) μ1 Q) := e_callV (a := [b0, b1, b2]) (r := [s0]) (by decide +kernel : decode (bOf 131) 466 = .ok (.invokevirtual 73, 3)) (by decide +kernel) (by decide +kernel) (by decide +kernel) (by omega) rfl (by simp) (by decide +kernel) h
theorem x_131_469 : Ev d 131 469 L (.int y :: .int x :: st) μ Q = if x = y then Ev d 131 655 L st μ Q else Ev d 131 472 L st μ Q := e_icmp_eq (by decide +kernel : decode (bOf 131) 469 = .ok (.if_icmp .eq 186, 3)) (by omega)
theorem x_131_472 : Ev d 131 472 L st μ Q = Ev d 131 473 L (.int (iI 0) :: st) μ Q := e_iconst (by decide +kernel : decode (bOf 131) 472 = .ok (.iconst 0, 1))
theorem x_131_473 (hx : isB x) : Ev d 131 473 L [.int x] μ Q = Q (some (.int x)) μ := e_zret (by decide +kernel : decode (bOf 131) 473 = .ok (.ireturn, 1)) (by decide +kernel) hx
theorem x_131_474 : Ev d 131 474 (a0 :: .ref r :: L) st μ Q = Ev d 131 475 (a0 :: .ref r :: L) (.ref r :: st) μ Q := e_aload_n (by decide +kernel : decode (bOf 131) 474 = .ok (.aload_n 1, 1)) rfl
theorem x_131_475 : Ev d 131 475 (.ref r :: L) st μ Q = Ev d 131 476 (.ref r :: L) (.ref r :: st) μ Q := e_aload_n (by decide +kernel : decode (bOf 131) 475 = .ok (.aload_n 0, 1)) rfl
theorem x_131_476 : Ev d 131 476 (a0 :: a1 :: a2 :: .int x :: L) st μ Q = Ev d 131 477 (a0 :: a1 :: a2 :: .int x :: L) (.int x :: st) μ Q := e_iload_n (by decide +kernel : decode (bOf 131) 476 = .ok (.iload_n 3, 1)) rfl
theorem x_131_477 : Ev d 131 477 L st μ Q = Ev d 131 478 L (.int (iI 1) :: st) μ Q := e_iconst (by decide +kernel : decode (bOf 131) 477 = .ok (.iconst 1, 1))
theorem x_131_478 : Ev d 131 478 L (.int y :: .int x :: st) μ Q = Ev d 131 479 L (.int (x + y) :: st) μ Q := e_iadd (by decide +kernel : decode (bOf 131) 478 = .ok (.iadd, 1))
theorem x_131_479 (h : kd t r = 10) (hi : inB x (ln t r) = true) : Ev d 131 479 L (.int x :: .ref r :: st) (t, V, A, P) Q = Ev d 131 480 L (.int (A r x.toNatClampNeg) :: st) (t, V, A, P) Q := e_iald_ro (by decide +kernel : decode (bOf 131) 479 = .ok (.iaload, 1)) h hi
theorem x_131_480 (h : kd t r = 4) : Ev d 131 480 L [b0, .ref r] (t, V, A, P) Q = Call d 56 [.ref r, b0] (t, V, A, P) (fun v μ1 => Ev d 131 483 L (v.toList ++ []) μ1 Q) := e_callV (a := [b0]) (r := []) (by decide +kernel : decode (bOf 131) 480 = .ok (.invokevirtual 74, 3)) (by decide +kernel) (by decide +kernel) (by decide +kernel) (by omega) rfl (by simp) (by decide +kernel) h
theorem x_131_483 : Ev d 131 483 (a0 :: a1 :: .ref r :: L) st μ Q = Ev d 131 484 (a0 :: a1 :: .ref r :: L) (.ref r :: st) μ Q := e_aload_n (by decide +kernel : decode (bOf 131) 483 = .ok (.aload_n 2, 1)) rfl
theorem x_131_484 : Ev d 131 484 (.ref r :: L) st μ Q = Ev d 131 485 (.ref r :: L) (.ref r :: st) μ Q := e_aload_n (by decide +kernel : decode (bOf 131) 484 = .ok (.aload_n 0, 1)) rfl
theorem x_131_485 : Ev d 131 485 (a0 :: a1 :: a2 :: .int x :: L) st μ Q = Ev d 131 486 (a0 :: a1 :: a2 :: .int x :: L) (.int x :: st) μ Q := e_iload_n (by decide +kernel : decode (bOf 131) 485 = .ok (.iload_n 3, 1)) rfl
theorem x_131_486 : Ev d 131 486 L st μ Q = Ev d 131 487 L (.int (iI 1) :: st) μ Q := e_iconst (by decide +kernel : decode (bOf 131) 486 = .ok (.iconst 1, 1))
theorem x_131_487 : Ev d 131 487 L (.int y :: .int x :: st) μ Q = Ev d 131 488 L (.int (x + y) :: st) μ Q := e_iadd (by decide +kernel : decode (bOf 131) 487 = .ok (.iadd, 1))
theorem x_131_488 (h : kd t r = 10) (hi : inB x (ln t r) = true) : Ev d 131 488 L (.int x :: .ref r :: st) (t, V, A, P) Q = Ev d 131 489 L (.int (A r x.toNatClampNeg) :: st) (t, V, A, P) Q := e_iald_ro (by decide +kernel : decode (bOf 131) 488 = .ok (.iaload, 1)) h hi
theorem x_131_489 (h : kd t r = 5) : Ev d 131 489 L [b0, .ref r, s0] (t, V, A, P) Q = Call d 113 [.ref r, b0] (t, V, A, P) (fun v μ1 => Ev d 131 492 L (v.toList ++ [s0]) μ1 Q) := e_callV (a := [b0]) (r := [s0]) (by decide +kernel : decode (bOf 131) 489 = .ok (.invokevirtual 77, 3)) (by decide +kernel) (by decide +kernel) (by decide +kernel) (by omega) rfl (by simp) (by decide +kernel) h
theorem x_131_492 : Ev d 131 492 L (.int y :: .int x :: st) μ Q = if x = y then Ev d 131 655 L st μ Q else Ev d 131 495 L st μ Q := e_icmp_eq (by decide +kernel : decode (bOf 131) 492 = .ok (.if_icmp .eq 163, 3)) (by omega)
theorem x_131_495 : Ev d 131 495 L st μ Q = Ev d 131 496 L (.int (iI 0) :: st) μ Q := e_iconst (by decide +kernel : decode (bOf 131) 495 = .ok (.iconst 0, 1))
theorem x_131_496 (hx : isB x) : Ev d 131 496 L [.int x] μ Q = Q (some (.int x)) μ := e_zret (by decide +kernel : decode (bOf 131) 496 = .ok (.ireturn, 1)) (by decide +kernel) hx
theorem x_131_497 : Ev d 131 497 (a0 :: .ref r :: L) st μ Q = Ev d 131 498 (a0 :: .ref r :: L) (.ref r :: st) μ Q := e_aload_n (by decide +kernel : decode (bOf 131) 497 = .ok (.aload_n 1, 1)) rfl
theorem x_131_498 : Ev d 131 498 (.ref r :: L) st μ Q = Ev d 131 499 (.ref r :: L) (.ref r :: st) μ Q := e_aload_n (by decide +kernel : decode (bOf 131) 498 = .ok (.aload_n 0, 1)) rfl
theorem x_131_499 : Ev d 131 499 (a0 :: a1 :: a2 :: .int x :: L) st μ Q = Ev d 131 500 (a0 :: a1 :: a2 :: .int x :: L) (.int x :: st) μ Q := e_iload_n (by decide +kernel : decode (bOf 131) 499 = .ok (.iload_n 3, 1)) rfl
theorem x_131_500 : Ev d 131 500 L st μ Q = Ev d 131 501 L (.int (iI 1) :: st) μ Q := e_iconst (by decide +kernel : decode (bOf 131) 500 = .ok (.iconst 1, 1))
theorem x_131_501 : Ev d 131 501 L (.int y :: .int x :: st) μ Q = Ev d 131 502 L (.int (x + y) :: st) μ Q := e_iadd (by decide +kernel : decode (bOf 131) 501 = .ok (.iadd, 1))
theorem x_131_502 (h : kd t r = 10) (hi : inB x (ln t r) = true) : Ev d 131 502 L (.int x :: .ref r :: st) (t, V, A, P) Q = Ev d 131 503 L (.int (A r x.toNatClampNeg) :: st) (t, V, A, P) Q := e_iald_ro (by decide +kernel : decode (bOf 131) 502 = .ok (.iaload, 1)) h hi
theorem x_131_503 : Ev d 131 503 (.ref r :: L) st μ Q = Ev d 131 504 (.ref r :: L) (.ref r :: st) μ Q := e_aload_n (by decide +kernel : decode (bOf 131) 503 = .ok (.aload_n 0, 1)) rfl
theorem x_131_504 : Ev d 131 504 (a0 :: a1 :: a2 :: .int x :: L) st μ Q = Ev d 131 505 (a0 :: a1 :: a2 :: .int x :: L) (.int x :: st) μ Q := e_iload_n (by decide +kernel : decode (bOf 131) 504 = .ok (.iload_n 3, 1)) rfl
theorem x_131_505 : Ev d 131 505 L st μ Q = Ev d 131 506 L (.int (iI 2) :: st) μ Q := e_iconst (by decide +kernel : decode (bOf 131) 505 = .ok (.iconst 2, 1))
theorem x_131_506 : Ev d 131 506 L (.int y :: .int x :: st) μ Q = Ev d 131 507 L (.int (x + y) :: st) μ Q := e_iadd (by decide +kernel : decode (bOf 131) 506 = .ok (.iadd, 1))
theorem x_131_507 (h : kd t r = 10) (hi : inB x (ln t r) = true) : Ev d 131 507 L (.int x :: .ref r :: st) (t, V, A, P) Q = Ev d 131 508 L (.int (A r x.toNatClampNeg) :: st) (t, V, A, P) Q := e_iald_ro (by decide +kernel : decode (bOf 131) 507 = .ok (.iaload, 1)) h hi
theorem x_131_508 (h : kd t r = 4) : Ev d 131 508 L [b1, b0, .ref r] (t, V, A, P) Q = Call d 57 [.ref r, b0, b1] (t, V, A, P) (fun v μ1 => Ev d 131 511 L (v.toList ++ []) μ1 Q) := e_callV (a := [b0, b1]) (r := []) (by decide +kernel : decode (bOf 131) 508 = .ok (.invokevirtual 78, 3)) (by decide +kernel) (by decide +kernel) (by decide +kernel) (by omega) rfl (by simp) (by decide +kernel) h
theorem x_131_511 : Ev d 131 511 (a0 :: a1 :: .ref r :: L) st μ Q = Ev d 131 512 (a0 :: a1 :: .ref r :: L) (.ref r :: st) μ Q := e_aload_n (by decide +kernel : decode (bOf 131) 511 = .ok (.aload_n 2, 1)) rfl
theorem x_131_512 : Ev d 131 512 (.ref r :: L) st μ Q = Ev d 131 513 (.ref r :: L) (.ref r :: st) μ Q := e_aload_n (by decide +kernel : decode (bOf 131) 512 = .ok (.aload_n 0, 1)) rfl
theorem x_131_513 : Ev d 131 513 (a0 :: a1 :: a2 :: .int x :: L) st μ Q = Ev d 131 514 (a0 :: a1 :: a2 :: .int x :: L) (.int x :: st) μ Q := e_iload_n (by decide +kernel : decode (bOf 131) 513 = .ok (.iload_n 3, 1)) rfl
theorem x_131_514 : Ev d 131 514 L st μ Q = Ev d 131 515 L (.int (iI 1) :: st) μ Q := e_iconst (by decide +kernel : decode (bOf 131) 514 = .ok (.iconst 1, 1))
theorem x_131_515 : Ev d 131 515 L (.int y :: .int x :: st) μ Q = Ev d 131 516 L (.int (x + y) :: st) μ Q := e_iadd (by decide +kernel : decode (bOf 131) 515 = .ok (.iadd, 1))
theorem x_131_516 (h : kd t r = 10) (hi : inB x (ln t r) = true) : Ev d 131 516 L (.int x :: .ref r :: st) (t, V, A, P) Q = Ev d 131 517 L (.int (A r x.toNatClampNeg) :: st) (t, V, A, P) Q := e_iald_ro (by decide +kernel : decode (bOf 131) 516 = .ok (.iaload, 1)) h hi
theorem x_131_517 : Ev d 131 517 (.ref r :: L) st μ Q = Ev d 131 518 (.ref r :: L) (.ref r :: st) μ Q := e_aload_n (by decide +kernel : decode (bOf 131) 517 = .ok (.aload_n 0, 1)) rfl
theorem x_131_518 : Ev d 131 518 (a0 :: a1 :: a2 :: .int x :: L) st μ Q = Ev d 131 519 (a0 :: a1 :: a2 :: .int x :: L) (.int x :: st) μ Q := e_iload_n (by decide +kernel : decode (bOf 131) 518 = .ok (.iload_n 3, 1)) rfl
theorem x_131_519 : Ev d 131 519 L st μ Q = Ev d 131 520 L (.int (iI 2) :: st) μ Q := e_iconst (by decide +kernel : decode (bOf 131) 519 = .ok (.iconst 2, 1))
theorem x_131_520 : Ev d 131 520 L (.int y :: .int x :: st) μ Q = Ev d 131 521 L (.int (x + y) :: st) μ Q := e_iadd (by decide +kernel : decode (bOf 131) 520 = .ok (.iadd, 1))
theorem x_131_521 (h : kd t r = 10) (hi : inB x (ln t r) = true) : Ev d 131 521 L (.int x :: .ref r :: st) (t, V, A, P) Q = Ev d 131 522 L (.int (A r x.toNatClampNeg) :: st) (t, V, A, P) Q := e_iald_ro (by decide +kernel : decode (bOf 131) 521 = .ok (.iaload, 1)) h hi
theorem x_131_522 (h : kd t r = 5) : Ev d 131 522 L [b1, b0, .ref r, s0] (t, V, A, P) Q = Call d 116 [.ref r, b0, b1] (t, V, A, P) (fun v μ1 => Ev d 131 525 L (v.toList ++ [s0]) μ1 Q) := e_callV (a := [b0, b1]) (r := [s0]) (by decide +kernel : decode (bOf 131) 522 = .ok (.invokevirtual 81, 3)) (by decide +kernel) (by decide +kernel) (by decide +kernel) (by omega) rfl (by simp) (by decide +kernel) h
theorem x_131_525 : Ev d 131 525 L (.int y :: .int x :: st) μ Q = if x = y then Ev d 131 655 L st μ Q else Ev d 131 528 L st μ Q := e_icmp_eq (by decide +kernel : decode (bOf 131) 525 = .ok (.if_icmp .eq 130, 3)) (by omega)
theorem x_131_528 : Ev d 131 528 L st μ Q = Ev d 131 529 L (.int (iI 0) :: st) μ Q := e_iconst (by decide +kernel : decode (bOf 131) 528 = .ok (.iconst 0, 1))
theorem x_131_529 (hx : isB x) : Ev d 131 529 L [.int x] μ Q = Q (some (.int x)) μ := e_zret (by decide +kernel : decode (bOf 131) 529 = .ok (.ireturn, 1)) (by decide +kernel) hx
theorem x_131_530 : Ev d 131 530 (a0 :: .ref r :: L) st μ Q = Ev d 131 531 (a0 :: .ref r :: L) (.ref r :: st) μ Q := e_aload_n (by decide +kernel : decode (bOf 131) 530 = .ok (.aload_n 1, 1)) rfl
theorem x_131_531 : Ev d 131 531 (.ref r :: L) st μ Q = Ev d 131 532 (.ref r :: L) (.ref r :: st) μ Q := e_aload_n (by decide +kernel : decode (bOf 131) 531 = .ok (.aload_n 0, 1)) rfl
theorem x_131_532 : Ev d 131 532 (a0 :: a1 :: a2 :: .int x :: L) st μ Q = Ev d 131 533 (a0 :: a1 :: a2 :: .int x :: L) (.int x :: st) μ Q := e_iload_n (by decide +kernel : decode (bOf 131) 532 = .ok (.iload_n 3, 1)) rfl
theorem x_131_533 : Ev d 131 533 L st μ Q = Ev d 131 534 L (.int (iI 1) :: st) μ Q := e_iconst (by decide +kernel : decode (bOf 131) 533 = .ok (.iconst 1, 1))
theorem x_131_534 : Ev d 131 534 L (.int y :: .int x :: st) μ Q = Ev d 131 535 L (.int (x + y) :: st) μ Q := e_iadd (by decide +kernel : decode (bOf 131) 534 = .ok (.iadd, 1))
theorem x_131_535 (h : kd t r = 10) (hi : inB x (ln t r) = true) : Ev d 131 535 L (.int x :: .ref r :: st) (t, V, A, P) Q = Ev d 131 536 L (.int (A r x.toNatClampNeg) :: st) (t, V, A, P) Q := e_iald_ro (by decide +kernel : decode (bOf 131) 535 = .ok (.iaload, 1)) h hi
theorem x_131_536 : Ev d 131 536 (.ref r :: L) st μ Q = Ev d 131 537 (.ref r :: L) (.ref r :: st) μ Q := e_aload_n (by decide +kernel : decode (bOf 131) 536 = .ok (.aload_n 0, 1)) rfl
theorem x_131_537 : Ev d 131 537 (a0 :: a1 :: a2 :: .int x :: L) st μ Q = Ev d 131 538 (a0 :: a1 :: a2 :: .int x :: L) (.int x :: st) μ Q := e_iload_n (by decide +kernel : decode (bOf 131) 537 = .ok (.iload_n 3, 1)) rfl
theorem x_131_538 : Ev d 131 538 L st μ Q = Ev d 131 539 L (.int (iI 2) :: st) μ Q := e_iconst (by decide +kernel : decode (bOf 131) 538 = .ok (.iconst 2, 1))
theorem x_131_539 : Ev d 131 539 L (.int y :: .int x :: st) μ Q = Ev d 131 540 L (.int (x + y) :: st) μ Q := e_iadd (by decide +kernel : decode (bOf 131) 539 = .ok (.iadd, 1))
theorem x_131_540 (h : kd t r = 10) (hi : inB x (ln t r) = true) : Ev d 131 540 L (.int x :: .ref r :: st) (t, V, A, P) Q = Ev d 131 541 L (.int (A r x.toNatClampNeg) :: st) (t, V, A, P) Q := e_iald_ro (by decide +kernel : decode (bOf 131) 540 = .ok (.iaload, 1)) h hi
theorem x_131_541 (h : kd t r = 4) : Ev d 131 541 L [b1, b0, .ref r] (t, V, A, P) Q = Call d 58 [.ref r, b0, b1] (t, V, A, P) (fun v μ1 => Ev d 131 544 L (v.toList ++ []) μ1 Q) := e_callV (a := [b0, b1]) (r := []) (by decide +kernel : decode (bOf 131) 541 = .ok (.invokevirtual 82, 3)) (by decide +kernel) (by decide +kernel) (by decide +kernel) (by omega) rfl (by simp) (by decide +kernel) h
theorem x_131_544 : Ev d 131 544 (a0 :: a1 :: .ref r :: L) st μ Q = Ev d 131 545 (a0 :: a1 :: .ref r :: L) (.ref r :: st) μ Q := e_aload_n (by decide +kernel : decode (bOf 131) 544 = .ok (.aload_n 2, 1)) rfl
theorem x_131_545 : Ev d 131 545 (.ref r :: L) st μ Q = Ev d 131 546 (.ref r :: L) (.ref r :: st) μ Q := e_aload_n (by decide +kernel : decode (bOf 131) 545 = .ok (.aload_n 0, 1)) rfl
theorem x_131_546 : Ev d 131 546 (a0 :: a1 :: a2 :: .int x :: L) st μ Q = Ev d 131 547 (a0 :: a1 :: a2 :: .int x :: L) (.int x :: st) μ Q := e_iload_n (by decide +kernel : decode (bOf 131) 546 = .ok (.iload_n 3, 1)) rfl
theorem x_131_547 : Ev d 131 547 L st μ Q = Ev d 131 548 L (.int (iI 1) :: st) μ Q := e_iconst (by decide +kernel : decode (bOf 131) 547 = .ok (.iconst 1, 1))
theorem x_131_548 : Ev d 131 548 L (.int y :: .int x :: st) μ Q = Ev d 131 549 L (.int (x + y) :: st) μ Q := e_iadd (by decide +kernel : decode (bOf 131) 548 = .ok (.iadd, 1))
theorem x_131_549 (h : kd t r = 10) (hi : inB x (ln t r) = true) : Ev d 131 549 L (.int x :: .ref r :: st) (t, V, A, P) Q = Ev d 131 550 L (.int (A r x.toNatClampNeg) :: st) (t, V, A, P) Q := e_iald_ro (by decide +kernel : decode (bOf 131) 549 = .ok (.iaload, 1)) h hi
theorem x_131_550 : Ev d 131 550 (.ref r :: L) st μ Q = Ev d 131 551 (.ref r :: L) (.ref r :: st) μ Q := e_aload_n (by decide +kernel : decode (bOf 131) 550 = .ok (.aload_n 0, 1)) rfl
theorem x_131_551 : Ev d 131 551 (a0 :: a1 :: a2 :: .int x :: L) st μ Q = Ev d 131 552 (a0 :: a1 :: a2 :: .int x :: L) (.int x :: st) μ Q := e_iload_n (by decide +kernel : decode (bOf 131) 551 = .ok (.iload_n 3, 1)) rfl
theorem x_131_552 : Ev d 131 552 L st μ Q = Ev d 131 553 L (.int (iI 2) :: st) μ Q := e_iconst (by decide +kernel : decode (bOf 131) 552 = .ok (.iconst 2, 1))
theorem x_131_553 : Ev d 131 553 L (.int y :: .int x :: st) μ Q = Ev d 131 554 L (.int (x + y) :: st) μ Q := e_iadd (by decide +kernel : decode (bOf 131) 553 = .ok (.iadd, 1))
theorem x_131_554 (h : kd t r = 10) (hi : inB x (ln t r) = true) : Ev d 131 554 L (.int x :: .ref r :: st) (t, V, A, P) Q = Ev d 131 555 L (.int (A r x.toNatClampNeg) :: st) (t, V, A, P) Q := e_iald_ro (by decide +kernel : decode (bOf 131) 554 = .ok (.iaload, 1)) h hi
theorem x_131_555 (h : kd t r = 5) : Ev d 131 555 L [b1, b0, .ref r, s0] (t, V, A, P) Q = Call d 121 [.ref r, b0, b1] (t, V, A, P) (fun v μ1 => Ev d 131 558 L (v.toList ++ [s0]) μ1 Q) := e_callV (a := [b0, b1]) (r := [s0]) (by decide +kernel : decode (bOf 131) 555 = .ok (.invokevirtual 85, 3)) (by decide +kernel) (by decide +kernel) (by decide +kernel) (by omega) rfl (by simp) (by decide +kernel) h
theorem x_131_558 : Ev d 131 558 L (.int y :: .int x :: st) μ Q = if x = y then Ev d 131 655 L st μ Q else Ev d 131 561 L st μ Q := e_icmp_eq (by decide +kernel : decode (bOf 131) 558 = .ok (.if_icmp .eq 97, 3)) (by omega)
theorem x_131_561 : Ev d 131 561 L st μ Q = Ev d 131 562 L (.int (iI 0) :: st) μ Q := e_iconst (by decide +kernel : decode (bOf 131) 561 = .ok (.iconst 0, 1))
theorem x_131_562 (hx : isB x) : Ev d 131 562 L [.int x] μ Q = Q (some (.int x)) μ := e_zret (by decide +kernel : decode (bOf 131) 562 = .ok (.ireturn, 1)) (by decide +kernel) hx
theorem x_131_563 : Ev d 131 563 (a0 :: .ref r :: L) st μ Q = Ev d 131 564 (a0 :: .ref r :: L) (.ref r :: st) μ Q := e_aload_n (by decide +kernel : decode (bOf 131) 563 = .ok (.aload_n 1, 1)) rfl
theorem x_131_564 : Ev d 131 564 (.ref r :: L) st μ Q = Ev d 131 565 (.ref r :: L) (.ref r :: st) μ Q := e_aload_n (by decide +kernel : decode (bOf 131) 564 = .ok (.aload_n 0, 1)) rfl
theorem x_131_565 : Ev d 131 565 (a0 :: a1 :: a2 :: .int x :: L) st μ Q = Ev d 131 566 (a0 :: a1 :: a2 :: .int x :: L) (.int x :: st) μ Q := e_iload_n (by decide +kernel : decode (bOf 131) 565 = .ok (.iload_n 3, 1)) rfl
theorem x_131_566 : Ev d 131 566 L st μ Q = Ev d 131 567 L (.int (iI 1) :: st) μ Q := e_iconst (by decide +kernel : decode (bOf 131) 566 = .ok (.iconst 1, 1))
theorem x_131_567 : Ev d 131 567 L (.int y :: .int x :: st) μ Q = Ev d 131 568 L (.int (x + y) :: st) μ Q := e_iadd (by decide +kernel : decode (bOf 131) 567 = .ok (.iadd, 1))
theorem x_131_568 (h : kd t r = 10) (hi : inB x (ln t r) = true) : Ev d 131 568 L (.int x :: .ref r :: st) (t, V, A, P) Q = Ev d 131 569 L (.int (A r x.toNatClampNeg) :: st) (t, V, A, P) Q := e_iald_ro (by decide +kernel : decode (bOf 131) 568 = .ok (.iaload, 1)) h hi
theorem x_131_569 (h : kd t r = 4) : Ev d 131 569 L [b0, .ref r] (t, V, A, P) Q = Call d 59 [.ref r, b0] (t, V, A, P) (fun v μ1 => Ev d 131 572 L (v.toList ++ []) μ1 Q) := e_callV (a := [b0]) (r := []) (by decide +kernel : decode (bOf 131) 569 = .ok (.invokevirtual 86, 3)) (by decide +kernel) (by decide +kernel) (by decide +kernel) (by omega) rfl (by simp) (by decide +kernel) h
theorem x_131_572 : Ev d 131 572 (a0 :: a1 :: .ref r :: L) st μ Q = Ev d 131 573 (a0 :: a1 :: .ref r :: L) (.ref r :: st) μ Q := e_aload_n (by decide +kernel : decode (bOf 131) 572 = .ok (.aload_n 2, 1)) rfl
theorem x_131_573 : Ev d 131 573 (.ref r :: L) st μ Q = Ev d 131 574 (.ref r :: L) (.ref r :: st) μ Q := e_aload_n (by decide +kernel : decode (bOf 131) 573 = .ok (.aload_n 0, 1)) rfl
theorem x_131_574 : Ev d 131 574 (a0 :: a1 :: a2 :: .int x :: L) st μ Q = Ev d 131 575 (a0 :: a1 :: a2 :: .int x :: L) (.int x :: st) μ Q := e_iload_n (by decide +kernel : decode (bOf 131) 574 = .ok (.iload_n 3, 1)) rfl
theorem x_131_575 : Ev d 131 575 L st μ Q = Ev d 131 576 L (.int (iI 1) :: st) μ Q := e_iconst (by decide +kernel : decode (bOf 131) 575 = .ok (.iconst 1, 1))
theorem x_131_576 : Ev d 131 576 L (.int y :: .int x :: st) μ Q = Ev d 131 577 L (.int (x + y) :: st) μ Q := e_iadd (by decide +kernel : decode (bOf 131) 576 = .ok (.iadd, 1))
theorem x_131_577 (h : kd t r = 10) (hi : inB x (ln t r) = true) : Ev d 131 577 L (.int x :: .ref r :: st) (t, V, A, P) Q = Ev d 131 578 L (.int (A r x.toNatClampNeg) :: st) (t, V, A, P) Q := e_iald_ro (by decide +kernel : decode (bOf 131) 577 = .ok (.iaload, 1)) h hi
theorem x_131_578 (h : kd t r = 5) : Ev d 131 578 L [b0, .ref r, s0] (t, V, A, P) Q = Call d 122 [.ref r, b0] (t, V, A, P) (fun v μ1 => Ev d 131 581 L (v.toList ++ [s0]) μ1 Q) := e_callV (a := [b0]) (r := [s0]) (by decide +kernel : decode (bOf 131) 578 = .ok (.invokevirtual 89, 3)) (by decide +kernel) (by decide +kernel) (by decide +kernel) (by omega) rfl (by simp) (by decide +kernel) h
theorem x_131_581 : Ev d 131 581 L (.int y :: .int x :: st) μ Q = if x = y then Ev d 131 655 L st μ Q else Ev d 131 584 L st μ Q := e_icmp_eq (by decide +kernel : decode (bOf 131) 581 = .ok (.if_icmp .eq 74, 3)) (by omega)
theorem x_131_584 : Ev d 131 584 L st μ Q = Ev d 131 585 L (.int (iI 0) :: st) μ Q := e_iconst (by decide +kernel : decode (bOf 131) 584 = .ok (.iconst 0, 1))
theorem x_131_585 (hx : isB x) : Ev d 131 585 L [.int x] μ Q = Q (some (.int x)) μ := e_zret (by decide +kernel : decode (bOf 131) 585 = .ok (.ireturn, 1)) (by decide +kernel) hx
theorem x_131_586 : Ev d 131 586 (a0 :: .ref r :: L) st μ Q = Ev d 131 587 (a0 :: .ref r :: L) (.ref r :: st) μ Q := e_aload_n (by decide +kernel : decode (bOf 131) 586 = .ok (.aload_n 1, 1)) rfl
theorem x_131_587 : Ev d 131 587 (.ref r :: L) st μ Q = Ev d 131 588 (.ref r :: L) (.ref r :: st) μ Q := e_aload_n (by decide +kernel : decode (bOf 131) 587 = .ok (.aload_n 0, 1)) rfl
theorem x_131_588 : Ev d 131 588 (a0 :: a1 :: a2 :: .int x :: L) st μ Q = Ev d 131 589 (a0 :: a1 :: a2 :: .int x :: L) (.int x :: st) μ Q := e_iload_n (by decide +kernel : decode (bOf 131) 588 = .ok (.iload_n 3, 1)) rfl
theorem x_131_589 : Ev d 131 589 L st μ Q = Ev d 131 590 L (.int (iI 1) :: st) μ Q := e_iconst (by decide +kernel : decode (bOf 131) 589 = .ok (.iconst 1, 1))
theorem x_131_590 : Ev d 131 590 L (.int y :: .int x :: st) μ Q = Ev d 131 591 L (.int (x + y) :: st) μ Q := e_iadd (by decide +kernel : decode (bOf 131) 590 = .ok (.iadd, 1))
theorem x_131_591 (h : kd t r = 10) (hi : inB x (ln t r) = true) : Ev d 131 591 L (.int x :: .ref r :: st) (t, V, A, P) Q = Ev d 131 592 L (.int (A r x.toNatClampNeg) :: st) (t, V, A, P) Q := e_iald_ro (by decide +kernel : decode (bOf 131) 591 = .ok (.iaload, 1)) h hi
theorem x_131_592 (h : kd t r = 4) : Ev d 131 592 L [b0, .ref r] (t, V, A, P) Q = Call d 60 [.ref r, b0] (t, V, A, P) (fun v μ1 => Ev d 131 595 L (v.toList ++ []) μ1 Q) := e_callV (a := [b0]) (r := []) (by decide +kernel : decode (bOf 131) 592 = .ok (.invokevirtual 90, 3)) (by decide +kernel) (by decide +kernel) (by decide +kernel) (by omega) rfl (by simp) (by decide +kernel) h
theorem x_131_595 : Ev d 131 595 (a0 :: a1 :: .ref r :: L) st μ Q = Ev d 131 596 (a0 :: a1 :: .ref r :: L) (.ref r :: st) μ Q := e_aload_n (by decide +kernel : decode (bOf 131) 595 = .ok (.aload_n 2, 1)) rfl
theorem x_131_596 : Ev d 131 596 (.ref r :: L) st μ Q = Ev d 131 597 (.ref r :: L) (.ref r :: st) μ Q := e_aload_n (by decide +kernel : decode (bOf 131) 596 = .ok (.aload_n 0, 1)) rfl
theorem x_131_597 : Ev d 131 597 (a0 :: a1 :: a2 :: .int x :: L) st μ Q = Ev d 131 598 (a0 :: a1 :: a2 :: .int x :: L) (.int x :: st) μ Q := e_iload_n (by decide +kernel : decode (bOf 131) 597 = .ok (.iload_n 3, 1)) rfl
theorem x_131_598 : Ev d 131 598 L st μ Q = Ev d 131 599 L (.int (iI 1) :: st) μ Q := e_iconst (by decide +kernel : decode (bOf 131) 598 = .ok (.iconst 1, 1))
theorem x_131_599 : Ev d 131 599 L (.int y :: .int x :: st) μ Q = Ev d 131 600 L (.int (x + y) :: st) μ Q := e_iadd (by decide +kernel : decode (bOf 131) 599 = .ok (.iadd, 1))
theorem x_131_600 (h : kd t r = 10) (hi : inB x (ln t r) = true) : Ev d 131 600 L (.int x :: .ref r :: st) (t, V, A, P) Q = Ev d 131 601 L (.int (A r x.toNatClampNeg) :: st) (t, V, A, P) Q := e_iald_ro (by decide +kernel : decode (bOf 131) 600 = .ok (.iaload, 1)) h hi
theorem x_131_601 (h : kd t r = 5) : Ev d 131 601 L [b0, .ref r, s0] (t, V, A, P) Q = Call d 123 [.ref r, b0] (t, V, A, P) (fun v μ1 => Ev d 131 604 L (v.toList ++ [s0]) μ1 Q) := e_callV (a := [b0]) (r := [s0]) (by decide +kernel : decode (bOf 131) 601 = .ok (.invokevirtual 93, 3)) (by decide +kernel) (by decide +kernel) (by decide +kernel) (by omega) rfl (by simp) (by decide +kernel) h
theorem x_131_604 : Ev d 131 604 L (.int y :: .int x :: st) μ Q = if x = y then Ev d 131 655 L st μ Q else Ev d 131 607 L st μ Q := e_icmp_eq (by decide +kernel : decode (bOf 131) 604 = .ok (.if_icmp .eq 51, 3)) (by omega)
theorem x_131_607 : Ev d 131 607 L st μ Q = Ev d 131 608 L (.int (iI 0) :: st) μ Q := e_iconst (by decide +kernel : decode (bOf 131) 607 = .ok (.iconst 0, 1))
theorem x_131_608 (hx : isB x) : Ev d 131 608 L [.int x] μ Q = Q (some (.int x)) μ := e_zret (by decide +kernel : decode (bOf 131) 608 = .ok (.ireturn, 1)) (by decide +kernel) hx
theorem x_131_609 : Ev d 131 609 (a0 :: .ref r :: L) st μ Q = Ev d 131 610 (a0 :: .ref r :: L) (.ref r :: st) μ Q := e_aload_n (by decide +kernel : decode (bOf 131) 609 = .ok (.aload_n 1, 1)) rfl
theorem x_131_610 : Ev d 131 610 (.ref r :: L) st μ Q = Ev d 131 611 (.ref r :: L) (.ref r :: st) μ Q := e_aload_n (by decide +kernel : decode (bOf 131) 610 = .ok (.aload_n 0, 1)) rfl
theorem x_131_611 : Ev d 131 611 (a0 :: a1 :: a2 :: .int x :: L) st μ Q = Ev d 131 612 (a0 :: a1 :: a2 :: .int x :: L) (.int x :: st) μ Q := e_iload_n (by decide +kernel : decode (bOf 131) 611 = .ok (.iload_n 3, 1)) rfl
theorem x_131_612 : Ev d 131 612 L st μ Q = Ev d 131 613 L (.int (iI 1) :: st) μ Q := e_iconst (by decide +kernel : decode (bOf 131) 612 = .ok (.iconst 1, 1))
theorem x_131_613 : Ev d 131 613 L (.int y :: .int x :: st) μ Q = Ev d 131 614 L (.int (x + y) :: st) μ Q := e_iadd (by decide +kernel : decode (bOf 131) 613 = .ok (.iadd, 1))
theorem x_131_614 (h : kd t r = 10) (hi : inB x (ln t r) = true) : Ev d 131 614 L (.int x :: .ref r :: st) (t, V, A, P) Q = Ev d 131 615 L (.int (A r x.toNatClampNeg) :: st) (t, V, A, P) Q := e_iald_ro (by decide +kernel : decode (bOf 131) 614 = .ok (.iaload, 1)) h hi
theorem x_131_615 (h : kd t r = 4) : Ev d 131 615 L [b0, .ref r] (t, V, A, P) Q = Call d 61 [.ref r, b0] (t, V, A, P) (fun v μ1 => Ev d 131 618 L (v.toList ++ []) μ1 Q) := e_callV (a := [b0]) (r := []) (by decide +kernel : decode (bOf 131) 615 = .ok (.invokevirtual 94, 3)) (by decide +kernel) (by decide +kernel) (by decide +kernel) (by omega) rfl (by simp) (by decide +kernel) h
theorem x_131_618 : Ev d 131 618 (a0 :: a1 :: .ref r :: L) st μ Q = Ev d 131 619 (a0 :: a1 :: .ref r :: L) (.ref r :: st) μ Q := e_aload_n (by decide +kernel : decode (bOf 131) 618 = .ok (.aload_n 2, 1)) rfl
theorem x_131_619 : Ev d 131 619 (.ref r :: L) st μ Q = Ev d 131 620 (.ref r :: L) (.ref r :: st) μ Q := e_aload_n (by decide +kernel : decode (bOf 131) 619 = .ok (.aload_n 0, 1)) rfl
theorem x_131_620 : Ev d 131 620 (a0 :: a1 :: a2 :: .int x :: L) st μ Q = Ev d 131 621 (a0 :: a1 :: a2 :: .int x :: L) (.int x :: st) μ Q := e_iload_n (by decide +kernel : decode (bOf 131) 620 = .ok (.iload_n 3, 1)) rfl
theorem x_131_621 : Ev d 131 621 L st μ Q = Ev d 131 622 L (.int (iI 1) :: st) μ Q := e_iconst (by decide +kernel : decode (bOf 131) 621 = .ok (.iconst 1, 1))
theorem x_131_622 : Ev d 131 622 L (.int y :: .int x :: st) μ Q = Ev d 131 623 L (.int (x + y) :: st) μ Q := e_iadd (by decide +kernel : decode (bOf 131) 622 = .ok (.iadd, 1))
theorem x_131_623 (h : kd t r = 10) (hi : inB x (ln t r) = true) : Ev d 131 623 L (.int x :: .ref r :: st) (t, V, A, P) Q = Ev d 131 624 L (.int (A r x.toNatClampNeg) :: st) (t, V, A, P) Q := e_iald_ro (by decide +kernel : decode (bOf 131) 623 = .ok (.iaload, 1)) h hi
theorem x_131_624 (h : kd t r = 5) : Ev d 131 624 L [b0, .ref r, s0] (t, V, A, P) Q = Call d 124 [.ref r, b0] (t, V, A, P) (fun v μ1 => Ev d 131 627 L (v.toList ++ [s0]) μ1 Q) := e_callV (a := [b0]) (r := [s0]) (by decide +kernel : decode (bOf 131) 624 = .ok (.invokevirtual 97, 3)) (by decide +kernel) (by decide +kernel) (by decide +kernel) (by omega) rfl (by simp) (by decide +kernel) h
theorem x_131_627 : Ev d 131 627 L (.int y :: .int x :: st) μ Q = if x = y then Ev d 131 655 L st μ Q else Ev d 131 630 L st μ Q := e_icmp_eq (by decide +kernel : decode (bOf 131) 627 = .ok (.if_icmp .eq 28, 3)) (by omega)
theorem x_131_630 : Ev d 131 630 L st μ Q = Ev d 131 631 L (.int (iI 0) :: st) μ Q := e_iconst (by decide +kernel : decode (bOf 131) 630 = .ok (.iconst 0, 1))
theorem x_131_631 (hx : isB x) : Ev d 131 631 L [.int x] μ Q = Q (some (.int x)) μ := e_zret (by decide +kernel : decode (bOf 131) 631 = .ok (.ireturn, 1)) (by decide +kernel) hx
theorem x_131_632 : Ev d 131 632 (a0 :: .ref r :: L) st μ Q = Ev d 131 633 (a0 :: .ref r :: L) (.ref r :: st) μ Q := e_aload_n (by decide +kernel : decode (bOf 131) 632 = .ok (.aload_n 1, 1)) rfl
theorem x_131_633 : Ev d 131 633 (.ref r :: L) st μ Q = Ev d 131 634 (.ref r :: L) (.ref r :: st) μ Q := e_aload_n (by decide +kernel : decode (bOf 131) 633 = .ok (.aload_n 0, 1)) rfl
theorem x_131_634 : Ev d 131 634 (a0 :: a1 :: a2 :: .int x :: L) st μ Q = Ev d 131 635 (a0 :: a1 :: a2 :: .int x :: L) (.int x :: st) μ Q := e_iload_n (by decide +kernel : decode (bOf 131) 634 = .ok (.iload_n 3, 1)) rfl
theorem x_131_635 : Ev d 131 635 L st μ Q = Ev d 131 636 L (.int (iI 1) :: st) μ Q := e_iconst (by decide +kernel : decode (bOf 131) 635 = .ok (.iconst 1, 1))
theorem x_131_636 : Ev d 131 636 L (.int y :: .int x :: st) μ Q = Ev d 131 637 L (.int (x + y) :: st) μ Q := e_iadd (by decide +kernel : decode (bOf 131) 636 = .ok (.iadd, 1))
theorem x_131_637 (h : kd t r = 10) (hi : inB x (ln t r) = true) : Ev d 131 637 L (.int x :: .ref r :: st) (t, V, A, P) Q = Ev d 131 638 L (.int (A r x.toNatClampNeg) :: st) (t, V, A, P) Q := e_iald_ro (by decide +kernel : decode (bOf 131) 637 = .ok (.iaload, 1)) h hi
theorem x_131_638 (h : kd t r = 4) : Ev d 131 638 L [b0, .ref r] (t, V, A, P) Q = Call d 62 [.ref r, b0] (t, V, A, P) (fun v μ1 => Ev d 131 641 L (v.toList ++ []) μ1 Q) := e_callV (a := [b0]) (r := []) (by decide +kernel : decode (bOf 131) 638 = .ok (.invokevirtual 98, 3)) (by decide +kernel) (by decide +kernel) (by decide +kernel) (by omega) rfl (by simp) (by decide +kernel) h
theorem x_131_641 : Ev d 131 641 (a0 :: a1 :: .ref r :: L) st μ Q = Ev d 131 642 (a0 :: a1 :: .ref r :: L) (.ref r :: st) μ Q := e_aload_n (by decide +kernel : decode (bOf 131) 641 = .ok (.aload_n 2, 1)) rfl
theorem x_131_642 : Ev d 131 642 (.ref r :: L) st μ Q = Ev d 131 643 (.ref r :: L) (.ref r :: st) μ Q := e_aload_n (by decide +kernel : decode (bOf 131) 642 = .ok (.aload_n 0, 1)) rfl
theorem x_131_643 : Ev d 131 643 (a0 :: a1 :: a2 :: .int x :: L) st μ Q = Ev d 131 644 (a0 :: a1 :: a2 :: .int x :: L) (.int x :: st) μ Q := e_iload_n (by decide +kernel : decode (bOf 131) 643 = .ok (.iload_n 3, 1)) rfl
theorem x_131_644 : Ev d 131 644 L st μ Q = Ev d 131 645 L (.int (iI 1) :: st) μ Q := e_iconst (by decide +kernel : decode (bOf 131) 644 = .ok (.iconst 1, 1))
theorem x_131_645 : Ev d 131 645 L (.int y :: .int x :: st) μ Q = Ev d 131 646 L (.int (x + y) :: st) μ Q := e_iadd (by decide +kernel : decode (bOf 131) 645 = .ok (.iadd, 1))
theorem x_131_646 (h : kd t r = 10) (hi : inB x (ln t r) = true) : Ev d 131 646 L (.int x :: .ref r :: st) (t, V, A, P) Q = Ev d 131 647 L (.int (A r x.toNatClampNeg) :: st) (t, V, A, P) Q := e_iald_ro (by decide +kernel : decode (bOf 131) 646 = .ok (.iaload, 1)) h hi
theorem x_131_647 (h : kd t r = 5) : Ev d 131 647 L [b0, .ref r, s0] (t, V, A, P) Q = Call d 128 [.ref r, b0] (t, V, A, P) (fun v μ1 => Ev d 131 650 L (v.toList ++ [s0]) μ1 Q) := e_callV (a := [b0]) (r := [s0]) (by decide +kernel : decode (bOf 131) 647 = .ok (.invokevirtual 101, 3)) (by decide +kernel) (by decide +kernel) (by decide +kernel) (by omega) rfl (by simp) (by decide +kernel) h
theorem x_131_650 : Ev d 131 650 L (.int y :: .int x :: st) μ Q = if x = y then Ev d 131 655 L st μ Q else Ev d 131 653 L st μ Q := e_icmp_eq (by decide +kernel : decode (bOf 131) 650 = .ok (.if_icmp .eq 5, 3)) (by omega)
theorem x_131_653 : Ev d 131 653 L st μ Q = Ev d 131 654 L (.int (iI 0) :: st) μ Q := e_iconst (by decide +kernel : decode (bOf 131) 653 = .ok (.iconst 0, 1))
theorem x_131_654 (hx : isB x) : Ev d 131 654 L [.int x] μ Q = Q (some (.int x)) μ := e_zret (by decide +kernel : decode (bOf 131) 654 = .ok (.ireturn, 1)) (by decide +kernel) hx
theorem x_131_655 (h : a2.category = 1) : Ev d 131 655 (a0 :: a1 :: a2 :: .int x :: L) st μ Q = Ev d 131 658 (a0 :: a1 :: a2 :: .int (x + (iI 5)) :: L) st μ Q := e_iinc (by decide +kernel : decode (bOf 131) 655 = .ok (.iinc 3 5, 3)) rfl (by simp [stOK, h])
theorem x_131_658 : Ev d 131 658 L st μ Q = Ev d 131 18 L st μ Q := e_goto (by decide +kernel : decode (bOf 131) 658 = .ok (.goto (-640), 3)) (by omega)
theorem x_131_661 : Ev d 131 661 L st μ Q = Ev d 131 662 L (.int (iI 1) :: st) μ Q := e_iconst (by decide +kernel : decode (bOf 131) 661 = .ok (.iconst 1, 1))
theorem x_131_662 (hx : isB x) : Ev d 131 662 L [.int x] μ Q = Q (some (.int x)) μ := e_zret (by decide +kernel : decode (bOf 131) 662 = .ok (.ireturn, 1)) (by decide +kernel) hx
end Xf
