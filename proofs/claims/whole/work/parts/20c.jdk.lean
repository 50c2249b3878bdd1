def yJ_bitCount : MethodName := ⟨"java/lang/Integer", "bitCount", "(I)I"⟩
def m_J_bitCount : x_M := (yJ_bitCount, prog_7_method_49_code, 1, (some FieldType.int), 0, 0)
theorem v_J_bitCount : x_VM m_J_bitCount 1 := ⟨q371, q9, by decide +kernel, by decide +kernel, by decide +kernel⟩
theorem d_J_bitCount_0 : x_dec m_J_bitCount 0 (.iload_n 0) 1 1 := ⟨by decide +kernel, rfl⟩
theorem d_J_bitCount_1 : x_dec m_J_bitCount 1 (.iload_n 0) 1 2 := ⟨by decide +kernel, rfl⟩
theorem d_J_bitCount_2 : x_dec m_J_bitCount 2 (.iconst 1) 1 3 := ⟨by decide +kernel, rfl⟩
theorem d_J_bitCount_3 : x_dec m_J_bitCount 3 (.iushr) 1 4 := ⟨by decide +kernel, rfl⟩
theorem d_J_bitCount_4 : x_dec m_J_bitCount 4 (.ldc_w 265) 3 7 := ⟨by decide +kernel, rfl⟩
theorem d_J_bitCount_7 : x_dec m_J_bitCount 7 (.iand) 1 8 := ⟨by decide +kernel, rfl⟩
theorem d_J_bitCount_8 : x_dec m_J_bitCount 8 (.isub) 1 9 := ⟨by decide +kernel, rfl⟩
theorem d_J_bitCount_9 : x_dec m_J_bitCount 9 (.istore_n 0) 1 10 := ⟨by decide +kernel, rfl⟩
theorem d_J_bitCount_10 : x_dec m_J_bitCount 10 (.iload_n 0) 1 11 := ⟨by decide +kernel, rfl⟩
theorem d_J_bitCount_11 : x_dec m_J_bitCount 11 (.ldc_w 266) 3 14 := ⟨by decide +kernel, rfl⟩
theorem d_J_bitCount_14 : x_dec m_J_bitCount 14 (.iand) 1 15 := ⟨by decide +kernel, rfl⟩
theorem d_J_bitCount_15 : x_dec m_J_bitCount 15 (.iload_n 0) 1 16 := ⟨by decide +kernel, rfl⟩
theorem d_J_bitCount_16 : x_dec m_J_bitCount 16 (.iconst 2) 1 17 := ⟨by decide +kernel, rfl⟩
theorem d_J_bitCount_17 : x_dec m_J_bitCount 17 (.iushr) 1 18 := ⟨by decide +kernel, rfl⟩
theorem d_J_bitCount_18 : x_dec m_J_bitCount 18 (.ldc_w 266) 3 21 := ⟨by decide +kernel, rfl⟩
theorem d_J_bitCount_21 : x_dec m_J_bitCount 21 (.iand) 1 22 := ⟨by decide +kernel, rfl⟩
theorem d_J_bitCount_22 : x_dec m_J_bitCount 22 (.iadd) 1 23 := ⟨by decide +kernel, rfl⟩
theorem d_J_bitCount_23 : x_dec m_J_bitCount 23 (.istore_n 0) 1 24 := ⟨by decide +kernel, rfl⟩
theorem d_J_bitCount_24 : x_dec m_J_bitCount 24 (.iload_n 0) 1 25 := ⟨by decide +kernel, rfl⟩
theorem d_J_bitCount_25 : x_dec m_J_bitCount 25 (.iload_n 0) 1 26 := ⟨by decide +kernel, rfl⟩
theorem d_J_bitCount_26 : x_dec m_J_bitCount 26 (.iconst 4) 1 27 := ⟨by decide +kernel, rfl⟩
theorem d_J_bitCount_27 : x_dec m_J_bitCount 27 (.iushr) 1 28 := ⟨by decide +kernel, rfl⟩
theorem d_J_bitCount_28 : x_dec m_J_bitCount 28 (.iadd) 1 29 := ⟨by decide +kernel, rfl⟩
theorem d_J_bitCount_29 : x_dec m_J_bitCount 29 (.ldc_w 267) 3 32 := ⟨by decide +kernel, rfl⟩
theorem d_J_bitCount_32 : x_dec m_J_bitCount 32 (.iand) 1 33 := ⟨by decide +kernel, rfl⟩
theorem d_J_bitCount_33 : x_dec m_J_bitCount 33 (.istore_n 0) 1 34 := ⟨by decide +kernel, rfl⟩
theorem d_J_bitCount_34 : x_dec m_J_bitCount 34 (.iload_n 0) 1 35 := ⟨by decide +kernel, rfl⟩
theorem d_J_bitCount_35 : x_dec m_J_bitCount 35 (.iload_n 0) 1 36 := ⟨by decide +kernel, rfl⟩
theorem d_J_bitCount_36 : x_dec m_J_bitCount 36 (.bipush 8) 2 38 := ⟨by decide +kernel, rfl⟩
theorem d_J_bitCount_38 : x_dec m_J_bitCount 38 (.iushr) 1 39 := ⟨by decide +kernel, rfl⟩
theorem d_J_bitCount_39 : x_dec m_J_bitCount 39 (.iadd) 1 40 := ⟨by decide +kernel, rfl⟩
theorem d_J_bitCount_40 : x_dec m_J_bitCount 40 (.istore_n 0) 1 41 := ⟨by decide +kernel, rfl⟩
theorem d_J_bitCount_41 : x_dec m_J_bitCount 41 (.iload_n 0) 1 42 := ⟨by decide +kernel, rfl⟩
theorem d_J_bitCount_42 : x_dec m_J_bitCount 42 (.iload_n 0) 1 43 := ⟨by decide +kernel, rfl⟩
theorem d_J_bitCount_43 : x_dec m_J_bitCount 43 (.bipush 16) 2 45 := ⟨by decide +kernel, rfl⟩
theorem d_J_bitCount_45 : x_dec m_J_bitCount 45 (.iushr) 1 46 := ⟨by decide +kernel, rfl⟩
theorem d_J_bitCount_46 : x_dec m_J_bitCount 46 (.iadd) 1 47 := ⟨by decide +kernel, rfl⟩
theorem d_J_bitCount_47 : x_dec m_J_bitCount 47 (.istore_n 0) 1 48 := ⟨by decide +kernel, rfl⟩
theorem d_J_bitCount_48 : x_dec m_J_bitCount 48 (.iload_n 0) 1 49 := ⟨by decide +kernel, rfl⟩
theorem d_J_bitCount_49 : x_dec m_J_bitCount 49 (.bipush 63) 2 51 := ⟨by decide +kernel, rfl⟩
theorem d_J_bitCount_51 : x_dec m_J_bitCount 51 (.iand) 1 52 := ⟨by decide +kernel, rfl⟩
theorem d_J_bitCount_52 : x_dec m_J_bitCount 52 (.ireturn) 1 53 := ⟨by decide +kernel, rfl⟩
set_option maxHeartbeats 4000000 in
set_option maxRecDepth 100000 in
theorem c_J_bitCount (l : Launch) (E : x_E) (μ : x_Mem) {s : Nat} (hs : s < 65536) : x_Met l m_J_bitCount E [.int (nI s)] μ (x_I (fun z m => z = nI (popN 16 s) ∧ m = μ)) := by
  obtain ⟨g1, g2, g3, g4⟩ := bc_lt hs
  refine x_enter (lv := [(0, .int (nI s))]) (by decide +kernel) (Nat.le_of_ble_eq_true rfl) rfl ?_
  refine x_iload_n 0 d_J_bitCount_0 rfl rfl ?_
  refine x_iload_n 0 d_J_bitCount_1 rfl rfl ?_
  refine x_iconst (x := 1) d_J_bitCount_2 (by decide) ?_
  refine x_iushr d_J_bitCount_3 ?_
  refine x_ldcw q372 d_J_bitCount_4 ?_
  refine x_iand d_J_bitCount_7 ?_
  refine x_isub d_J_bitCount_8 ?_
  rw [bcS1 hs]
  refine x_istore_n [(0, .int (nI (bc1 s)))] d_J_bitCount_9 rfl (Nat.le_of_ble_eq_true rfl) rfl ?_
  refine x_iload_n 0 d_J_bitCount_10 rfl rfl ?_
  refine x_ldcw q373 d_J_bitCount_11 ?_
  refine x_iand d_J_bitCount_14 ?_
  refine x_iload_n 0 d_J_bitCount_15 rfl rfl ?_
  refine x_iconst (x := 2) d_J_bitCount_16 (by decide) ?_
  refine x_iushr d_J_bitCount_17 ?_
  refine x_ldcw q373 d_J_bitCount_18 ?_
  refine x_iand d_J_bitCount_21 ?_
  refine x_iadd d_J_bitCount_22 ?_
  rw [bcS2 g1]
  refine x_istore_n [(0, .int (nI (bc2 (bc1 s))))] d_J_bitCount_23 rfl (Nat.le_of_ble_eq_true rfl) rfl ?_
  refine x_iload_n 0 d_J_bitCount_24 rfl rfl ?_
  refine x_iload_n 0 d_J_bitCount_25 rfl rfl ?_
  refine x_iconst (x := 4) d_J_bitCount_26 (by decide) ?_
  refine x_iushr d_J_bitCount_27 ?_
  refine x_iadd d_J_bitCount_28 ?_
  refine x_ldcw q374 d_J_bitCount_29 ?_
  refine x_iand d_J_bitCount_32 ?_
  rw [bcS3 g2]
  refine x_istore_n [(0, .int (nI (bc3 (bc2 (bc1 s)))))] d_J_bitCount_33 rfl (Nat.le_of_ble_eq_true rfl) rfl ?_
  refine x_iload_n 0 d_J_bitCount_34 rfl rfl ?_
  refine x_iload_n 0 d_J_bitCount_35 rfl rfl ?_
  refine x_bipush (x := 8) d_J_bitCount_36 (by decide) ?_
  refine x_iushr d_J_bitCount_38 ?_
  refine x_iadd d_J_bitCount_39 ?_
  rw [bcS4 g3]
  refine x_istore_n [(0, .int (nI (bc4 (bc3 (bc2 (bc1 s))))))] d_J_bitCount_40 rfl (Nat.le_of_ble_eq_true rfl) rfl ?_
  refine x_iload_n 0 d_J_bitCount_41 rfl rfl ?_
  refine x_iload_n 0 d_J_bitCount_42 rfl rfl ?_
  refine x_bipush (x := 16) d_J_bitCount_43 (by decide) ?_
  refine x_iushr d_J_bitCount_45 ?_
  refine x_iadd d_J_bitCount_46 ?_
  rw [bcS5 g4]
  refine x_istore_n [(0, .int (nI (bc5 (bc4 (bc3 (bc2 (bc1 s)))))))] d_J_bitCount_47 rfl (Nat.le_of_ble_eq_true rfl) rfl ?_
  refine x_iload_n 0 d_J_bitCount_48 rfl rfl ?_
  refine x_bipush (x := 63) d_J_bitCount_49 (by decide) ?_
  refine x_iand d_J_bitCount_51 ?_
  refine x_iret rfl d_J_bitCount_52 ?_
  refine ⟨?_, rfl⟩
  rw [show (63 : Int32) = nI 63 from rfl, nI_and, ← bcN_pop hs]
  rfl
