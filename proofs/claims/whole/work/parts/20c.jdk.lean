def yJ_bitCount : MethodName := ⟨"java/lang/Integer", "bitCount", "(I)I"⟩
def m_J_bitCount : x_M := (yJ_bitCount, prog_7_method_49_code, 1, (some FieldType.int), 0, 0)
theorem v_J_bitCount : x_VM m_J_bitCount 1 := ⟨q371, q9, by decide +kernel, by decide +kernel, by decide +kernel⟩
theorem d_J_bitCount_0 : x_dec m_J_bitCount 0 (.iload_n 0) 1 1 := ⟨by decide +kernel, rfl⟩
theorem d_J_bitCount_1 : x_dec m_J_bitCount 1 (.iload_n 0) 1 2 := ⟨by decide +kernel, rfl⟩
theorem d_J_bitCount_2 : x_dec m_J_bitCount 2 (.iconst 1) 1 3 := ⟨by decide +kernel, rfl⟩
theorem d_J_bitCount_3 : x_dec m_J_bitCount 3 (.iushr) 1 4 := ⟨by decide +kernel, rfl⟩
theorem d_J_bitCount_4 : x_dec m_J_bitCount 4 (.ldc_w 265) 3 7 := ⟨by decide +kernel, rfl⟩
theorem d_J_bitCount_7 : x_dec m_J_bitCount 7 (.iand) 1 8 := ⟨by decide +kernel, rfl⟩
theorem d_J_bitCount_8 : x_dec m_J_bitCount 8 (.isub) 1 9 := ⟨by decide +kernel, rfl⟩
theorem d_J_bitCount_9 : x_dec m_J_bitCount 9 (.istore_n 0) 1 10 := ⟨by decide +kernel, rfl⟩
theorem d_J_bitCount_10 : x_dec m_J_bitCount 10 (.iload_n 0) 1 11 := ⟨by decide +kernel, rfl⟩
theorem d_J_bitCount_11 : x_dec m_J_bitCount 11 (.ldc_w 266) 3 14 := ⟨by decide +kernel, rfl⟩
theorem d_J_bitCount_14 : x_dec m_J_bitCount 14 (.iand) 1 15 := ⟨by decide +kernel, rfl⟩
theorem d_J_bitCount_15 : x_dec m_J_bitCount 15 (.iload_n 0) 1 16 := ⟨by decide +kernel, rfl⟩
theorem d_J_bitCount_16 : x_dec m_J_bitCount 16 (.iconst 2) 1 17 := ⟨by decide +kernel, rfl⟩
theorem d_J_bitCount_17 : x_dec m_J_bitCount 17 (.iushr) 1 18 := ⟨by decide +kernel, rfl⟩
theorem d_J_bitCount_18 : x_dec m_J_bitCount 18 (.ldc_w 266) 3 21 := ⟨by decide +kernel, rfl⟩
theorem d_J_bitCount_21 : x_dec m_J_bitCount 21 (.iand) 1 22 := ⟨by decide +kernel, rfl⟩
theorem d_J_bitCount_22 : x_dec m_J_bitCount 22 (.iadd) 1 23 := ⟨by decide +kernel, rfl⟩
theorem d_J_bitCount_23 : x_dec m_J_bitCount 23 (.istore_n 0) 1 24 := ⟨by decide +kernel, rfl⟩
theorem d_J_bitCount_24 : x_dec m_J_bitCount 24 (.iload_n 0) 1 25 := ⟨by decide +kernel, rfl⟩
theorem d_J_bitCount_25 : x_dec m_J_bitCount 25 (.iload_n 0) 1 26 := ⟨by decide +kernel, rfl⟩
theorem d_J_bitCount_26 : x_dec m_J_bitCount 26 (.iconst 4) 1 27 := ⟨by decide +kernel, rfl⟩
theorem d_J_bitCount_27 : x_dec m_J_bitCount 27 (.iushr) 1 28 := ⟨by decide +kernel, rfl⟩
theorem d_J_bitCount_28 : x_dec m_J_bitCount 28 (.iadd) 1 29 := ⟨by decide +kernel, rfl⟩
theorem d_J_bitCount_29 : x_dec m_J_bitCount 29 (.ldc_w 267) 3 32 := ⟨by decide +kernel, rfl⟩
theorem d_J_bitCount_32 : x_dec m_J_bitCount 32 (.iand) 1 33 := ⟨by decide +kernel, rfl⟩
theorem d_J_bitCount_33 : x_dec m_J_bitCount 33 (.istore_n 0) 1 34 := ⟨by decide +kernel, rfl⟩
theorem d_J_bitCount_34 : x_dec m_J_bitCount 34 (.iload_n 0) 1 35 := ⟨by decide +kernel, rfl⟩
theorem d_J_bitCount_35 : x_dec m_J_bitCount 35 (.iload_n 0) 1 36 := ⟨by decide +kernel, rfl⟩
theorem d_J_bitCount_36 : x_dec m_J_bitCount 36 (.bipush 8) 2 38 := ⟨by decide +kernel, rfl⟩
theorem d_J_bitCount_38 : x_dec m_J_bitCount 38 (.iushr) 1 39 := ⟨by decide +kernel, rfl⟩
theorem d_J_bitCount_39 : x_dec m_J_bitCount 39 (.iadd) 1 40 := ⟨by decide +kernel, rfl⟩
theorem d_J_bitCount_40 : x_dec m_J_bitCount 40 (.istore_n 0) 1 41 := ⟨by decide +kernel, rfl⟩
theorem d_J_bitCount_41 : x_dec m_J_bitCount 41 (.iload_n 0) 1 42 := ⟨by decide +kernel, rfl⟩
theorem d_J_bitCount_42 : x_dec m_J_bitCount 42 (.iload_n 0) 1 43 := ⟨by decide +kernel, rfl⟩
theorem d_J_bitCount_43 : x_dec m_J_bitCount 43 (.bipush 16) 2 45 := ⟨by decide +kernel, rfl⟩
theorem d_J_bitCount_45 : x_dec m_J_bitCount 45 (.iushr) 1 46 := ⟨by decide +kernel, rfl⟩
theorem d_J_bitCount_46 : x_dec m_J_bitCount 46 (.iadd) 1 47 := ⟨by decide +kernel, rfl⟩
theorem d_J_bitCount_47 : x_dec m_J_bitCount 47 (.istore_n 0) 1 48 := ⟨by decide +kernel, rfl⟩
theorem d_J_bitCount_48 : x_dec m_J_bitCount 48 (.iload_n 0) 1 49 := ⟨by decide +kernel, rfl⟩
theorem d_J_bitCount_49 : x_dec m_J_bitCount 49 (.bipush 63) 2 51 := ⟨by decide +kernel, rfl⟩
theorem d_J_bitCount_51 : x_dec m_J_bitCount 51 (.iand) 1 52 := ⟨by decide +kernel, rfl⟩
theorem d_J_bitCount_52 : x_dec m_J_bitCount 52 (.ireturn) 1 53 := ⟨by decide +kernel, rfl⟩
set_option maxHeartbeats 4000000 in
set_option maxRecDepth 100000 in
theorem c_J_bitCount (l : Launch) (E : x_E) (μ : x_Mem) {s : Nat} (hs : s < 65536) : x_Met l m_J_bitCount E [.int (nI s)] μ (x_I (fun z m => z = nI (popN 16 s) ∧ m = μ)) := by
  obtain ⟨g1, g2, g3, g4⟩ := bc_lt hs
  refine x_enter (lv := [(0, .int (nI s))]) (by decide +kernel) (Nat.le_of_ble_eq_true rfl) rfl ?_
  refine x_iload_n 0 d_J_bitCount_0 rfl rfl ?_
  refine x_iload_n 0 d_J_bitCount_1 rfl rfl ?_
  refine x_iconst (x := 1) d_J_bitCount_2 (by decide) ?_
  refine x_iushr d_J_bitCount_3 ?_
  refine x_ldcw q372 d_J_bitCount_4 ?_
  refine x_iand d_J_bitCount_7 ?_
  refine x_isub d_J_bitCount_8 ?_
  rw [bcS1 hs]
  refine x_istore_n [(0, .int (nI (bc1 s)))] d_J_bitCount_9 rfl (Nat.le_of_ble_eq_true rfl) rfl ?_
  refine x_iload_n 0 d_J_bitCount_10 rfl rfl ?_
  refine x_ldcw q373 d_J_bitCount_11 ?_
  refine x_iand d_J_bitCount_14 ?_
  refine x_iload_n 0 d_J_bitCount_15 rfl rfl ?_
  refine x_iconst (x := 2) d_J_bitCount_16 (by decide) ?_
  refine x_iushr d_J_bitCount_17 ?_
  refine x_ldcw q373 d_J_bitCount_18 ?_
  refine x_iand d_J_bitCount_21 ?_
  refine x_iadd d_J_bitCount_22 ?_
  rw [bcS2 g1]
  refine x_istore_n [(0, .int (nI (bc2 (bc1 s))))] d_J_bitCount_23 rfl (Nat.le_of_ble_eq_true rfl) rfl ?_
  refine x_iload_n 0 d_J_bitCount_24 rfl rfl ?_
  refine x_iload_n 0 d_J_bitCount_25 rfl rfl ?_
  refine x_iconst (x := 4) d_J_bitCount_26 (by decide) ?_
  refine x_iushr d_J_bitCount_27 ?_
  refine x_iadd d_J_bitCount_28 ?_
  refine x_ldcw q374 d_J_bitCount_29 ?_
  refine x_iand d_J_bitCount_32 ?_
  rw [bcS3 g2]
  refine x_istore_n [(0, .int (nI (bc3 (bc2 (bc1 s)))))] d_J_bitCount_33 rfl (Nat.le_of_ble_eq_true rfl) rfl ?_
  refine x_iload_n 0 d_J_bitCount_34 rfl rfl ?_
  refine x_iload_n 0 d_J_bitCount_35 rfl rfl ?_
  refine x_bipush (x := 8) d_J_bitCount_36 (by decide) ?_
  refine x_iushr d_J_bitCount_38 ?_
  refine x_iadd d_J_bitCount_39 ?_
  rw [bcS4 g3]
  refine x_istore_n [(0, .int (nI (bc4 (bc3 (bc2 (bc1 s))))))] d_J_bitCount_40 rfl (Nat.le_of_ble_eq_true rfl) rfl ?_
  refine x_iload_n 0 d_J_bitCount_41 rfl rfl ?_
  refine x_iload_n 0 d_J_bitCount_42 rfl rfl ?_
  refine x_bipush (x := 16) d_J_bitCount_43 (by decide) ?_
  refine x_iushr d_J_bitCount_45 ?_
  refine x_iadd d_J_bitCount_46 ?_
  rw [bcS5 g4]
  refine x_istore_n [(0, .int (nI (bc5 (bc4 (bc3 (bc2 (bc1 s)))))))] d_J_bitCount_47 rfl (Nat.le_of_ble_eq_true rfl) rfl ?_
  refine x_iload_n 0 d_J_bitCount_48 rfl rfl ?_
  refine x_bipush (x := 63) d_J_bitCount_49 (by decide) ?_
  refine x_iand d_J_bitCount_51 ?_
  refine x_iret rfl d_J_bitCount_52 ?_
  refine ⟨?_, rfl⟩
  rw [show (63 : Int32) = nI 63 from rfl, nI_and, ← bcN_pop hs]
  rfl
def yJ_fill : MethodName := ⟨"java/util/Arrays", "fill", "([II)V"⟩
def m_J_fill : x_M := (yJ_fill, prog_13_method_103_code, 4, none, 0, 0)
theorem v_J_fill : x_VM m_J_fill 2 := ⟨q30, q3, by decide +kernel, by decide +kernel, by decide +kernel⟩
theorem d_J_fill_0 : x_dec m_J_fill 0 (.iconst 0) 1 1 := ⟨by decide +kernel, rfl⟩
theorem d_J_fill_1 : x_dec m_J_fill 1 (.istore_n 2) 1 2 := ⟨by decide +kernel, rfl⟩
theorem d_J_fill_2 : x_dec m_J_fill 2 (.aload_n 0) 1 3 := ⟨by decide +kernel, rfl⟩
theorem d_J_fill_3 : x_dec m_J_fill 3 (.arraylength) 1 4 := ⟨by decide +kernel, rfl⟩
theorem d_J_fill_4 : x_dec m_J_fill 4 (.istore_n 3) 1 5 := ⟨by decide +kernel, rfl⟩
theorem d_J_fill_5 : x_dec m_J_fill 5 (.iload_n 2) 1 6 := ⟨by decide +kernel, rfl⟩
theorem d_J_fill_6 : x_dec m_J_fill 6 (.iload_n 3) 1 7 := ⟨by decide +kernel, rfl⟩
theorem d_J_fill_7 : x_dec m_J_fill 7 (.if_icmp .ge 13) 3 10 := ⟨by decide +kernel, rfl⟩
theorem d_J_fill_10 : x_dec m_J_fill 10 (.aload_n 0) 1 11 := ⟨by decide +kernel, rfl⟩
theorem d_J_fill_11 : x_dec m_J_fill 11 (.iload_n 2) 1 12 := ⟨by decide +kernel, rfl⟩
theorem d_J_fill_12 : x_dec m_J_fill 12 (.iload_n 1) 1 13 := ⟨by decide +kernel, rfl⟩
theorem d_J_fill_13 : x_dec m_J_fill 13 (.iastore) 1 14 := ⟨by decide +kernel, rfl⟩
theorem d_J_fill_14 : x_dec m_J_fill 14 (.iinc 2 1) 3 17 := ⟨by decide +kernel, rfl⟩
theorem d_J_fill_17 : x_dec m_J_fill 17 (.goto (-12)) 3 20 := ⟨by decide +kernel, rfl⟩
theorem d_J_fill_20 : x_dec m_J_fill 20 (.return_) 1 21 := ⟨by decide +kernel, rfl⟩
set_option maxHeartbeats 4000000 in
set_option maxRecDepth 100000 in
theorem c_J_fill (l : Launch) (E : x_E) (μ : x_Mem) {k n : Nat} {v : Int32} (hk : x_kd k = 0) (hn : x_ln k = n) (hb : n < 2 ^ 31) : x_Met l m_J_fill E [.ref (E.1 + k), .int v] μ (x_J (fun m => (∀ j, j < n → m k j = v) ∧ ∀ id, id ≠ k → m id = μ id)) := by
  have hF : ∀ id, id ≠ k → μ id = μ id := fun _ _ => rfl
  refine x_enter (lv := [(0, .ref (E.1 + k)), (1, .int v)]) (by decide +kernel) (Nat.le_of_ble_eq_true rfl) rfl ?_
  refine x_iconst (x := 0) d_J_fill_0 (by decide) ?_
  refine x_istore_n [(2, .int 0), (0, .ref (E.1 + k)), (1, .int v)] d_J_fill_1 rfl (Nat.le_of_ble_eq_true rfl) rfl ?_
  refine x_aload_n 1 d_J_fill_2 rfl rfl ?_
  refine x_alen n hk hn d_J_fill_3 ?_
  refine x_istore_n [(3, .int (nI n)), (2, .int 0), (0, .ref (E.1 + k)), (1, .int v)] d_J_fill_4 rfl (Nat.le_of_ble_eq_true rfl) rfl ?_
  have L1 : ∀ i : Nat, i ≤ n → ∀ μ4 : x_Mem, (∀ j, j < i → μ4 k j = v) → (∀ id, id ≠ k → μ4 id = μ id) → x_G l E m_J_fill (x_mv E m_J_fill (x_J (fun m => (∀ j, j < n → m k j = v) ∧ ∀ id, id ≠ k → m id = μ id))) μ4 5 [(3, .int (nI n)), (2, .int (nI i)), (0, .ref (E.1 + k)), (1, .int v)] [] := by
    refine x_down _ n (fun i hi3 ih2 => ?_)
    intro μ4 hq hF1
    refine x_iload_n 1 d_J_fill_5 rfl rfl ?_
    refine x_iload_n 0 d_J_fill_6 rfl rfl ?_
    refine x_icmp_ge 20 d_J_fill_7 (by decide) (fun c5 => ?_) (fun c5 => ?_)
    · skip
      have hN := x_ge (N := n) c5 rfl rfl (by omega) (by omega)
      refine x_vret rfl d_J_fill_20 ?_
      exact ⟨fun j hj => hq j (by omega), hF1⟩
    · skip
      have hN := x_lt (N := n) c5 rfl rfl (by omega) (by omega)
      refine x_aload_n 2 d_J_fill_10 rfl rfl ?_
      refine x_iload_n 1 d_J_fill_11 rfl rfl ?_
      refine x_iload_n 3 d_J_fill_12 rfl rfl ?_
      refine x_iastNG n i hk hn (by omega) (by omega) d_J_fill_13 (fun μ6 eμ6 => ?_)
      have hq9 : ∀ j, j < i + 1 → μ6 k j = v := fun j hj => by rw [eμ6, upd2_at]; unfold upd; split; rfl; exact hq j (by omega)
      have hF7 : ∀ id, id ≠ k → μ6 id = μ id := fun id hid => (show μ6 id = μ4 id from (by rw [eμ6, upd2_ne _ _ _ (by omega)])).trans (hF1 id hid)
      refine x_iinc [(2, .int (nI (i + 1))), (3, .int (nI n)), (0, .ref (E.1 + k)), (1, .int v)] 1 d_J_fill_14 rfl (x_inc _) (Nat.le_of_ble_eq_true rfl) rfl ?_
      refine x_goto 5 d_J_fill_17 (by decide) ?_
      refine x_lv [1, 0, 2, 3] rfl ?_
      exact ih2 (i + 1) (by omega) (by omega) μ6 hq9 hF7
  exact L1 0 (by omega) μ (fun _ hj => absurd hj (Nat.not_lt_zero _)) hF
