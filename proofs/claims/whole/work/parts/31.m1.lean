def m_X4_in : x_M := (yX4_in, prog_6_method_4_code, 3, (some FieldType.boolean), 0, 0)
theorem v_X4_in : x_VM m_X4_in 3 := ⟨q729, q6, by decide +kernel, by decide +kernel, by decide +kernel⟩
theorem d_X4_in_0 : x_dec m_X4_in 0 (.iload_n 0) 1 1 := ⟨by decide +kernel, rfl⟩
theorem d_X4_in_1 : x_dec m_X4_in 1 (.iload_n 1) 1 2 := ⟨by decide +kernel, rfl⟩
theorem d_X4_in_2 : x_dec m_X4_in 2 (.if_icmp .lt 12) 3 5 := ⟨by decide +kernel, rfl⟩
theorem d_X4_in_5 : x_dec m_X4_in 5 (.iload_n 0) 1 6 := ⟨by decide +kernel, rfl⟩
theorem d_X4_in_6 : x_dec m_X4_in 6 (.iload_n 2) 1 7 := ⟨by decide +kernel, rfl⟩
theorem d_X4_in_7 : x_dec m_X4_in 7 (.if_icmp .gt 7) 3 10 := ⟨by decide +kernel, rfl⟩
theorem d_X4_in_10 : x_dec m_X4_in 10 (.iconst 1) 1 11 := ⟨by decide +kernel, rfl⟩
theorem d_X4_in_11 : x_dec m_X4_in 11 (.goto 4) 3 14 := ⟨by decide +kernel, rfl⟩
theorem d_X4_in_14 : x_dec m_X4_in 14 (.iconst 0) 1 15 := ⟨by decide +kernel, rfl⟩
theorem d_X4_in_15 : x_dec m_X4_in 15 (.ireturn) 1 16 := ⟨by decide +kernel, rfl⟩
set_option maxHeartbeats 4000000 in
set_option maxRecDepth 100000 in
theorem c_X4_in (l : Launch) (E : x_E) (μ : x_Mem) (k lo hi : Int32) : x_Met l m_X4_in E [.int k, .int lo, .int hi] μ (x_I (fun z m => z = x_b (inR k lo hi) ∧ m = μ)) := by
  refine x_enter (lv := [(0, .int k), (1, .int lo), (2, .int hi)]) (by decide +kernel) (Nat.le_of_ble_eq_true rfl) rfl ?_
  refine x_iload_n 0 d_X4_in_0 rfl rfl ?_
  refine x_iload_n 1 d_X4_in_1 rfl rfl ?_
  refine x_icmp_lt 14 d_X4_in_2 (by decide) (fun c1 => ?_) (fun c1 => ?_)
  · skip
    refine x_iconst (x := 0) d_X4_in_14 (by decide) ?_
    refine x_zret0 rfl d_X4_in_15 ?_
    exact ⟨congrArg x_b (inR_w1 c1).symm, rfl⟩
  · skip
    refine x_iload_n 0 d_X4_in_5 rfl rfl ?_
    refine x_iload_n 2 d_X4_in_6 rfl rfl ?_
    refine x_icmp_gt 14 d_X4_in_7 (by decide) (fun c2 => ?_) (fun c2 => ?_)
    · skip
      refine x_iconst (x := 0) d_X4_in_14 (by decide) ?_
      refine x_zret0 rfl d_X4_in_15 ?_
      exact ⟨congrArg x_b (inR_w2 c2).symm, rfl⟩
    · skip
      refine x_iconst (x := 1) d_X4_in_10 (by decide) ?_
      refine x_goto 15 d_X4_in_11 (by decide) ?_
      refine x_zret1 rfl d_X4_in_15 ?_
      exact ⟨congrArg x_b (inR_w3 c1 c2).symm, rfl⟩
def m_X4_held : x_M := (yX4_held, prog_6_method_5_code, 3, (some FieldType.int), 0, 0)
theorem v_X4_held : x_VM m_X4_held 3 := ⟨q761, q6, by decide +kernel, by decide +kernel, by decide +kernel⟩
theorem d_X4_held_0 : x_dec m_X4_held 0 (.iload_n 0) 1 1 := ⟨by decide +kernel, rfl⟩
theorem d_X4_held_1 : x_dec m_X4_held 1 (.iload_n 1) 1 2 := ⟨by decide +kernel, rfl⟩
theorem d_X4_held_2 : x_dec m_X4_held 2 (.if_icmp .ge 7) 3 5 := ⟨by decide +kernel, rfl⟩
theorem d_X4_held_5 : x_dec m_X4_held 5 (.iload_n 1) 1 6 := ⟨by decide +kernel, rfl⟩
theorem d_X4_held_6 : x_dec m_X4_held 6 (.goto 13) 3 9 := ⟨by decide +kernel, rfl⟩
theorem d_X4_held_9 : x_dec m_X4_held 9 (.iload_n 0) 1 10 := ⟨by decide +kernel, rfl⟩
theorem d_X4_held_10 : x_dec m_X4_held 10 (.iload_n 2) 1 11 := ⟨by decide +kernel, rfl⟩
theorem d_X4_held_11 : x_dec m_X4_held 11 (.if_icmp .le 7) 3 14 := ⟨by decide +kernel, rfl⟩
theorem d_X4_held_14 : x_dec m_X4_held 14 (.iload_n 2) 1 15 := ⟨by decide +kernel, rfl⟩
theorem d_X4_held_15 : x_dec m_X4_held 15 (.goto 4) 3 18 := ⟨by decide +kernel, rfl⟩
theorem d_X4_held_18 : x_dec m_X4_held 18 (.iload_n 0) 1 19 := ⟨by decide +kernel, rfl⟩
theorem d_X4_held_19 : x_dec m_X4_held 19 (.ireturn) 1 20 := ⟨by decide +kernel, rfl⟩
set_option maxHeartbeats 4000000 in
set_option maxRecDepth 100000 in
theorem c_X4_held (l : Launch) (E : x_E) (μ : x_Mem) (k lo hi : Int32) : x_Met l m_X4_held E [.int k, .int lo, .int hi] μ (x_I (fun z m => z = heldF k lo hi ∧ m = μ)) := by
  refine x_enter (lv := [(0, .int k), (1, .int lo), (2, .int hi)]) (by decide +kernel) (Nat.le_of_ble_eq_true rfl) rfl ?_
  refine x_iload_n 0 d_X4_held_0 rfl rfl ?_
  refine x_iload_n 1 d_X4_held_1 rfl rfl ?_
  refine x_icmp_ge 9 d_X4_held_2 (by decide) (fun c1 => ?_) (fun c1 => ?_)
  · skip
    refine x_iload_n 0 d_X4_held_9 rfl rfl ?_
    refine x_iload_n 2 d_X4_held_10 rfl rfl ?_
    refine x_icmp_le 18 d_X4_held_11 (by decide) (fun c2 => ?_) (fun c2 => ?_)
    · skip
      refine x_iload_n 0 d_X4_held_18 rfl rfl ?_
      refine x_iret rfl d_X4_held_19 ?_
      exact ⟨(held_2 (Int32.not_lt.mpr c1) (Int32.not_lt.mpr c2)).symm, rfl⟩
    · skip
      refine x_iload_n 2 d_X4_held_14 rfl rfl ?_
      refine x_goto 19 d_X4_held_15 (by decide) ?_
      refine x_iret rfl d_X4_held_19 ?_
      exact ⟨(held_1 (Int32.not_lt.mpr c1) (Int32.not_le.mp c2)).symm, rfl⟩
  · skip
    refine x_iload_n 1 d_X4_held_5 rfl rfl ?_
    refine x_goto 19 d_X4_held_6 (by decide) ?_
    refine x_iret rfl d_X4_held_19 ?_
    exact ⟨(held_0 (Int32.not_le.mp c1)).symm, rfl⟩
def m_X4_isStretch : x_M := (yX4_isStretch, prog_6_method_9_code, 1, (some FieldType.boolean), 1, 22)
theorem v_X4_isStretch : x_VM m_X4_isStretch 1 := ⟨q726, q6, by decide +kernel, by decide +kernel, by decide +kernel⟩
theorem d_X4_isStretch_0 : x_dec m_X4_isStretch 0 (.iload_n 0) 1 1 := ⟨by decide +kernel, rfl⟩
theorem d_X4_isStretch_1 : x_dec m_X4_isStretch 1 (.iconst 0) 1 2 := ⟨by decide +kernel, rfl⟩
theorem d_X4_isStretch_2 : x_dec m_X4_isStretch 2 (.bipush 15) 2 4 := ⟨by decide +kernel, rfl⟩
theorem d_X4_isStretch_4 : x_dec m_X4_isStretch 4 (.invokestatic 46) 3 7 := ⟨by decide +kernel, rfl⟩
theorem d_X4_isStretch_7 : x_dec m_X4_isStretch 7 (.ireturn) 1 8 := ⟨by decide +kernel, rfl⟩
set_option maxHeartbeats 4000000 in
set_option maxRecDepth 100000 in
theorem c_X4_isStretch (l : Launch) (E : x_E) (μ : x_Mem) (k : Int32) : x_Met l m_X4_isStretch E [.int k] μ (x_I (fun z m => z = x_b (inR k 0 15) ∧ m = μ)) := by
  refine x_enter (lv := [(0, .int k)]) (by decide +kernel) (Nat.le_of_ble_eq_true rfl) rfl ?_
  refine x_iload_n 0 d_X4_isStretch_0 rfl rfl ?_
  refine x_iconst (x := 0) d_X4_isStretch_1 (by decide) ?_
  refine x_bipush (x := 15) d_X4_isStretch_2 (by decide) ?_
  refine x_csip (as := [.int k, .int 0, .int 15]) (c_X4_in l E μ k 0 15) v_X4_in q728 q727 rfl ⟨Nat.le_of_ble_eq_true rfl, Nat.le_of_ble_eq_true rfl⟩ rfl (Nat.le_of_ble_eq_true rfl) d_X4_isStretch_4 ?_
  refine x_zret rfl d_X4_isStretch_7 ?_
  exact ⟨rfl, rfl⟩
def m_X4_isYard : x_M := (yX4_isYard, prog_6_method_10_code, 1, (some FieldType.boolean), 1, 22)
theorem v_X4_isYard : x_VM m_X4_isYard 1 := ⟨q884, q6, by decide +kernel, by decide +kernel, by decide +kernel⟩
theorem d_X4_isYard_0 : x_dec m_X4_isYard 0 (.iload_n 0) 1 1 := ⟨by decide +kernel, rfl⟩
theorem d_X4_isYard_1 : x_dec m_X4_isYard 1 (.iconst 0) 1 2 := ⟨by decide +kernel, rfl⟩
theorem d_X4_isYard_2 : x_dec m_X4_isYard 2 (.bipush 16) 2 4 := ⟨by decide +kernel, rfl⟩
theorem d_X4_isYard_4 : x_dec m_X4_isYard 4 (.invokestatic 46) 3 7 := ⟨by decide +kernel, rfl⟩
theorem d_X4_isYard_7 : x_dec m_X4_isYard 7 (.ireturn) 1 8 := ⟨by decide +kernel, rfl⟩
set_option maxHeartbeats 4000000 in
set_option maxRecDepth 100000 in
theorem c_X4_isYard (l : Launch) (E : x_E) (μ : x_Mem) (k : Int32) : x_Met l m_X4_isYard E [.int k] μ (x_I (fun z m => z = x_b (inR k 0 16) ∧ m = μ)) := by
  refine x_enter (lv := [(0, .int k)]) (by decide +kernel) (Nat.le_of_ble_eq_true rfl) rfl ?_
  refine x_iload_n 0 d_X4_isYard_0 rfl rfl ?_
  refine x_iconst (x := 0) d_X4_isYard_1 (by decide) ?_
  refine x_bipush (x := 16) d_X4_isYard_2 (by decide) ?_
  refine x_csip (as := [.int k, .int 0, .int 16]) (c_X4_in l E μ k 0 16) v_X4_in q728 q727 rfl ⟨Nat.le_of_ble_eq_true rfl, Nat.le_of_ble_eq_true rfl⟩ rfl (Nat.le_of_ble_eq_true rfl) d_X4_isYard_4 ?_
  refine x_zret rfl d_X4_isYard_7 ?_
  exact ⟨rfl, rfl⟩
def m_X4_isSheet : x_M := (yX4_isSheet, prog_6_method_60_code, 1, (some FieldType.boolean), 1, 22)
theorem v_X4_isSheet : x_VM m_X4_isSheet 1 := ⟨q963, q6, by decide +kernel, by decide +kernel, by decide +kernel⟩
theorem d_X4_isSheet_0 : x_dec m_X4_isSheet 0 (.iload_n 0) 1 1 := ⟨by decide +kernel, rfl⟩
theorem d_X4_isSheet_1 : x_dec m_X4_isSheet 1 (.iconst 0) 1 2 := ⟨by decide +kernel, rfl⟩
theorem d_X4_isSheet_2 : x_dec m_X4_isSheet 2 (.iconst 3) 1 3 := ⟨by decide +kernel, rfl⟩
theorem d_X4_isSheet_3 : x_dec m_X4_isSheet 3 (.invokestatic 46) 3 6 := ⟨by decide +kernel, rfl⟩
theorem d_X4_isSheet_6 : x_dec m_X4_isSheet 6 (.ireturn) 1 7 := ⟨by decide +kernel, rfl⟩
set_option maxHeartbeats 4000000 in
set_option maxRecDepth 100000 in
theorem c_X4_isSheet (l : Launch) (E : x_E) (μ : x_Mem) (k : Int32) : x_Met l m_X4_isSheet E [.int k] μ (x_I (fun z m => z = x_b (inR k 0 3) ∧ m = μ)) := by
  refine x_enter (lv := [(0, .int k)]) (by decide +kernel) (Nat.le_of_ble_eq_true rfl) rfl ?_
  refine x_iload_n 0 d_X4_isSheet_0 rfl rfl ?_
  refine x_iconst (x := 0) d_X4_isSheet_1 (by decide) ?_
  refine x_iconst (x := 3) d_X4_isSheet_2 (by decide) ?_
  refine x_csip (as := [.int k, .int 0, .int 3]) (c_X4_in l E μ k 0 3) v_X4_in q728 q727 rfl ⟨Nat.le_of_ble_eq_true rfl, Nat.le_of_ble_eq_true rfl⟩ rfl (Nat.le_of_ble_eq_true rfl) d_X4_isSheet_3 ?_
  refine x_zret rfl d_X4_isSheet_6 ?_
  exact ⟨rfl, rfl⟩
def m_X4_farFrom : x_M := (yX4_farFrom, prog_6_method_16_code, 2, (some FieldType.int), 0, 0)
theorem v_X4_farFrom : x_VM m_X4_farFrom 2 := ⟨q768, q6, by decide +kernel, by decide +kernel, by decide +kernel⟩
theorem d_X4_farFrom_0 : x_dec m_X4_farFrom 0 (.iload_n 0) 1 1 := ⟨by decide +kernel, rfl⟩
theorem d_X4_farFrom_1 : x_dec m_X4_farFrom 1 (.iload_n 1) 1 2 := ⟨by decide +kernel, rfl⟩
theorem d_X4_farFrom_2 : x_dec m_X4_farFrom 2 (.if_icmp .gt 9) 3 5 := ⟨by decide +kernel, rfl⟩
theorem d_X4_farFrom_5 : x_dec m_X4_farFrom 5 (.iload_n 1) 1 6 := ⟨by decide +kernel, rfl⟩
theorem d_X4_farFrom_6 : x_dec m_X4_farFrom 6 (.iload_n 0) 1 7 := ⟨by decide +kernel, rfl⟩
theorem d_X4_farFrom_7 : x_dec m_X4_farFrom 7 (.isub) 1 8 := ⟨by decide +kernel, rfl⟩
theorem d_X4_farFrom_8 : x_dec m_X4_farFrom 8 (.goto 8) 3 11 := ⟨by decide +kernel, rfl⟩
theorem d_X4_farFrom_11 : x_dec m_X4_farFrom 11 (.iload_n 0) 1 12 := ⟨by decide +kernel, rfl⟩
theorem d_X4_farFrom_12 : x_dec m_X4_farFrom 12 (.iload_n 1) 1 13 := ⟨by decide +kernel, rfl⟩
theorem d_X4_farFrom_13 : x_dec m_X4_farFrom 13 (.isub) 1 14 := ⟨by decide +kernel, rfl⟩
theorem d_X4_farFrom_14 : x_dec m_X4_farFrom 14 (.iconst 1) 1 15 := ⟨by decide +kernel, rfl⟩
theorem d_X4_farFrom_15 : x_dec m_X4_farFrom 15 (.isub) 1 16 := ⟨by decide +kernel, rfl⟩
theorem d_X4_farFrom_16 : x_dec m_X4_farFrom 16 (.ireturn) 1 17 := ⟨by decide +kernel, rfl⟩
set_option maxHeartbeats 4000000 in
set_option maxRecDepth 100000 in
theorem c_X4_farFrom (l : Launch) (E : x_E) (μ : x_Mem) (w k : Int32) : x_Met l m_X4_farFrom E [.int w, .int k] μ (x_I (fun z m => z = farF w k ∧ m = μ)) := by
  refine x_enter (lv := [(0, .int w), (1, .int k)]) (by decide +kernel) (Nat.le_of_ble_eq_true rfl) rfl ?_
  refine x_iload_n 0 d_X4_farFrom_0 rfl rfl ?_
  refine x_iload_n 1 d_X4_farFrom_1 rfl rfl ?_
  refine x_icmp_gt 11 d_X4_farFrom_2 (by decide) (fun c1 => ?_) (fun c1 => ?_)
  · skip
    refine x_iload_n 0 d_X4_farFrom_11 rfl rfl ?_
    refine x_iload_n 1 d_X4_farFrom_12 rfl rfl ?_
    refine x_isub d_X4_farFrom_13 ?_
    refine x_iconst (x := 1) d_X4_farFrom_14 (by decide) ?_
    refine x_isub d_X4_farFrom_15 ?_
    refine x_iret rfl d_X4_farFrom_16 ?_
    exact ⟨by unfold farF; rw [if_neg (Int32.not_le.mpr c1)], rfl⟩
  · skip
    refine x_iload_n 1 d_X4_farFrom_5 rfl rfl ?_
    refine x_iload_n 0 d_X4_farFrom_6 rfl rfl ?_
    refine x_isub d_X4_farFrom_7 ?_
    refine x_goto 16 d_X4_farFrom_8 (by decide) ?_
    refine x_iret rfl d_X4_farFrom_16 ?_
    exact ⟨by unfold farF; rw [if_pos (Int32.not_lt.mp c1)], rfl⟩
def m_X4_copyAll : x_M := (yX4_copyAll, prog_6_method_6_code, 3, none, 0, 0)
theorem v_X4_copyAll : x_VM m_X4_copyAll 2 := ⟨q865, q6, by decide +kernel, by decide +kernel, by decide +kernel⟩
theorem d_X4_copyAll_0 : x_dec m_X4_copyAll 0 (.iconst 0) 1 1 := ⟨by decide +kernel, rfl⟩
theorem d_X4_copyAll_1 : x_dec m_X4_copyAll 1 (.istore_n 2) 1 2 := ⟨by decide +kernel, rfl⟩
theorem d_X4_copyAll_2 : x_dec m_X4_copyAll 2 (.iload_n 2) 1 3 := ⟨by decide +kernel, rfl⟩
theorem d_X4_copyAll_3 : x_dec m_X4_copyAll 3 (.bipush 58) 2 5 := ⟨by decide +kernel, rfl⟩
theorem d_X4_copyAll_5 : x_dec m_X4_copyAll 5 (.if_icmp .ge 15) 3 8 := ⟨by decide +kernel, rfl⟩
theorem d_X4_copyAll_8 : x_dec m_X4_copyAll 8 (.aload_n 1) 1 9 := ⟨by decide +kernel, rfl⟩
theorem d_X4_copyAll_9 : x_dec m_X4_copyAll 9 (.iload_n 2) 1 10 := ⟨by decide +kernel, rfl⟩
theorem d_X4_copyAll_10 : x_dec m_X4_copyAll 10 (.aload_n 0) 1 11 := ⟨by decide +kernel, rfl⟩
theorem d_X4_copyAll_11 : x_dec m_X4_copyAll 11 (.iload_n 2) 1 12 := ⟨by decide +kernel, rfl⟩
theorem d_X4_copyAll_12 : x_dec m_X4_copyAll 12 (.iaload) 1 13 := ⟨by decide +kernel, rfl⟩
theorem d_X4_copyAll_13 : x_dec m_X4_copyAll 13 (.iastore) 1 14 := ⟨by decide +kernel, rfl⟩
theorem d_X4_copyAll_14 : x_dec m_X4_copyAll 14 (.iinc 2 1) 3 17 := ⟨by decide +kernel, rfl⟩
theorem d_X4_copyAll_17 : x_dec m_X4_copyAll 17 (.goto (-15)) 3 20 := ⟨by decide +kernel, rfl⟩
theorem d_X4_copyAll_20 : x_dec m_X4_copyAll 20 (.return_) 1 21 := ⟨by decide +kernel, rfl⟩
set_option maxHeartbeats 4000000 in
set_option maxRecDepth 100000 in
theorem c_X4_copyAll (l : Launch) (E : x_E) (μ : x_Mem) {k1 k2 : Nat} (hne : k1 ≠ k2) (hk1 : x_kd k1 = 0) (hn1 : x_ln k1 = 58) (hk2 : x_kd k2 = 0) (hn2 : x_ln k2 = 58) : x_Met l m_X4_copyAll E [.ref (E.1 + k1), .ref (E.1 + k2)] μ (x_J (fun m => (∀ j, j < 58 → m k2 j = μ k1 j) ∧ ∀ id, id ≠ k2 → m id = μ id)) := by
  have hF1 : ∀ id, id ≠ k2 → μ id = μ id := fun _ _ => rfl
  refine x_enter (lv := [(0, .ref (E.1 + k1)), (1, .ref (E.1 + k2))]) (by decide +kernel) (Nat.le_of_ble_eq_true rfl) rfl ?_
  refine x_iconst (x := 0) d_X4_copyAll_0 (by decide) ?_
  refine x_istore_n [(2, .int 0), (0, .ref (E.1 + k1)), (1, .ref (E.1 + k2))] d_X4_copyAll_1 rfl (Nat.le_of_ble_eq_true rfl) rfl ?_
  have L1 : ∀ i : Nat, i ≤ 58 → ∀ μ4 : x_Mem, (∀ j, j < i → μ4 k2 j = μ k1 j) → (∀ id, id ≠ k2 → μ4 id = μ id) → x_G l E m_X4_copyAll (x_mv E m_X4_copyAll (x_J (fun m => (∀ j, j < 58 → m k2 j = μ k1 j) ∧ ∀ id, id ≠ k2 → m id = μ id))) μ4 2 [(2, .int (nI i)), (0, .ref (E.1 + k1)), (1, .ref (E.1 + k2))] [] := by
    refine x_down _ 58 (fun i hi3 ih2 => ?_)
    intro μ4 hq hF1
    refine x_iload_n 0 d_X4_copyAll_2 rfl rfl ?_
    refine x_bipush (x := 58) d_X4_copyAll_3 (by decide) ?_
    refine x_icmp_ge 20 d_X4_copyAll_5 (by decide) (fun c5 => ?_) (fun c5 => ?_)
    · skip
      have hN := x_ge (N := 58) c5 rfl rfl (by omega) (by omega)
      refine x_vret rfl d_X4_copyAll_20 ?_
      exact ⟨fun j hj => hq j (by omega), hF1⟩
    · skip
      have hN := x_lt (N := 58) c5 rfl rfl (by omega) (by omega)
      refine x_aload_n 2 d_X4_copyAll_8 rfl rfl ?_
      refine x_iload_n 0 d_X4_copyAll_9 rfl rfl ?_
      refine x_aload_n 1 d_X4_copyAll_10 rfl rfl ?_
      refine x_iload_n 0 d_X4_copyAll_11 rfl rfl ?_
      refine x_ialdN (z := μ k1 i) 58 i hk1 hn1 (by omega) (by decide) (congrFun (hF1 k1 hne) i) d_X4_copyAll_12 ?_
      refine x_iastNG 58 i hk2 hn2 (by omega) (by decide) d_X4_copyAll_13 (fun μ6 eμ6 => ?_)
      have hq9 : ∀ j, j < i + 1 → μ6 k2 j = μ k1 j := fun j hj => by rw [eμ6, upd2_at]; unfold upd; split; (rename_i q; rw [q]); exact hq j (by omega)
      have hF7 : ∀ id, id ≠ k2 → μ6 id = μ id := fun id hid => (show μ6 id = μ4 id from (by rw [eμ6, upd2_ne _ _ _ (by omega)])).trans (hF1 id hid)
      refine x_iinc [(2, .int (nI (i + 1))), (0, .ref (E.1 + k1)), (1, .ref (E.1 + k2))] 0 d_X4_copyAll_14 rfl (x_inc _) (Nat.le_of_ble_eq_true rfl) rfl ?_
      refine x_goto 2 d_X4_copyAll_17 (by decide) ?_
      exact ih2 (i + 1) (by omega) (by omega) μ6 hq9 hF7
  exact L1 0 (by omega) μ (fun _ hj => absurd hj (Nat.not_lt_zero _)) hF1
def m_X4_told : x_M := (yX4_told, prog_6_method_11_code, 3, (some FieldType.int), 0, 0)
theorem v_X4_told : x_VM m_X4_told 2 := ⟨q758, q6, by decide +kernel, by decide +kernel, by decide +kernel⟩
theorem w_X4_told : x_VI m_X4_told := ⟨q757, qs25⟩
theorem d_X4_told_0 : x_dec m_X4_told 0 (.aload_n 0) 1 1 := ⟨by decide +kernel, rfl⟩
theorem d_X4_told_1 : x_dec m_X4_told 1 (.getfield 9) 3 4 := ⟨by decide +kernel, rfl⟩
theorem d_X4_told_4 : x_dec m_X4_told 4 (.bipush 24) 2 6 := ⟨by decide +kernel, rfl⟩
theorem d_X4_told_6 : x_dec m_X4_told 6 (.iconst 3) 1 7 := ⟨by decide +kernel, rfl⟩
theorem d_X4_told_7 : x_dec m_X4_told 7 (.iload_n 1) 1 8 := ⟨by decide +kernel, rfl⟩
theorem d_X4_told_8 : x_dec m_X4_told 8 (.imul) 1 9 := ⟨by decide +kernel, rfl⟩
theorem d_X4_told_9 : x_dec m_X4_told 9 (.iadd) 1 10 := ⟨by decide +kernel, rfl⟩
theorem d_X4_told_10 : x_dec m_X4_told 10 (.iload_n 2) 1 11 := ⟨by decide +kernel, rfl⟩
theorem d_X4_told_11 : x_dec m_X4_told 11 (.iadd) 1 12 := ⟨by decide +kernel, rfl⟩
theorem d_X4_told_12 : x_dec m_X4_told 12 (.iaload) 1 13 := ⟨by decide +kernel, rfl⟩
theorem d_X4_told_13 : x_dec m_X4_told 13 (.ireturn) 1 14 := ⟨by decide +kernel, rfl⟩
set_option maxHeartbeats 4000000 in
set_option maxRecDepth 100000 in
theorem c_X4_told (l : Launch) (E : x_E) (μ : x_Mem) {a : x_St} (hR : MR a μ) {p w j : Nat} (hj : 24 + 3 * p + w = j) (h58 : j < 58) : x_Met l m_X4_told E [.ref (E.1 + 41), .int (nI p), .int (nI w)] μ (x_I (fun z m => z = a j ∧ m = μ)) := by
  refine x_enter (lv := [(0, .ref (E.1 + 41)), (1, .int (nI p)), (2, .int (nI w))]) (by decide +kernel) (Nat.le_of_ble_eq_true rfl) rfl ?_
  refine x_aload_n 0 d_X4_told_0 rfl rfl ?_
  refine x_getr (j := 0) 42 x_c4 rfl (Nat.le_of_ble_eq_true rfl) q668 rfl d_X4_told_1 ?_
  refine x_bipush (x := 24) d_X4_told_4 (by decide) ?_
  refine x_iconst (x := 3) d_X4_told_6 (by decide) ?_
  refine x_iload_n 1 d_X4_told_7 rfl rfl ?_
  refine x_imul d_X4_told_8 ?_
  rw [show (3 : Int32) * (nI p) = nI (3 * p) from nI_mulN 3 p]
  refine x_iadd d_X4_told_9 ?_
  rw [show (24 : Int32) + (nI (3 * p)) = nI (24 + (3 * p)) from nI_add 24 (3 * p)]
  refine x_iload_n 2 d_X4_told_10 rfl rfl ?_
  refine x_iadd d_X4_told_11 ?_
  rw [show (nI (24 + (3 * p))) + (nI w) = nI ((24 + (3 * p)) + w) from nI_add (24 + (3 * p)) w]
  rw [hj]
  refine x_ialdN (z := a j) 58 j rfl rfl (by omega) (by decide) (hR j (by omega)) d_X4_told_12 ?_
  refine x_iret rfl d_X4_told_13 ?_
  exact ⟨rfl, rfl⟩
def m_X4_put : x_M := (yX4_put, prog_6_method_12_code, 4, none, 0, 0)
theorem v_X4_put : x_VM m_X4_put 3 := ⟨q786, q6, by decide +kernel, by decide +kernel, by decide +kernel⟩
theorem w_X4_put : x_VI m_X4_put := ⟨q785, qs29⟩
theorem d_X4_put_0 : x_dec m_X4_put 0 (.aload_n 0) 1 1 := ⟨by decide +kernel, rfl⟩
theorem d_X4_put_1 : x_dec m_X4_put 1 (.getfield 9) 3 4 := ⟨by decide +kernel, rfl⟩
theorem d_X4_put_4 : x_dec m_X4_put 4 (.bipush 24) 2 6 := ⟨by decide +kernel, rfl⟩
theorem d_X4_put_6 : x_dec m_X4_put 6 (.iconst 3) 1 7 := ⟨by decide +kernel, rfl⟩
theorem d_X4_put_7 : x_dec m_X4_put 7 (.iload_n 1) 1 8 := ⟨by decide +kernel, rfl⟩
theorem d_X4_put_8 : x_dec m_X4_put 8 (.imul) 1 9 := ⟨by decide +kernel, rfl⟩
theorem d_X4_put_9 : x_dec m_X4_put 9 (.iadd) 1 10 := ⟨by decide +kernel, rfl⟩
theorem d_X4_put_10 : x_dec m_X4_put 10 (.iload_n 2) 1 11 := ⟨by decide +kernel, rfl⟩
theorem d_X4_put_11 : x_dec m_X4_put 11 (.iadd) 1 12 := ⟨by decide +kernel, rfl⟩
theorem d_X4_put_12 : x_dec m_X4_put 12 (.iload_n 3) 1 13 := ⟨by decide +kernel, rfl⟩
theorem d_X4_put_13 : x_dec m_X4_put 13 (.iastore) 1 14 := ⟨by decide +kernel, rfl⟩
theorem d_X4_put_14 : x_dec m_X4_put 14 (.return_) 1 15 := ⟨by decide +kernel, rfl⟩
set_option maxHeartbeats 4000000 in
set_option maxRecDepth 100000 in
theorem c_X4_put (l : Launch) (E : x_E) (μ : x_Mem) {p w j : Nat} (hj : 24 + 3 * p + w = j) (h58 : j < 58) (v : Int32) : x_Met l m_X4_put E [.ref (E.1 + 41), .int (nI p), .int (nI w), .int v] μ (x_J (fun m => m = upd2 μ 42 j v)) := by
  refine x_enter (lv := [(0, .ref (E.1 + 41)), (1, .int (nI p)), (2, .int (nI w)), (3, .int v)]) (by decide +kernel) (Nat.le_of_ble_eq_true rfl) rfl ?_
  refine x_aload_n 0 d_X4_put_0 rfl rfl ?_
  refine x_getr (j := 0) 42 x_c4 rfl (Nat.le_of_ble_eq_true rfl) q668 rfl d_X4_put_1 ?_
  refine x_bipush (x := 24) d_X4_put_4 (by decide) ?_
  refine x_iconst (x := 3) d_X4_put_6 (by decide) ?_
  refine x_iload_n 1 d_X4_put_7 rfl rfl ?_
  refine x_imul d_X4_put_8 ?_
  rw [show (3 : Int32) * (nI p) = nI (3 * p) from nI_mulN 3 p]
  refine x_iadd d_X4_put_9 ?_
  rw [show (24 : Int32) + (nI (3 * p)) = nI (24 + (3 * p)) from nI_add 24 (3 * p)]
  refine x_iload_n 2 d_X4_put_10 rfl rfl ?_
  refine x_iadd d_X4_put_11 ?_
  rw [show (nI (24 + (3 * p))) + (nI w) = nI ((24 + (3 * p)) + w) from nI_add (24 + (3 * p)) w]
  rw [hj]
  refine x_iload_n 3 d_X4_put_12 rfl rfl ?_
  refine x_iastNG 58 j rfl rfl (by omega) (by decide) d_X4_put_13 (fun μ1 eμ1 => ?_)
  refine x_vret rfl d_X4_put_14 ?_
  exact eμ1
def m_X4_becomes : x_M := (yX4_becomes, prog_6_method_7_code, 4, (some FieldType.int), 0, 0)
theorem v_X4_becomes : x_VM m_X4_becomes 2 := ⟨q733, q6, by decide +kernel, by decide +kernel, by decide +kernel⟩
theorem w_X4_becomes : x_VI m_X4_becomes := ⟨q732, qs20⟩
theorem d_X4_becomes_0 : x_dec m_X4_becomes 0 (.aload_n 0) 1 1 := ⟨by decide +kernel, rfl⟩
theorem d_X4_becomes_1 : x_dec m_X4_becomes 1 (.getfield 9) 3 4 := ⟨by decide +kernel, rfl⟩
theorem d_X4_becomes_4 : x_dec m_X4_becomes 4 (.iload_n 1) 1 5 := ⟨by decide +kernel, rfl⟩
theorem d_X4_becomes_5 : x_dec m_X4_becomes 5 (.iaload) 1 6 := ⟨by decide +kernel, rfl⟩
theorem d_X4_becomes_6 : x_dec m_X4_becomes 6 (.istore_n 3) 1 7 := ⟨by decide +kernel, rfl⟩
theorem d_X4_becomes_7 : x_dec m_X4_becomes 7 (.aload_n 0) 1 8 := ⟨by decide +kernel, rfl⟩
theorem d_X4_becomes_8 : x_dec m_X4_becomes 8 (.getfield 9) 3 11 := ⟨by decide +kernel, rfl⟩
theorem d_X4_becomes_11 : x_dec m_X4_becomes 11 (.iload_n 1) 1 12 := ⟨by decide +kernel, rfl⟩
theorem d_X4_becomes_12 : x_dec m_X4_becomes 12 (.iload_n 2) 1 13 := ⟨by decide +kernel, rfl⟩
theorem d_X4_becomes_13 : x_dec m_X4_becomes 13 (.iastore) 1 14 := ⟨by decide +kernel, rfl⟩
theorem d_X4_becomes_14 : x_dec m_X4_becomes 14 (.iload_n 3) 1 15 := ⟨by decide +kernel, rfl⟩
theorem d_X4_becomes_15 : x_dec m_X4_becomes 15 (.ireturn) 1 16 := ⟨by decide +kernel, rfl⟩
set_option maxHeartbeats 4000000 in
set_option maxRecDepth 100000 in
theorem c_X4_becomes (l : Launch) (E : x_E) (μ : x_Mem) {a : x_St} (hR : MR a μ) {j : Nat} (h58 : j < 58) (v : Int32) : x_Met l m_X4_becomes E [.ref (E.1 + 41), .int (nI j), .int v] μ (x_I (fun z m => z = a j ∧ m = upd2 μ 42 j v)) := by
  refine x_enter (lv := [(0, .ref (E.1 + 41)), (1, .int (nI j)), (2, .int v)]) (by decide +kernel) (Nat.le_of_ble_eq_true rfl) rfl ?_
  refine x_aload_n 0 d_X4_becomes_0 rfl rfl ?_
  refine x_getr (j := 0) 42 x_c4 rfl (Nat.le_of_ble_eq_true rfl) q668 rfl d_X4_becomes_1 ?_
  refine x_iload_n 1 d_X4_becomes_4 rfl rfl ?_
  refine x_ialdN (z := a j) 58 j rfl rfl (by omega) (by decide) (hR j (by omega)) d_X4_becomes_5 ?_
  refine x_istore_n [(3, .int (a j)), (0, .ref (E.1 + 41)), (1, .int (nI j)), (2, .int v)] d_X4_becomes_6 rfl (Nat.le_of_ble_eq_true rfl) rfl ?_
  refine x_aload_n 1 d_X4_becomes_7 rfl rfl ?_
  refine x_getr (j := 0) 42 x_c4 rfl (Nat.le_of_ble_eq_true rfl) q668 rfl d_X4_becomes_8 ?_
  refine x_iload_n 2 d_X4_becomes_11 rfl rfl ?_
  refine x_iload_n 3 d_X4_becomes_12 rfl rfl ?_
  refine x_iastNG 58 j rfl rfl (by omega) (by decide) d_X4_becomes_13 (fun μ1 eμ1 => ?_)
  refine x_iload_n 0 d_X4_becomes_14 rfl rfl ?_
  refine x_iret rfl d_X4_becomes_15 ?_
  exact ⟨rfl, eμ1⟩
def m_X4_isOne : x_M := (yX4_isOne, prog_6_method_8_code, 2, (some FieldType.boolean), 1, 22)
theorem v_X4_isOne : x_VM m_X4_isOne 1 := ⟨q794, q6, by decide +kernel, by decide +kernel, by decide +kernel⟩
theorem w_X4_isOne : x_VI m_X4_isOne := ⟨q793, qs30⟩
theorem d_X4_isOne_0 : x_dec m_X4_isOne 0 (.iload_n 1) 1 1 := ⟨by decide +kernel, rfl⟩
theorem d_X4_isOne_1 : x_dec m_X4_isOne 1 (.iconst 0) 1 2 := ⟨by decide +kernel, rfl⟩
theorem d_X4_isOne_2 : x_dec m_X4_isOne 2 (.aload_n 0) 1 3 := ⟨by decide +kernel, rfl⟩
theorem d_X4_isOne_3 : x_dec m_X4_isOne 3 (.getfield 9) 3 6 := ⟨by decide +kernel, rfl⟩
theorem d_X4_isOne_6 : x_dec m_X4_isOne 6 (.bipush 7) 2 8 := ⟨by decide +kernel, rfl⟩
theorem d_X4_isOne_8 : x_dec m_X4_isOne 8 (.iaload) 1 9 := ⟨by decide +kernel, rfl⟩
theorem d_X4_isOne_9 : x_dec m_X4_isOne 9 (.iconst 1) 1 10 := ⟨by decide +kernel, rfl⟩
theorem d_X4_isOne_10 : x_dec m_X4_isOne 10 (.isub) 1 11 := ⟨by decide +kernel, rfl⟩
theorem d_X4_isOne_11 : x_dec m_X4_isOne 11 (.invokestatic 46) 3 14 := ⟨by decide +kernel, rfl⟩
theorem d_X4_isOne_14 : x_dec m_X4_isOne 14 (.ireturn) 1 15 := ⟨by decide +kernel, rfl⟩
set_option maxHeartbeats 4000000 in
set_option maxRecDepth 100000 in
theorem c_X4_isOne (l : Launch) (E : x_E) (μ : x_Mem) {a : x_St} (hR : MR a μ) (hI : WF a) (k : Int32) : x_Met l m_X4_isOne E [.ref (E.1 + 41), .int k] μ (x_I (fun z m => z = x_b (isP a k) ∧ m = μ)) := by
  have hn7 := hI.2.1
  have hpn := hI.1
  refine x_enter (lv := [(0, .ref (E.1 + 41)), (1, .int k)]) (by decide +kernel) (Nat.le_of_ble_eq_true rfl) rfl ?_
  refine x_iload_n 1 d_X4_isOne_0 rfl rfl ?_
  refine x_iconst (x := 0) d_X4_isOne_1 (by decide) ?_
  refine x_aload_n 0 d_X4_isOne_2 rfl rfl ?_
  refine x_getr (j := 0) 42 x_c4 rfl (Nat.le_of_ble_eq_true rfl) q668 rfl d_X4_isOne_3 ?_
  refine x_bipush (x := 7) d_X4_isOne_6 (by decide) ?_
  refine x_ialdN (z := nI (pn a)) 58 7 rfl rfl (by omega) (by decide) ((hR 7 (by decide)).trans hn7) d_X4_isOne_8 ?_
  refine x_iconst (x := 1) d_X4_isOne_9 (by decide) ?_
  refine x_isub d_X4_isOne_10 ?_
  refine x_csip (as := [.int k, .int 0, .int ((nI (pn a)) - 1)]) (c_X4_in l E μ k 0 ((nI (pn a)) - 1)) v_X4_in q728 q727 rfl ⟨Nat.le_of_ble_eq_true rfl, Nat.le_of_ble_eq_true rfl⟩ rfl (Nat.le_of_ble_eq_true rfl) d_X4_isOne_11 ?_
  rw [isP_in hI]
  refine x_zret rfl d_X4_isOne_14 ?_
  exact ⟨rfl, rfl⟩
def m_X4_finds : x_M := (yX4_finds, prog_6_method_2_code, 2, (some FieldType.int), 0, 0)
theorem v_X4_finds : x_VM m_X4_finds 1 := ⟨q738, q6, by decide +kernel, by decide +kernel, by decide +kernel⟩
theorem w_X4_finds : x_VI m_X4_finds := ⟨q737, qs21⟩
theorem d_X4_finds_0 : x_dec m_X4_finds 0 (.aload_n 0) 1 1 := ⟨by decide +kernel, rfl⟩
theorem d_X4_finds_1 : x_dec m_X4_finds 1 (.getfield 19) 3 4 := ⟨by decide +kernel, rfl⟩
theorem d_X4_finds_4 : x_dec m_X4_finds 4 (.ldc 40) 2 6 := ⟨by decide +kernel, rfl⟩
theorem d_X4_finds_6 : x_dec m_X4_finds 6 (.iload_n 1) 1 7 := ⟨by decide +kernel, rfl⟩
theorem d_X4_finds_7 : x_dec m_X4_finds 7 (.isub) 1 8 := ⟨by decide +kernel, rfl⟩
theorem d_X4_finds_8 : x_dec m_X4_finds 8 (.dup2) 1 9 := ⟨by decide +kernel, rfl⟩
theorem d_X4_finds_9 : x_dec m_X4_finds 9 (.iaload) 1 10 := ⟨by decide +kernel, rfl⟩
theorem d_X4_finds_10 : x_dec m_X4_finds 10 (.iconst 1) 1 11 := ⟨by decide +kernel, rfl⟩
theorem d_X4_finds_11 : x_dec m_X4_finds 11 (.iadd) 1 12 := ⟨by decide +kernel, rfl⟩
theorem d_X4_finds_12 : x_dec m_X4_finds 12 (.iastore) 1 13 := ⟨by decide +kernel, rfl⟩
theorem d_X4_finds_13 : x_dec m_X4_finds 13 (.iload_n 1) 1 14 := ⟨by decide +kernel, rfl⟩
theorem d_X4_finds_14 : x_dec m_X4_finds 14 (.ireturn) 1 15 := ⟨by decide +kernel, rfl⟩
set_option maxHeartbeats 4000000 in
set_option maxRecDepth 100000 in
theorem c_X4_finds (l : Launch) (E : x_E) (μ : x_Mem) {f : Nat → Int32} {i : Nat} (hD : MD f μ) (hi : i < 7) {w : Int32} (hw : (-1000001 : Int32) - w = nI i) : x_Met l m_X4_finds E [.ref (E.1 + 41), .int w] μ (x_I (fun z m => z = w ∧ MD (upd f i (f i + 1)) m ∧ ∀ id, id ≠ 45 → m id = μ id)) := by
  have hF : ∀ id, id ≠ 45 → μ id = μ id := fun _ _ => rfl
  refine x_enter (lv := [(0, .ref (E.1 + 41)), (1, .int w)]) (by decide +kernel) (Nat.le_of_ble_eq_true rfl) rfl ?_
  refine x_aload_n 0 d_X4_finds_0 rfl rfl ?_
  refine x_getr (j := 4) 45 x_c4 rfl (Nat.le_of_ble_eq_true rfl) q672 rfl d_X4_finds_1 ?_
  refine x_ldc q734 d_X4_finds_4 ?_
  refine x_iload_n 1 d_X4_finds_6 rfl rfl ?_
  refine x_isub d_X4_finds_7 ?_
  rw [hw]
  refine x_dup2 d_X4_finds_8 rfl rfl ?_
  refine x_ialdN (z := f i) 7 i rfl rfl (by omega) (by decide) (hD i (by omega)) d_X4_finds_9 ?_
  refine x_iconst (x := 1) d_X4_finds_10 (by decide) ?_
  refine x_iadd d_X4_finds_11 ?_
  refine x_iastNG 7 i rfl rfl (by omega) (by decide) d_X4_finds_12 (fun μ1 eμ1 => ?_)
  have hD2 : MD (upd f i ((f i) + 1)) μ1 := MD.w hD eμ1
  have hF3 : ∀ id, id ≠ 45 → μ1 id = μ id := fun id hid => (show μ1 id = μ id from (by rw [eμ1, upd2_ne _ _ _ (by omega)])).trans (hF id hid)
  refine x_iload_n 1 d_X4_finds_13 rfl rfl ?_
  refine x_iret rfl d_X4_finds_14 ?_
  exact ⟨rfl, hD2, hF3⟩
def m_X4_bits : x_M := (yX4_bits, prog_6_method_13_code, 3, (some FieldType.int), 0, 0)
theorem v_X4_bits : x_VM m_X4_bits 1 := ⟨q924, q6, by decide +kernel, by decide +kernel, by decide +kernel⟩
theorem d_X4_bits_0 : x_dec m_X4_bits 0 (.iconst 0) 1 1 := ⟨by decide +kernel, rfl⟩
theorem d_X4_bits_1 : x_dec m_X4_bits 1 (.istore_n 1) 1 2 := ⟨by decide +kernel, rfl⟩
theorem d_X4_bits_2 : x_dec m_X4_bits 2 (.iload_n 0) 1 3 := ⟨by decide +kernel, rfl⟩
theorem d_X4_bits_3 : x_dec m_X4_bits 3 (.istore_n 2) 1 4 := ⟨by decide +kernel, rfl⟩
theorem d_X4_bits_4 : x_dec m_X4_bits 4 (.iload_n 2) 1 5 := ⟨by decide +kernel, rfl⟩
theorem d_X4_bits_5 : x_dec m_X4_bits 5 (.ifCond .eq 15) 3 8 := ⟨by decide +kernel, rfl⟩
theorem d_X4_bits_8 : x_dec m_X4_bits 8 (.iinc 1 1) 3 11 := ⟨by decide +kernel, rfl⟩
theorem d_X4_bits_11 : x_dec m_X4_bits 11 (.iload_n 2) 1 12 := ⟨by decide +kernel, rfl⟩
theorem d_X4_bits_12 : x_dec m_X4_bits 12 (.iload_n 2) 1 13 := ⟨by decide +kernel, rfl⟩
theorem d_X4_bits_13 : x_dec m_X4_bits 13 (.iconst 1) 1 14 := ⟨by decide +kernel, rfl⟩
theorem d_X4_bits_14 : x_dec m_X4_bits 14 (.isub) 1 15 := ⟨by decide +kernel, rfl⟩
theorem d_X4_bits_15 : x_dec m_X4_bits 15 (.iand) 1 16 := ⟨by decide +kernel, rfl⟩
theorem d_X4_bits_16 : x_dec m_X4_bits 16 (.istore_n 2) 1 17 := ⟨by decide +kernel, rfl⟩
theorem d_X4_bits_17 : x_dec m_X4_bits 17 (.goto (-13)) 3 20 := ⟨by decide +kernel, rfl⟩
theorem d_X4_bits_20 : x_dec m_X4_bits 20 (.iload_n 1) 1 21 := ⟨by decide +kernel, rfl⟩
theorem d_X4_bits_21 : x_dec m_X4_bits 21 (.ireturn) 1 22 := ⟨by decide +kernel, rfl⟩
set_option maxHeartbeats 4000000 in
set_option maxRecDepth 100000 in
theorem c_X4_bits (l : Launch) (E : x_E) (μ : x_Mem) {s : Nat} (hs : s < 65536) : x_Met l m_X4_bits E [.int (nI s)] μ (x_I (fun z m => z = nI (popN 16 s) ∧ m = μ)) := by
  refine x_enter (lv := [(0, .int (nI s))]) (by decide +kernel) (Nat.le_of_ble_eq_true rfl) rfl ?_
  refine x_iconst (x := 0) d_X4_bits_0 (by decide) ?_
  refine x_istore_n [(1, .int 0), (0, .int (nI s))] d_X4_bits_1 rfl (Nat.le_of_ble_eq_true rfl) rfl ?_
  refine x_iload_n 1 d_X4_bits_2 rfl rfl ?_
  refine x_istore_n [(2, .int (nI s)), (1, .int 0), (0, .int (nI s))] d_X4_bits_3 rfl (Nat.le_of_ble_eq_true rfl) rfl ?_
  have L1 : ∀ k : Nat, k ≤ popN 16 s → ∀ r : Nat, (r < 65536) → (popN 16 r + k = popN 16 s) → x_G l E m_X4_bits (x_mv E m_X4_bits (x_I (fun z m => z = nI (popN 16 s) ∧ m = μ))) μ 4 [(2, .int (nI r)), (1, .int (nI k)), (0, .int (nI s))] [] := by
    refine x_down _ (popN 16 s) (fun k hi3 ih2 => ?_)
    intro r hr hP
    refine x_iload_n 0 d_X4_bits_4 rfl rfl ?_
    refine x_if_eq 20 d_X4_bits_5 (by decide) (fun c4 => ?_) (fun c4 => ?_)
    · skip
      refine x_iload_n 1 d_X4_bits_20 rfl rfl ?_
      refine x_iret rfl d_X4_bits_21 ?_
      have e0 : r = 0 := (nI_eq (b := 0) (by omega) (by decide)).mp c4
      subst e0
      exact ⟨congrArg nI (by rw [show popN 16 0 = 0 by decide] at hP; omega), rfl⟩
    · skip
      have hr0 : r ≠ 0 := fun z => c4 (by rw [z]; rfl)
      refine x_iinc [(1, .int (nI (k + 1))), (2, .int (nI r)), (0, .int (nI s))] 1 d_X4_bits_8 rfl (x_inc _) (Nat.le_of_ble_eq_true rfl) rfl ?_
      refine x_iload_n 1 d_X4_bits_11 rfl rfl ?_
      refine x_iload_n 1 d_X4_bits_12 rfl rfl ?_
      refine x_iconst (x := 1) d_X4_bits_13 (by decide) ?_
      refine x_isub d_X4_bits_14 ?_
      refine x_iand d_X4_bits_15 ?_
      rw [show nI r &&& (nI r - 1) = nI (r &&& (r - 1)) from by rw [show (1 : Int32) = nI 1 from rfl, pk_sub (by omega), nI_and]]
      have hro := popN_off 16 r (by omega) hr
      have hrl : r &&& (r - 1) ≤ r := Nat.and_le_left
      refine x_istore_n [(2, .int (nI (r &&& (r - 1)))), (1, .int (nI (k + 1))), (0, .int (nI s))] d_X4_bits_16 rfl (Nat.le_of_ble_eq_true rfl) rfl ?_
      refine x_goto 4 d_X4_bits_17 (by decide) ?_
      exact ih2 (k + 1) (by omega) (by omega) (r &&& (r - 1)) (by omega) (by omega)
  exact L1 0 (by omega) s hs (Nat.add_zero _)
def m_X4_othersWith : x_M := (yX4_othersWith, prog_6_method_14_code, 4, (some FieldType.int), 1, 22)
theorem v_X4_othersWith : x_VM m_X4_othersWith 1 := ⟨q765, q6, by decide +kernel, by decide +kernel, by decide +kernel⟩
theorem w_X4_othersWith : x_VI m_X4_othersWith := ⟨q764, qs26⟩
theorem d_X4_othersWith_0 : x_dec m_X4_othersWith 0 (.iconst (-1)) 1 1 := ⟨by decide +kernel, rfl⟩
theorem d_X4_othersWith_1 : x_dec m_X4_othersWith 1 (.istore_n 2) 1 2 := ⟨by decide +kernel, rfl⟩
theorem d_X4_othersWith_2 : x_dec m_X4_othersWith 2 (.iconst 0) 1 3 := ⟨by decide +kernel, rfl⟩
theorem d_X4_othersWith_3 : x_dec m_X4_othersWith 3 (.istore_n 3) 1 4 := ⟨by decide +kernel, rfl⟩
theorem d_X4_othersWith_4 : x_dec m_X4_othersWith 4 (.iload_n 3) 1 5 := ⟨by decide +kernel, rfl⟩
theorem d_X4_othersWith_5 : x_dec m_X4_othersWith 5 (.aload_n 0) 1 6 := ⟨by decide +kernel, rfl⟩
theorem d_X4_othersWith_6 : x_dec m_X4_othersWith 6 (.getfield 9) 3 9 := ⟨by decide +kernel, rfl⟩
theorem d_X4_othersWith_9 : x_dec m_X4_othersWith 9 (.bipush 7) 2 11 := ⟨by decide +kernel, rfl⟩
theorem d_X4_othersWith_11 : x_dec m_X4_othersWith 11 (.iaload) 1 12 := ⟨by decide +kernel, rfl⟩
theorem d_X4_othersWith_12 : x_dec m_X4_othersWith 12 (.if_icmp .ge 32) 3 15 := ⟨by decide +kernel, rfl⟩
theorem d_X4_othersWith_15 : x_dec m_X4_othersWith 15 (.iload_n 2) 1 16 := ⟨by decide +kernel, rfl⟩
theorem d_X4_othersWith_16 : x_dec m_X4_othersWith 16 (.aload_n 0) 1 17 := ⟨by decide +kernel, rfl⟩
theorem d_X4_othersWith_17 : x_dec m_X4_othersWith 17 (.iload_n 3) 1 18 := ⟨by decide +kernel, rfl⟩
theorem d_X4_othersWith_18 : x_dec m_X4_othersWith 18 (.iconst 1) 1 19 := ⟨by decide +kernel, rfl⟩
theorem d_X4_othersWith_19 : x_dec m_X4_othersWith 19 (.invokevirtual 50) 3 22 := ⟨by decide +kernel, rfl⟩
theorem d_X4_othersWith_22 : x_dec m_X4_othersWith 22 (.aload_n 0) 1 23 := ⟨by decide +kernel, rfl⟩
theorem d_X4_othersWith_23 : x_dec m_X4_othersWith 23 (.iload_n 1) 1 24 := ⟨by decide +kernel, rfl⟩
theorem d_X4_othersWith_24 : x_dec m_X4_othersWith 24 (.iconst 1) 1 25 := ⟨by decide +kernel, rfl⟩
theorem d_X4_othersWith_25 : x_dec m_X4_othersWith 25 (.invokevirtual 50) 3 28 := ⟨by decide +kernel, rfl⟩
theorem d_X4_othersWith_28 : x_dec m_X4_othersWith 28 (.if_icmp .ne 7) 3 31 := ⟨by decide +kernel, rfl⟩
theorem d_X4_othersWith_31 : x_dec m_X4_othersWith 31 (.iconst 1) 1 32 := ⟨by decide +kernel, rfl⟩
theorem d_X4_othersWith_32 : x_dec m_X4_othersWith 32 (.goto 4) 3 35 := ⟨by decide +kernel, rfl⟩
theorem d_X4_othersWith_35 : x_dec m_X4_othersWith 35 (.iconst 0) 1 36 := ⟨by decide +kernel, rfl⟩
theorem d_X4_othersWith_36 : x_dec m_X4_othersWith 36 (.iadd) 1 37 := ⟨by decide +kernel, rfl⟩
theorem d_X4_othersWith_37 : x_dec m_X4_othersWith 37 (.istore_n 2) 1 38 := ⟨by decide +kernel, rfl⟩
theorem d_X4_othersWith_38 : x_dec m_X4_othersWith 38 (.iinc 3 1) 3 41 := ⟨by decide +kernel, rfl⟩
theorem d_X4_othersWith_41 : x_dec m_X4_othersWith 41 (.goto (-37)) 3 44 := ⟨by decide +kernel, rfl⟩
theorem d_X4_othersWith_44 : x_dec m_X4_othersWith 44 (.iload_n 2) 1 45 := ⟨by decide +kernel, rfl⟩
theorem d_X4_othersWith_45 : x_dec m_X4_othersWith 45 (.ireturn) 1 46 := ⟨by decide +kernel, rfl⟩
set_option maxHeartbeats 4000000 in
set_option maxRecDepth 100000 in
theorem c_X4_othersWith (l : Launch) (E : x_E) (μ : x_Mem) {a : x_St} (hR : MR a μ) (hI : WF a) {p : Nat} (hp : p < pn a) : x_Met l m_X4_othersWith E [.ref (E.1 + 41), .int (nI p)] μ (x_I (fun z m => z = compF a p ∧ m = μ)) := by
  have hn7 := hI.2.1
  have hpn := hI.1
  refine x_enter (lv := [(0, .ref (E.1 + 41)), (1, .int (nI p))]) (by decide +kernel) (Nat.le_of_ble_eq_true rfl) rfl ?_
  refine x_iconst (x := (-1)) d_X4_othersWith_0 (by decide) ?_
  refine x_istore_n [(2, .int (-1)), (0, .ref (E.1 + 41)), (1, .int (nI p))] d_X4_othersWith_1 rfl (Nat.le_of_ble_eq_true rfl) rfl ?_
  refine x_iconst (x := 0) d_X4_othersWith_2 (by decide) ?_
  refine x_istore_n [(3, .int 0), (2, .int (-1)), (0, .ref (E.1 + 41)), (1, .int (nI p))] d_X4_othersWith_3 rfl (Nat.le_of_ble_eq_true rfl) rfl ?_
  have L1 : ∀ i : Nat, i ≤ pn a → ∀ r : Int32, (r = cntTo (-1) (fun o => decide (a (24 + 3 * o + 1) = a (24 + 3 * p + 1))) i) → x_G l E m_X4_othersWith (x_mv E m_X4_othersWith (x_I (fun z m => z = compF a p ∧ m = μ))) μ 4 [(3, .int (nI i)), (2, .int r), (0, .ref (E.1 + 41)), (1, .int (nI p))] [] := by
    refine x_down _ (pn a) (fun i hi3 ih2 => ?_)
    intro r hr
    refine x_iload_n 0 d_X4_othersWith_4 rfl rfl ?_
    refine x_aload_n 2 d_X4_othersWith_5 rfl rfl ?_
    refine x_getr (j := 0) 42 x_c4 rfl (Nat.le_of_ble_eq_true rfl) q668 rfl d_X4_othersWith_6 ?_
    refine x_bipush (x := 7) d_X4_othersWith_9 (by decide) ?_
    refine x_ialdN (z := nI (pn a)) 58 7 rfl rfl (by omega) (by decide) ((hR 7 (by decide)).trans hn7) d_X4_othersWith_11 ?_
    refine x_icmp_ge 44 d_X4_othersWith_12 (by decide) (fun c4 => ?_) (fun c4 => ?_)
    · skip
      have hN := x_ge (N := pn a) c4 rfl rfl (by omega) (by omega)
      refine x_iload_n 1 d_X4_othersWith_44 rfl rfl ?_
      refine x_iret rfl d_X4_othersWith_45 ?_
      have e7 : i = pn a := by omega
      subst e7
      exact ⟨hr, rfl⟩
    · skip
      have hN := x_lt (N := pn a) c4 rfl rfl (by omega) (by omega)
      refine x_iload_n 1 d_X4_othersWith_15 rfl rfl ?_
      refine x_aload_n 2 d_X4_othersWith_16 rfl rfl ?_
      refine x_iload_n 0 d_X4_othersWith_17 rfl rfl ?_
      refine x_iconst (x := 1) d_X4_othersWith_18 (by decide) ?_
      refine x_cvip (k := 41) (as := [.int (nI i), .int 1]) (c_X4_told l E μ hR (p := i) (w := 1) (j := 24 + 3 * i + 1) rfl (by omega)) v_X4_told w_X4_told q755 o_M rfl ⟨Nat.le_of_ble_eq_true rfl, Nat.le_of_ble_eq_true rfl⟩ rfl (Nat.le_of_ble_eq_true rfl) d_X4_othersWith_19 ?_
      refine x_aload_n 2 d_X4_othersWith_22 rfl rfl ?_
      refine x_iload_n 3 d_X4_othersWith_23 rfl rfl ?_
      refine x_iconst (x := 1) d_X4_othersWith_24 (by decide) ?_
      refine x_cvip (k := 41) (as := [.int (nI p), .int 1]) (c_X4_told l E μ hR (p := p) (w := 1) (j := 24 + 3 * p + 1) rfl (by omega)) v_X4_told w_X4_told q755 o_M rfl ⟨Nat.le_of_ble_eq_true rfl, Nat.le_of_ble_eq_true rfl⟩ rfl (Nat.le_of_ble_eq_true rfl) d_X4_othersWith_25 ?_
      refine x_icmp_ne 35 d_X4_othersWith_28 (by decide) (fun c5 => ?_) (fun c5 => ?_)
      · skip
        refine x_iconst (x := 0) d_X4_othersWith_35 (by decide) ?_
        refine x_iadd d_X4_othersWith_36 ?_
        refine x_istore_n [(2, .int (r + 0)), (3, .int (nI i)), (0, .ref (E.1 + 41)), (1, .int (nI p))] d_X4_othersWith_37 rfl (Nat.le_of_ble_eq_true rfl) rfl ?_
        refine x_iinc [(3, .int (nI (i + 1))), (2, .int (r + 0)), (0, .ref (E.1 + 41)), (1, .int (nI p))] 1 d_X4_othersWith_38 rfl (x_inc _) (Nat.le_of_ble_eq_true rfl) rfl ?_
        refine x_goto 4 d_X4_othersWith_41 (by decide) ?_
        exact ih2 (i + 1) (by omega) (by omega) (r + 0) (by rw [hr, cntTo, if_neg (by rw [decide_eq_false c5]; decide), Int32.add_zero])
      · skip
        refine x_iconst (x := 1) d_X4_othersWith_31 (by decide) ?_
        refine x_goto 36 d_X4_othersWith_32 (by decide) ?_
        refine x_iadd d_X4_othersWith_36 ?_
        refine x_istore_n [(2, .int (r + 1)), (3, .int (nI i)), (0, .ref (E.1 + 41)), (1, .int (nI p))] d_X4_othersWith_37 rfl (Nat.le_of_ble_eq_true rfl) rfl ?_
        refine x_iinc [(3, .int (nI (i + 1))), (2, .int (r + 1)), (0, .ref (E.1 + 41)), (1, .int (nI p))] 1 d_X4_othersWith_38 rfl (x_inc _) (Nat.le_of_ble_eq_true rfl) rfl ?_
        refine x_goto 4 d_X4_othersWith_41 (by decide) ?_
        exact ih2 (i + 1) (by omega) (by omega) (r + 1) (by rw [hr, cntTo, if_pos (decide_eq_true c5)])
  exact L1 0 (by omega) (-1) (by rfl)
def m_X4_faithOf : x_M := (yX4_faithOf, prog_6_method_15_code, 5, (some FieldType.int), 2, 45)
theorem v_X4_faithOf : x_VM m_X4_faithOf 1 := ⟨q754, q6, by decide +kernel, by decide +kernel, by decide +kernel⟩
theorem w_X4_faithOf : x_VI m_X4_faithOf := ⟨q753, qs24⟩
theorem d_X4_faithOf_0 : x_dec m_X4_faithOf 0 (.aload_n 0) 1 1 := ⟨by decide +kernel, rfl⟩
theorem d_X4_faithOf_1 : x_dec m_X4_faithOf 1 (.iload_n 1) 1 2 := ⟨by decide +kernel, rfl⟩
theorem d_X4_faithOf_2 : x_dec m_X4_faithOf 2 (.iconst 2) 1 3 := ⟨by decide +kernel, rfl⟩
theorem d_X4_faithOf_3 : x_dec m_X4_faithOf 3 (.invokevirtual 50) 3 6 := ⟨by decide +kernel, rfl⟩
theorem d_X4_faithOf_6 : x_dec m_X4_faithOf 6 (.istore_n 2) 1 7 := ⟨by decide +kernel, rfl⟩
theorem d_X4_faithOf_7 : x_dec m_X4_faithOf 7 (.iload_n 2) 1 8 := ⟨by decide +kernel, rfl⟩
theorem d_X4_faithOf_8 : x_dec m_X4_faithOf 8 (.aload_n 0) 1 9 := ⟨by decide +kernel, rfl⟩
theorem d_X4_faithOf_9 : x_dec m_X4_faithOf 9 (.getfield 9) 3 12 := ⟨by decide +kernel, rfl⟩
theorem d_X4_faithOf_12 : x_dec m_X4_faithOf 12 (.iconst 2) 1 13 := ⟨by decide +kernel, rfl⟩
theorem d_X4_faithOf_13 : x_dec m_X4_faithOf 13 (.iaload) 1 14 := ⟨by decide +kernel, rfl⟩
theorem d_X4_faithOf_14 : x_dec m_X4_faithOf 14 (.iconst 1) 1 15 := ⟨by decide +kernel, rfl⟩
theorem d_X4_faithOf_15 : x_dec m_X4_faithOf 15 (.if_icmp .ne 7) 3 18 := ⟨by decide +kernel, rfl⟩
theorem d_X4_faithOf_18 : x_dec m_X4_faithOf 18 (.iconst 0) 1 19 := ⟨by decide +kernel, rfl⟩
theorem d_X4_faithOf_19 : x_dec m_X4_faithOf 19 (.goto 5) 3 22 := ⟨by decide +kernel, rfl⟩
theorem d_X4_faithOf_22 : x_dec m_X4_faithOf 22 (.bipush 20) 2 24 := ⟨by decide +kernel, rfl⟩
theorem d_X4_faithOf_24 : x_dec m_X4_faithOf 24 (.iadd) 1 25 := ⟨by decide +kernel, rfl⟩
theorem d_X4_faithOf_25 : x_dec m_X4_faithOf 25 (.istore_n 3) 1 26 := ⟨by decide +kernel, rfl⟩
theorem d_X4_faithOf_26 : x_dec m_X4_faithOf 26 (.iload_n 3) 1 27 := ⟨by decide +kernel, rfl⟩
theorem d_X4_faithOf_27 : x_dec m_X4_faithOf 27 (.aload_n 0) 1 28 := ⟨by decide +kernel, rfl⟩
theorem d_X4_faithOf_28 : x_dec m_X4_faithOf 28 (.getfield 9) 3 31 := ⟨by decide +kernel, rfl⟩
theorem d_X4_faithOf_31 : x_dec m_X4_faithOf 31 (.iconst 5) 1 32 := ⟨by decide +kernel, rfl⟩
theorem d_X4_faithOf_32 : x_dec m_X4_faithOf 32 (.iaload) 1 33 := ⟨by decide +kernel, rfl⟩
theorem d_X4_faithOf_33 : x_dec m_X4_faithOf 33 (.iconst 0) 1 34 := ⟨by decide +kernel, rfl⟩
theorem d_X4_faithOf_34 : x_dec m_X4_faithOf 34 (.bipush 30) 2 36 := ⟨by decide +kernel, rfl⟩
theorem d_X4_faithOf_36 : x_dec m_X4_faithOf 36 (.invokestatic 54) 3 39 := ⟨by decide +kernel, rfl⟩
theorem d_X4_faithOf_39 : x_dec m_X4_faithOf 39 (.isub) 1 40 := ⟨by decide +kernel, rfl⟩
theorem d_X4_faithOf_40 : x_dec m_X4_faithOf 40 (.istore 4) 2 42 := ⟨by decide +kernel, rfl⟩
theorem d_X4_faithOf_42 : x_dec m_X4_faithOf 42 (.aload_n 0) 1 43 := ⟨by decide +kernel, rfl⟩
theorem d_X4_faithOf_43 : x_dec m_X4_faithOf 43 (.iload_n 1) 1 44 := ⟨by decide +kernel, rfl⟩
theorem d_X4_faithOf_44 : x_dec m_X4_faithOf 44 (.iconst 0) 1 45 := ⟨by decide +kernel, rfl⟩
theorem d_X4_faithOf_45 : x_dec m_X4_faithOf 45 (.invokevirtual 50) 3 48 := ⟨by decide +kernel, rfl⟩
theorem d_X4_faithOf_48 : x_dec m_X4_faithOf 48 (.tableswitch 85 1 6 #[40, 44, 46, 49, 60, 78]) 40 88 := ⟨by decide +kernel, rfl⟩
theorem d_X4_faithOf_88 : x_dec m_X4_faithOf 88 (.iload_n 2) 1 89 := ⟨by decide +kernel, rfl⟩
theorem d_X4_faithOf_89 : x_dec m_X4_faithOf 89 (.iconst 2) 1 90 := ⟨by decide +kernel, rfl⟩
theorem d_X4_faithOf_90 : x_dec m_X4_faithOf 90 (.idiv) 1 91 := ⟨by decide +kernel, rfl⟩
theorem d_X4_faithOf_91 : x_dec m_X4_faithOf 91 (.ireturn) 1 92 := ⟨by decide +kernel, rfl⟩
theorem d_X4_faithOf_92 : x_dec m_X4_faithOf 92 (.iload_n 3) 1 93 := ⟨by decide +kernel, rfl⟩
theorem d_X4_faithOf_93 : x_dec m_X4_faithOf 93 (.ireturn) 1 94 := ⟨by decide +kernel, rfl⟩
theorem d_X4_faithOf_94 : x_dec m_X4_faithOf 94 (.iload 4) 2 96 := ⟨by decide +kernel, rfl⟩
theorem d_X4_faithOf_96 : x_dec m_X4_faithOf 96 (.ireturn) 1 97 := ⟨by decide +kernel, rfl⟩
theorem d_X4_faithOf_97 : x_dec m_X4_faithOf 97 (.iload 4) 2 99 := ⟨by decide +kernel, rfl⟩
theorem d_X4_faithOf_99 : x_dec m_X4_faithOf 99 (.iconst 5) 1 100 := ⟨by decide +kernel, rfl⟩
theorem d_X4_faithOf_100 : x_dec m_X4_faithOf 100 (.aload_n 0) 1 101 := ⟨by decide +kernel, rfl⟩
theorem d_X4_faithOf_101 : x_dec m_X4_faithOf 101 (.iload_n 1) 1 102 := ⟨by decide +kernel, rfl⟩
theorem d_X4_faithOf_102 : x_dec m_X4_faithOf 102 (.invokevirtual 58) 3 105 := ⟨by decide +kernel, rfl⟩
theorem d_X4_faithOf_105 : x_dec m_X4_faithOf 105 (.imul) 1 106 := ⟨by decide +kernel, rfl⟩
theorem d_X4_faithOf_106 : x_dec m_X4_faithOf 106 (.iadd) 1 107 := ⟨by decide +kernel, rfl⟩
theorem d_X4_faithOf_107 : x_dec m_X4_faithOf 107 (.ireturn) 1 108 := ⟨by decide +kernel, rfl⟩
theorem d_X4_faithOf_108 : x_dec m_X4_faithOf 108 (.aload_n 0) 1 109 := ⟨by decide +kernel, rfl⟩
theorem d_X4_faithOf_109 : x_dec m_X4_faithOf 109 (.getfield 9) 3 112 := ⟨by decide +kernel, rfl⟩
theorem d_X4_faithOf_112 : x_dec m_X4_faithOf 112 (.iconst 2) 1 113 := ⟨by decide +kernel, rfl⟩
theorem d_X4_faithOf_113 : x_dec m_X4_faithOf 113 (.iaload) 1 114 := ⟨by decide +kernel, rfl⟩
theorem d_X4_faithOf_114 : x_dec m_X4_faithOf 114 (.iconst 1) 1 115 := ⟨by decide +kernel, rfl⟩
theorem d_X4_faithOf_115 : x_dec m_X4_faithOf 115 (.if_icmp .ne 9) 3 118 := ⟨by decide +kernel, rfl⟩
theorem d_X4_faithOf_118 : x_dec m_X4_faithOf 118 (.iconst 2) 1 119 := ⟨by decide +kernel, rfl⟩
theorem d_X4_faithOf_119 : x_dec m_X4_faithOf 119 (.iload_n 2) 1 120 := ⟨by decide +kernel, rfl⟩
theorem d_X4_faithOf_120 : x_dec m_X4_faithOf 120 (.imul) 1 121 := ⟨by decide +kernel, rfl⟩
theorem d_X4_faithOf_121 : x_dec m_X4_faithOf 121 (.goto 4) 3 124 := ⟨by decide +kernel, rfl⟩
theorem d_X4_faithOf_124 : x_dec m_X4_faithOf 124 (.iload_n 2) 1 125 := ⟨by decide +kernel, rfl⟩
theorem d_X4_faithOf_125 : x_dec m_X4_faithOf 125 (.ireturn) 1 126 := ⟨by decide +kernel, rfl⟩
theorem d_X4_faithOf_126 : x_dec m_X4_faithOf 126 (.iload_n 2) 1 127 := ⟨by decide +kernel, rfl⟩
theorem d_X4_faithOf_127 : x_dec m_X4_faithOf 127 (.iconst 2) 1 128 := ⟨by decide +kernel, rfl⟩
theorem d_X4_faithOf_128 : x_dec m_X4_faithOf 128 (.idiv) 1 129 := ⟨by decide +kernel, rfl⟩
theorem d_X4_faithOf_129 : x_dec m_X4_faithOf 129 (.bipush 20) 2 131 := ⟨by decide +kernel, rfl⟩
theorem d_X4_faithOf_131 : x_dec m_X4_faithOf 131 (.isub) 1 132 := ⟨by decide +kernel, rfl⟩
theorem d_X4_faithOf_132 : x_dec m_X4_faithOf 132 (.ireturn) 1 133 := ⟨by decide +kernel, rfl⟩
theorem d_X4_faithOf_133 : x_dec m_X4_faithOf 133 (.iload_n 2) 1 134 := ⟨by decide +kernel, rfl⟩
theorem d_X4_faithOf_134 : x_dec m_X4_faithOf 134 (.ireturn) 1 135 := ⟨by decide +kernel, rfl⟩
set_option maxHeartbeats 4000000 in
set_option maxRecDepth 100000 in
theorem c_X4_faithOf (l : Launch) (E : x_E) (μ : x_Mem) {a : x_St} (hR : MR a μ) (hI : WF a) {p : Nat} (hp : p < pn a) : x_Met l m_X4_faithOf E [.ref (E.1 + 41), .int (nI p)] μ (x_I (fun z m => z = faithF a p ∧ m = μ)) := by
  have hn7 := hI.2.1
  have hpn := hI.1
  refine x_enter (lv := [(0, .ref (E.1 + 41)), (1, .int (nI p))]) (by decide +kernel) (Nat.le_of_ble_eq_true rfl) rfl ?_
  refine x_aload_n 0 d_X4_faithOf_0 rfl rfl ?_
  refine x_iload_n 1 d_X4_faithOf_1 rfl rfl ?_
  refine x_iconst (x := 2) d_X4_faithOf_2 (by decide) ?_
  refine x_cvip (k := 41) (as := [.int (nI p), .int 2]) (c_X4_told l E μ hR (p := p) (w := 2) (j := 24 + 3 * p + 2) rfl (by omega)) v_X4_told w_X4_told q755 o_M rfl ⟨Nat.le_of_ble_eq_true rfl, Nat.le_of_ble_eq_true rfl⟩ rfl (Nat.le_of_ble_eq_true rfl) d_X4_faithOf_3 ?_
  refine x_istore_n [(2, .int (a (24 + 3 * p + 2))), (0, .ref (E.1 + 41)), (1, .int (nI p))] d_X4_faithOf_6 rfl (Nat.le_of_ble_eq_true rfl) rfl ?_
  refine x_iload_n 0 d_X4_faithOf_7 rfl rfl ?_
  refine x_aload_n 1 d_X4_faithOf_8 rfl rfl ?_
  refine x_getr (j := 0) 42 x_c4 rfl (Nat.le_of_ble_eq_true rfl) q668 rfl d_X4_faithOf_9 ?_
  refine x_iconst (x := 2) d_X4_faithOf_12 (by decide) ?_
  refine x_ialdN (z := a 2) 58 2 rfl rfl (by omega) (by decide) (hR 2 (by omega)) d_X4_faithOf_13 ?_
  refine x_iconst (x := 1) d_X4_faithOf_14 (by decide) ?_
  refine x_icmp_ne 22 d_X4_faithOf_15 (by decide) (fun c1 => ?_) (fun c1 => ?_)
  · skip
    refine x_bipush (x := 20) d_X4_faithOf_22 (by decide) ?_
    refine x_iadd d_X4_faithOf_24 ?_
    refine x_istore_n [(3, .int ((a (24 + 3 * p + 2)) + 20)), (2, .int (a (24 + 3 * p + 2))), (0, .ref (E.1 + 41)), (1, .int (nI p))] d_X4_faithOf_25 rfl (Nat.le_of_ble_eq_true rfl) rfl ?_
    refine x_iload_n 0 d_X4_faithOf_26 rfl rfl ?_
    refine x_aload_n 2 d_X4_faithOf_27 rfl rfl ?_
    refine x_getr (j := 0) 42 x_c4 rfl (Nat.le_of_ble_eq_true rfl) q668 rfl d_X4_faithOf_28 ?_
    refine x_iconst (x := 5) d_X4_faithOf_31 (by decide) ?_
    refine x_ialdN (z := a 5) 58 5 rfl rfl (by omega) (by decide) (hR 5 (by omega)) d_X4_faithOf_32 ?_
    refine x_iconst (x := 0) d_X4_faithOf_33 (by decide) ?_
    refine x_bipush (x := 30) d_X4_faithOf_34 (by decide) ?_
    refine x_csip (as := [.int (a 5), .int 0, .int 30]) (c_X4_held l E μ (a 5) 0 30) v_X4_held q760 q759 rfl ⟨Nat.le_of_ble_eq_true rfl, Nat.le_of_ble_eq_true rfl⟩ rfl (Nat.le_of_ble_eq_true rfl) d_X4_faithOf_36 ?_
    refine x_isub d_X4_faithOf_39 ?_
    refine x_istore [(4, .int (((a (24 + 3 * p + 2)) + 20) - (heldF (a 5) 0 30))), (3, .int ((a (24 + 3 * p + 2)) + 20)), (2, .int (a (24 + 3 * p + 2))), (0, .ref (E.1 + 41)), (1, .int (nI p))] d_X4_faithOf_40 (Nat.le_of_ble_eq_true rfl) rfl ?_
    refine x_aload_n 3 d_X4_faithOf_42 rfl rfl ?_
    refine x_iload_n 4 d_X4_faithOf_43 rfl rfl ?_
    refine x_iconst (x := 0) d_X4_faithOf_44 (by decide) ?_
    refine x_cvip (k := 41) (as := [.int (nI p), .int 0]) (c_X4_told l E μ hR (p := p) (w := 0) (j := 24 + 3 * p) rfl (by omega)) v_X4_told w_X4_told q755 o_M rfl ⟨Nat.le_of_ble_eq_true rfl, Nat.le_of_ble_eq_true rfl⟩ rfl (Nat.le_of_ble_eq_true rfl) d_X4_faithOf_45 ?_
    by_cases k2 : a (24 + 3 * p) = 1
    · have k2T : (a (24 + 3 * p)).toInt = 1 := by rw [k2]; decide
      refine x_tswIn 88 (off := 40) d_X4_faithOf_48 (by rw [k2T]; decide) (by rw [k2T]; decide) (by rw [k2T]; decide) (by decide) ?_
      refine x_iload_n 2 d_X4_faithOf_88 rfl rfl ?_
      refine x_iconst (x := 2) d_X4_faithOf_89 (by decide) ?_
      refine x_idiv d_X4_faithOf_90 (by decide) ?_
      refine x_iret rfl d_X4_faithOf_91 ?_
      have hday : dayF a = 20 := day_0 hI c1
      refine ⟨?_, rfl⟩
      unfold faithF; rw [if_pos k2]
    by_cases k3 : a (24 + 3 * p) = 2
    · have k3T : (a (24 + 3 * p)).toInt = 2 := by rw [k3]; decide
      refine x_tswIn 92 (off := 44) d_X4_faithOf_48 (by rw [k3T]; decide) (by rw [k3T]; decide) (by rw [k3T]; decide) (by decide) ?_
      refine x_iload_n 1 d_X4_faithOf_92 rfl rfl ?_
      refine x_iret rfl d_X4_faithOf_93 ?_
      have hday : dayF a = 20 := day_0 hI c1
      refine ⟨?_, rfl⟩
      unfold faithF; rw [if_neg (by rw [k3]; decide), if_pos k3]; rw [hday]
    by_cases k4 : a (24 + 3 * p) = 3
    · have k4T : (a (24 + 3 * p)).toInt = 3 := by rw [k4]; decide
      refine x_tswIn 94 (off := 46) d_X4_faithOf_48 (by rw [k4T]; decide) (by rw [k4T]; decide) (by rw [k4T]; decide) (by decide) ?_
      refine x_iload 0 d_X4_faithOf_94 rfl ?_
      refine x_iret rfl d_X4_faithOf_96 ?_
      have hday : dayF a = 20 := day_0 hI c1
      refine ⟨?_, rfl⟩
      unfold faithF; rw [if_neg (by rw [k4]; decide), if_neg (by rw [k4]; decide), if_pos k4]; rw [hday]; rw [held_falls hI]
    by_cases k5 : a (24 + 3 * p) = 4
    · have k5T : (a (24 + 3 * p)).toInt = 4 := by rw [k5]; decide
      refine x_tswIn 97 (off := 49) d_X4_faithOf_48 (by rw [k5T]; decide) (by rw [k5T]; decide) (by rw [k5T]; decide) (by decide) ?_
      refine x_iload 0 d_X4_faithOf_97 rfl ?_
      refine x_iconst (x := 5) d_X4_faithOf_99 (by decide) ?_
      refine x_aload_n 3 d_X4_faithOf_100 rfl rfl ?_
      refine x_iload_n 4 d_X4_faithOf_101 rfl rfl ?_
      refine x_cvip (k := 41) (as := [.int (nI p)]) (c_X4_othersWith l E μ hR hI (p := p) (by omega)) v_X4_othersWith w_X4_othersWith q762 o_M rfl ⟨Nat.le_of_ble_eq_true rfl, Nat.le_of_ble_eq_true rfl⟩ rfl (Nat.le_of_ble_eq_true rfl) d_X4_faithOf_102 ?_
      refine x_imul d_X4_faithOf_105 ?_
      refine x_iadd d_X4_faithOf_106 ?_
      refine x_iret rfl d_X4_faithOf_107 ?_
      have hday : dayF a = 20 := day_0 hI c1
      refine ⟨?_, rfl⟩
      unfold faithF; rw [if_neg (by rw [k5]; decide), if_neg (by rw [k5]; decide), if_neg (by rw [k5]; decide), if_pos k5]; rw [hday]; rw [held_falls hI]
    by_cases k6 : a (24 + 3 * p) = 5
    · have k6T : (a (24 + 3 * p)).toInt = 5 := by rw [k6]; decide
      refine x_tswIn 108 (off := 60) d_X4_faithOf_48 (by rw [k6T]; decide) (by rw [k6T]; decide) (by rw [k6T]; decide) (by decide) ?_
      refine x_aload_n 3 d_X4_faithOf_108 rfl rfl ?_
      refine x_getr (j := 0) 42 x_c4 rfl (Nat.le_of_ble_eq_true rfl) q668 rfl d_X4_faithOf_109 ?_
      refine x_iconst (x := 2) d_X4_faithOf_112 (by decide) ?_
      refine x_ialdN (z := a 2) 58 2 rfl rfl (by omega) (by decide) (hR 2 (by omega)) d_X4_faithOf_113 ?_
      refine x_iconst (x := 1) d_X4_faithOf_114 (by decide) ?_
      refine x_icmp_ne 124 d_X4_faithOf_115 (by decide) (fun c7 => ?_) (fun c7 => ?_)
      · skip
        refine x_iload_n 2 d_X4_faithOf_124 rfl rfl ?_
        refine x_iret rfl d_X4_faithOf_125 ?_
        have hday : dayF a = 20 := day_0 hI c1
        refine ⟨?_, rfl⟩
        unfold faithF; rw [if_neg (by rw [k6]; decide), if_neg (by rw [k6]; decide), if_neg (by rw [k6]; decide), if_neg (by rw [k6]; decide), if_pos k6]; rw [if_pos (night_0 hI c1)]
      · skip
        exact absurd c7 c1
    by_cases k8 : a (24 + 3 * p) = 6
    · have k8T : (a (24 + 3 * p)).toInt = 6 := by rw [k8]; decide
      refine x_tswIn 126 (off := 78) d_X4_faithOf_48 (by rw [k8T]; decide) (by rw [k8T]; decide) (by rw [k8T]; decide) (by decide) ?_
      refine x_iload_n 2 d_X4_faithOf_126 rfl rfl ?_
      refine x_iconst (x := 2) d_X4_faithOf_127 (by decide) ?_
      refine x_idiv d_X4_faithOf_128 (by decide) ?_
      refine x_bipush (x := 20) d_X4_faithOf_129 (by decide) ?_
      refine x_isub d_X4_faithOf_131 ?_
      refine x_iret rfl d_X4_faithOf_132 ?_
      have hday : dayF a = 20 := day_0 hI c1
      refine ⟨?_, rfl⟩
      unfold faithF; rw [if_neg (by rw [k8]; decide), if_neg (by rw [k8]; decide), if_neg (by rw [k8]; decide), if_neg (by rw [k8]; decide), if_neg (by rw [k8]; decide), if_pos k8]
    have k2T : ¬ (a (24 + 3 * p)).toInt = 1 := lv_neT k2 (by decide)
    have k3T : ¬ (a (24 + 3 * p)).toInt = 2 := lv_neT k3 (by decide)
    have k4T : ¬ (a (24 + 3 * p)).toInt = 3 := lv_neT k4 (by decide)
    have k5T : ¬ (a (24 + 3 * p)).toInt = 4 := lv_neT k5 (by decide)
    have k6T : ¬ (a (24 + 3 * p)).toInt = 5 := lv_neT k6 (by decide)
    have k8T : ¬ (a (24 + 3 * p)).toInt = 6 := lv_neT k8 (by decide)
    refine x_tswOut 133 d_X4_faithOf_48 (by omega) (by decide) ?_
    refine x_iload_n 2 d_X4_faithOf_133 rfl rfl ?_
    refine x_iret rfl d_X4_faithOf_134 ?_
    have hday : dayF a = 20 := day_0 hI c1
    refine ⟨?_, rfl⟩
    unfold faithF; rw [if_neg k2, if_neg k3, if_neg k4, if_neg k5, if_neg k6, if_neg k8]
  · skip
    refine x_iconst (x := 0) d_X4_faithOf_18 (by decide) ?_
    refine x_goto 24 d_X4_faithOf_19 (by decide) ?_
    refine x_iadd d_X4_faithOf_24 ?_
    refine x_istore_n [(3, .int ((a (24 + 3 * p + 2)) + 0)), (2, .int (a (24 + 3 * p + 2))), (0, .ref (E.1 + 41)), (1, .int (nI p))] d_X4_faithOf_25 rfl (Nat.le_of_ble_eq_true rfl) rfl ?_
    refine x_iload_n 0 d_X4_faithOf_26 rfl rfl ?_
    refine x_aload_n 2 d_X4_faithOf_27 rfl rfl ?_
    refine x_getr (j := 0) 42 x_c4 rfl (Nat.le_of_ble_eq_true rfl) q668 rfl d_X4_faithOf_28 ?_
    refine x_iconst (x := 5) d_X4_faithOf_31 (by decide) ?_
    refine x_ialdN (z := a 5) 58 5 rfl rfl (by omega) (by decide) (hR 5 (by omega)) d_X4_faithOf_32 ?_
    refine x_iconst (x := 0) d_X4_faithOf_33 (by decide) ?_
    refine x_bipush (x := 30) d_X4_faithOf_34 (by decide) ?_
    refine x_csip (as := [.int (a 5), .int 0, .int 30]) (c_X4_held l E μ (a 5) 0 30) v_X4_held q760 q759 rfl ⟨Nat.le_of_ble_eq_true rfl, Nat.le_of_ble_eq_true rfl⟩ rfl (Nat.le_of_ble_eq_true rfl) d_X4_faithOf_36 ?_
    refine x_isub d_X4_faithOf_39 ?_
    refine x_istore [(4, .int (((a (24 + 3 * p + 2)) + 0) - (heldF (a 5) 0 30))), (3, .int ((a (24 + 3 * p + 2)) + 0)), (2, .int (a (24 + 3 * p + 2))), (0, .ref (E.1 + 41)), (1, .int (nI p))] d_X4_faithOf_40 (Nat.le_of_ble_eq_true rfl) rfl ?_
    refine x_aload_n 3 d_X4_faithOf_42 rfl rfl ?_
    refine x_iload_n 4 d_X4_faithOf_43 rfl rfl ?_
    refine x_iconst (x := 0) d_X4_faithOf_44 (by decide) ?_
    refine x_cvip (k := 41) (as := [.int (nI p), .int 0]) (c_X4_told l E μ hR (p := p) (w := 0) (j := 24 + 3 * p) rfl (by omega)) v_X4_told w_X4_told q755 o_M rfl ⟨Nat.le_of_ble_eq_true rfl, Nat.le_of_ble_eq_true rfl⟩ rfl (Nat.le_of_ble_eq_true rfl) d_X4_faithOf_45 ?_
    by_cases k9 : a (24 + 3 * p) = 1
    · have k9T : (a (24 + 3 * p)).toInt = 1 := by rw [k9]; decide
      refine x_tswIn 88 (off := 40) d_X4_faithOf_48 (by rw [k9T]; decide) (by rw [k9T]; decide) (by rw [k9T]; decide) (by decide) ?_
      refine x_iload_n 2 d_X4_faithOf_88 rfl rfl ?_
      refine x_iconst (x := 2) d_X4_faithOf_89 (by decide) ?_
      refine x_idiv d_X4_faithOf_90 (by decide) ?_
      refine x_iret rfl d_X4_faithOf_91 ?_
      have hday : dayF a = 0 := day_1 hI (by simpa using c1)
      refine ⟨?_, rfl⟩
      unfold faithF; rw [if_pos k9]
    by_cases k10 : a (24 + 3 * p) = 2
    · have k10T : (a (24 + 3 * p)).toInt = 2 := by rw [k10]; decide
      refine x_tswIn 92 (off := 44) d_X4_faithOf_48 (by rw [k10T]; decide) (by rw [k10T]; decide) (by rw [k10T]; decide) (by decide) ?_
      refine x_iload_n 1 d_X4_faithOf_92 rfl rfl ?_
      refine x_iret rfl d_X4_faithOf_93 ?_
      have hday : dayF a = 0 := day_1 hI (by simpa using c1)
      refine ⟨?_, rfl⟩
      unfold faithF; rw [if_neg (by rw [k10]; decide), if_pos k10]; rw [hday]
    by_cases k11 : a (24 + 3 * p) = 3
    · have k11T : (a (24 + 3 * p)).toInt = 3 := by rw [k11]; decide
      refine x_tswIn 94 (off := 46) d_X4_faithOf_48 (by rw [k11T]; decide) (by rw [k11T]; decide) (by rw [k11T]; decide) (by decide) ?_
      refine x_iload 0 d_X4_faithOf_94 rfl ?_
      refine x_iret rfl d_X4_faithOf_96 ?_
      have hday : dayF a = 0 := day_1 hI (by simpa using c1)
      refine ⟨?_, rfl⟩
      unfold faithF; rw [if_neg (by rw [k11]; decide), if_neg (by rw [k11]; decide), if_pos k11]; rw [hday]; rw [held_falls hI]
    by_cases k12 : a (24 + 3 * p) = 4
    · have k12T : (a (24 + 3 * p)).toInt = 4 := by rw [k12]; decide
      refine x_tswIn 97 (off := 49) d_X4_faithOf_48 (by rw [k12T]; decide) (by rw [k12T]; decide) (by rw [k12T]; decide) (by decide) ?_
      refine x_iload 0 d_X4_faithOf_97 rfl ?_
      refine x_iconst (x := 5) d_X4_faithOf_99 (by decide) ?_
      refine x_aload_n 3 d_X4_faithOf_100 rfl rfl ?_
      refine x_iload_n 4 d_X4_faithOf_101 rfl rfl ?_
      refine x_cvip (k := 41) (as := [.int (nI p)]) (c_X4_othersWith l E μ hR hI (p := p) (by omega)) v_X4_othersWith w_X4_othersWith q762 o_M rfl ⟨Nat.le_of_ble_eq_true rfl, Nat.le_of_ble_eq_true rfl⟩ rfl (Nat.le_of_ble_eq_true rfl) d_X4_faithOf_102 ?_
      refine x_imul d_X4_faithOf_105 ?_
      refine x_iadd d_X4_faithOf_106 ?_
      refine x_iret rfl d_X4_faithOf_107 ?_
      have hday : dayF a = 0 := day_1 hI (by simpa using c1)
      refine ⟨?_, rfl⟩
      unfold faithF; rw [if_neg (by rw [k12]; decide), if_neg (by rw [k12]; decide), if_neg (by rw [k12]; decide), if_pos k12]; rw [hday]; rw [held_falls hI]
    by_cases k13 : a (24 + 3 * p) = 5
    · have k13T : (a (24 + 3 * p)).toInt = 5 := by rw [k13]; decide
      refine x_tswIn 108 (off := 60) d_X4_faithOf_48 (by rw [k13T]; decide) (by rw [k13T]; decide) (by rw [k13T]; decide) (by decide) ?_
      refine x_aload_n 3 d_X4_faithOf_108 rfl rfl ?_
      refine x_getr (j := 0) 42 x_c4 rfl (Nat.le_of_ble_eq_true rfl) q668 rfl d_X4_faithOf_109 ?_
      refine x_iconst (x := 2) d_X4_faithOf_112 (by decide) ?_
      refine x_ialdN (z := a 2) 58 2 rfl rfl (by omega) (by decide) (hR 2 (by omega)) d_X4_faithOf_113 ?_
      refine x_iconst (x := 1) d_X4_faithOf_114 (by decide) ?_
      refine x_icmp_ne 124 d_X4_faithOf_115 (by decide) (fun c14 => ?_) (fun c14 => ?_)
      · skip
        exact absurd c1 c14
      · skip
        refine x_iconst (x := 2) d_X4_faithOf_118 (by decide) ?_
        refine x_iload_n 2 d_X4_faithOf_119 rfl rfl ?_
        refine x_imul d_X4_faithOf_120 ?_
        refine x_goto 125 d_X4_faithOf_121 (by decide) ?_
        refine x_iret rfl d_X4_faithOf_125 ?_
        have hday : dayF a = 0 := day_1 hI (by simpa using c1)
        refine ⟨?_, rfl⟩
        unfold faithF; rw [if_neg (by rw [k13]; decide), if_neg (by rw [k13]; decide), if_neg (by rw [k13]; decide), if_neg (by rw [k13]; decide), if_pos k13]; rw [if_neg (night_1 hI (by simpa using c1))]
    by_cases k15 : a (24 + 3 * p) = 6
    · have k15T : (a (24 + 3 * p)).toInt = 6 := by rw [k15]; decide
      refine x_tswIn 126 (off := 78) d_X4_faithOf_48 (by rw [k15T]; decide) (by rw [k15T]; decide) (by rw [k15T]; decide) (by decide) ?_
      refine x_iload_n 2 d_X4_faithOf_126 rfl rfl ?_
      refine x_iconst (x := 2) d_X4_faithOf_127 (by decide) ?_
      refine x_idiv d_X4_faithOf_128 (by decide) ?_
      refine x_bipush (x := 20) d_X4_faithOf_129 (by decide) ?_
      refine x_isub d_X4_faithOf_131 ?_
      refine x_iret rfl d_X4_faithOf_132 ?_
      have hday : dayF a = 0 := day_1 hI (by simpa using c1)
      refine ⟨?_, rfl⟩
      unfold faithF; rw [if_neg (by rw [k15]; decide), if_neg (by rw [k15]; decide), if_neg (by rw [k15]; decide), if_neg (by rw [k15]; decide), if_neg (by rw [k15]; decide), if_pos k15]
    have k9T : ¬ (a (24 + 3 * p)).toInt = 1 := lv_neT k9 (by decide)
    have k10T : ¬ (a (24 + 3 * p)).toInt = 2 := lv_neT k10 (by decide)
    have k11T : ¬ (a (24 + 3 * p)).toInt = 3 := lv_neT k11 (by decide)
    have k12T : ¬ (a (24 + 3 * p)).toInt = 4 := lv_neT k12 (by decide)
    have k13T : ¬ (a (24 + 3 * p)).toInt = 5 := lv_neT k13 (by decide)
    have k15T : ¬ (a (24 + 3 * p)).toInt = 6 := lv_neT k15 (by decide)
    refine x_tswOut 133 d_X4_faithOf_48 (by omega) (by decide) ?_
    refine x_iload_n 2 d_X4_faithOf_133 rfl rfl ?_
    refine x_iret rfl d_X4_faithOf_134 ?_
    have hday : dayF a = 0 := day_1 hI (by simpa using c1)
    refine ⟨?_, rfl⟩
    unfold faithF; rw [if_neg k9, if_neg k10, if_neg k11, if_neg k12, if_neg k13, if_neg k15]
def m_X4_brings : x_M := (yX4_brings, prog_6_method_17_code, 4, (some FieldType.int), 3, 69)
theorem v_X4_brings : x_VM m_X4_brings 2 := ⟨q750, q6, by decide +kernel, by decide +kernel, by decide +kernel⟩
theorem w_X4_brings : x_VI m_X4_brings := ⟨q749, qs23⟩
theorem d_X4_brings_0 : x_dec m_X4_brings 0 (.aload_n 0) 1 1 := ⟨by decide +kernel, rfl⟩
theorem d_X4_brings_1 : x_dec m_X4_brings 1 (.iload_n 1) 1 2 := ⟨by decide +kernel, rfl⟩
theorem d_X4_brings_2 : x_dec m_X4_brings 2 (.invokevirtual 61) 3 5 := ⟨by decide +kernel, rfl⟩
theorem d_X4_brings_5 : x_dec m_X4_brings 5 (.istore_n 3) 1 6 := ⟨by decide +kernel, rfl⟩
theorem d_X4_brings_6 : x_dec m_X4_brings 6 (.aload_n 0) 1 7 := ⟨by decide +kernel, rfl⟩
theorem d_X4_brings_7 : x_dec m_X4_brings 7 (.iload_n 1) 1 8 := ⟨by decide +kernel, rfl⟩
theorem d_X4_brings_8 : x_dec m_X4_brings 8 (.iconst 1) 1 9 := ⟨by decide +kernel, rfl⟩
theorem d_X4_brings_9 : x_dec m_X4_brings 9 (.invokevirtual 50) 3 12 := ⟨by decide +kernel, rfl⟩
theorem d_X4_brings_12 : x_dec m_X4_brings 12 (.iconst (-1)) 1 13 := ⟨by decide +kernel, rfl⟩
theorem d_X4_brings_13 : x_dec m_X4_brings 13 (.if_icmp .ne 5) 3 16 := ⟨by decide +kernel, rfl⟩
theorem d_X4_brings_16 : x_dec m_X4_brings 16 (.iload_n 3) 1 17 := ⟨by decide +kernel, rfl⟩
theorem d_X4_brings_17 : x_dec m_X4_brings 17 (.ireturn) 1 18 := ⟨by decide +kernel, rfl⟩
theorem d_X4_brings_18 : x_dec m_X4_brings 18 (.iload_n 3) 1 19 := ⟨by decide +kernel, rfl⟩
theorem d_X4_brings_19 : x_dec m_X4_brings 19 (.bipush 10) 2 21 := ⟨by decide +kernel, rfl⟩
theorem d_X4_brings_21 : x_dec m_X4_brings 21 (.aload_n 0) 1 22 := ⟨by decide +kernel, rfl⟩
theorem d_X4_brings_22 : x_dec m_X4_brings 22 (.iload_n 1) 1 23 := ⟨by decide +kernel, rfl⟩
theorem d_X4_brings_23 : x_dec m_X4_brings 23 (.iconst 1) 1 24 := ⟨by decide +kernel, rfl⟩
theorem d_X4_brings_24 : x_dec m_X4_brings 24 (.invokevirtual 50) 3 27 := ⟨by decide +kernel, rfl⟩
theorem d_X4_brings_27 : x_dec m_X4_brings 27 (.iload_n 2) 1 28 := ⟨by decide +kernel, rfl⟩
theorem d_X4_brings_28 : x_dec m_X4_brings 28 (.invokestatic 64) 3 31 := ⟨by decide +kernel, rfl⟩
theorem d_X4_brings_31 : x_dec m_X4_brings 31 (.imul) 1 32 := ⟨by decide +kernel, rfl⟩
theorem d_X4_brings_32 : x_dec m_X4_brings 32 (.isub) 1 33 := ⟨by decide +kernel, rfl⟩
theorem d_X4_brings_33 : x_dec m_X4_brings 33 (.iconst 0) 1 34 := ⟨by decide +kernel, rfl⟩
theorem d_X4_brings_34 : x_dec m_X4_brings 34 (.ldc 67) 2 36 := ⟨by decide +kernel, rfl⟩
theorem d_X4_brings_36 : x_dec m_X4_brings 36 (.invokestatic 54) 3 39 := ⟨by decide +kernel, rfl⟩
theorem d_X4_brings_39 : x_dec m_X4_brings 39 (.ireturn) 1 40 := ⟨by decide +kernel, rfl⟩
set_option maxHeartbeats 4000000 in
set_option maxRecDepth 100000 in
theorem c_X4_brings (l : Launch) (E : x_E) (μ : x_Mem) {a : x_St} (hR : MR a μ) (hI : WF a) {p k : Nat} (hp : p < pn a) (hk : k < 16) : x_Met l m_X4_brings E [.ref (E.1 + 41), .int (nI p), .int (nI k)] μ (x_I (fun z m => z = bringsF a p (nI k) ∧ m = μ)) := by
  have hn7 := hI.2.1
  have hpn := hI.1
  refine x_enter (lv := [(0, .ref (E.1 + 41)), (1, .int (nI p)), (2, .int (nI k))]) (by decide +kernel) (Nat.le_of_ble_eq_true rfl) rfl ?_
  refine x_aload_n 0 d_X4_brings_0 rfl rfl ?_
  refine x_iload_n 1 d_X4_brings_1 rfl rfl ?_
  refine x_cvip (k := 41) (as := [.int (nI p)]) (c_X4_faithOf l E μ hR hI (p := p) (by omega)) v_X4_faithOf w_X4_faithOf q751 o_M rfl ⟨Nat.le_of_ble_eq_true rfl, Nat.le_of_ble_eq_true rfl⟩ rfl (Nat.le_of_ble_eq_true rfl) d_X4_brings_2 ?_
  refine x_istore_n [(3, .int (faithF a p)), (0, .ref (E.1 + 41)), (1, .int (nI p)), (2, .int (nI k))] d_X4_brings_5 rfl (Nat.le_of_ble_eq_true rfl) rfl ?_
  refine x_aload_n 1 d_X4_brings_6 rfl rfl ?_
  refine x_iload_n 2 d_X4_brings_7 rfl rfl ?_
  refine x_iconst (x := 1) d_X4_brings_8 (by decide) ?_
  refine x_cvip (k := 41) (as := [.int (nI p), .int 1]) (c_X4_told l E μ hR (p := p) (w := 1) (j := 24 + 3 * p + 1) rfl (by omega)) v_X4_told w_X4_told q755 o_M rfl ⟨Nat.le_of_ble_eq_true rfl, Nat.le_of_ble_eq_true rfl⟩ rfl (Nat.le_of_ble_eq_true rfl) d_X4_brings_9 ?_
  refine x_iconst (x := (-1)) d_X4_brings_12 (by decide) ?_
  refine x_icmp_ne 18 d_X4_brings_13 (by decide) (fun c1 => ?_) (fun c1 => ?_)
  · skip
    refine x_iload_n 0 d_X4_brings_18 rfl rfl ?_
    refine x_bipush (x := 10) d_X4_brings_19 (by decide) ?_
    refine x_aload_n 1 d_X4_brings_21 rfl rfl ?_
    refine x_iload_n 2 d_X4_brings_22 rfl rfl ?_
    refine x_iconst (x := 1) d_X4_brings_23 (by decide) ?_
    refine x_cvip (k := 41) (as := [.int (nI p), .int 1]) (c_X4_told l E μ hR (p := p) (w := 1) (j := 24 + 3 * p + 1) rfl (by omega)) v_X4_told w_X4_told q755 o_M rfl ⟨Nat.le_of_ble_eq_true rfl, Nat.le_of_ble_eq_true rfl⟩ rfl (Nat.le_of_ble_eq_true rfl) d_X4_brings_24 ?_
    refine x_iload_n 3 d_X4_brings_27 rfl rfl ?_
    refine x_csip (as := [.int (a (24 + 3 * p + 1)), .int (nI k)]) (c_X4_farFrom l E μ (a (24 + 3 * p + 1)) (nI k)) v_X4_farFrom q767 q766 rfl ⟨Nat.le_of_ble_eq_true rfl, Nat.le_of_ble_eq_true rfl⟩ rfl (Nat.le_of_ble_eq_true rfl) d_X4_brings_28 ?_
    refine x_imul d_X4_brings_31 ?_
    refine x_isub d_X4_brings_32 ?_
    refine x_iconst (x := 0) d_X4_brings_33 (by decide) ?_
    refine x_ldc q769 d_X4_brings_34 ?_
    refine x_csip (as := [.int ((faithF a p) - (10 * (farF (a (24 + 3 * p + 1)) (nI k)))), .int 0, .int 99999]) (c_X4_held l E μ ((faithF a p) - (10 * (farF (a (24 + 3 * p + 1)) (nI k)))) 0 99999) v_X4_held q760 q759 rfl ⟨Nat.le_of_ble_eq_true rfl, Nat.le_of_ble_eq_true rfl⟩ rfl (Nat.le_of_ble_eq_true rfl) d_X4_brings_36 ?_
    refine x_iret rfl d_X4_brings_39 ?_
    refine ⟨?_, rfl⟩
    unfold bringsF; rw [if_neg c1]; exact held_brings hI hp hk
  · skip
    refine x_iload_n 0 d_X4_brings_16 rfl rfl ?_
    refine x_iret rfl d_X4_brings_17 ?_
    refine ⟨?_, rfl⟩
    unfold bringsF; rw [if_pos (by simpa using c1)]
def m_X4_sumAt : x_M := (yX4_sumAt, prog_6_method_18_code, 4, (some FieldType.int), 4, 92)
theorem v_X4_sumAt : x_VM m_X4_sumAt 1 := ⟨q746, q6, by decide +kernel, by decide +kernel, by decide +kernel⟩
theorem w_X4_sumAt : x_VI m_X4_sumAt := ⟨q745, qs22⟩
theorem d_X4_sumAt_0 : x_dec m_X4_sumAt 0 (.iconst 0) 1 1 := ⟨by decide +kernel, rfl⟩
theorem d_X4_sumAt_1 : x_dec m_X4_sumAt 1 (.istore_n 2) 1 2 := ⟨by decide +kernel, rfl⟩
theorem d_X4_sumAt_2 : x_dec m_X4_sumAt 2 (.iconst 0) 1 3 := ⟨by decide +kernel, rfl⟩
theorem d_X4_sumAt_3 : x_dec m_X4_sumAt 3 (.istore_n 3) 1 4 := ⟨by decide +kernel, rfl⟩
theorem d_X4_sumAt_4 : x_dec m_X4_sumAt 4 (.iload_n 3) 1 5 := ⟨by decide +kernel, rfl⟩
theorem d_X4_sumAt_5 : x_dec m_X4_sumAt 5 (.aload_n 0) 1 6 := ⟨by decide +kernel, rfl⟩
theorem d_X4_sumAt_6 : x_dec m_X4_sumAt 6 (.getfield 9) 3 9 := ⟨by decide +kernel, rfl⟩
theorem d_X4_sumAt_9 : x_dec m_X4_sumAt 9 (.bipush 7) 2 11 := ⟨by decide +kernel, rfl⟩
theorem d_X4_sumAt_11 : x_dec m_X4_sumAt 11 (.iaload) 1 12 := ⟨by decide +kernel, rfl⟩
theorem d_X4_sumAt_12 : x_dec m_X4_sumAt 12 (.if_icmp .ge 18) 3 15 := ⟨by decide +kernel, rfl⟩
theorem d_X4_sumAt_15 : x_dec m_X4_sumAt 15 (.iload_n 2) 1 16 := ⟨by decide +kernel, rfl⟩
theorem d_X4_sumAt_16 : x_dec m_X4_sumAt 16 (.aload_n 0) 1 17 := ⟨by decide +kernel, rfl⟩
theorem d_X4_sumAt_17 : x_dec m_X4_sumAt 17 (.iload_n 3) 1 18 := ⟨by decide +kernel, rfl⟩
theorem d_X4_sumAt_18 : x_dec m_X4_sumAt 18 (.iload_n 1) 1 19 := ⟨by decide +kernel, rfl⟩
theorem d_X4_sumAt_19 : x_dec m_X4_sumAt 19 (.invokevirtual 68) 3 22 := ⟨by decide +kernel, rfl⟩
theorem d_X4_sumAt_22 : x_dec m_X4_sumAt 22 (.iadd) 1 23 := ⟨by decide +kernel, rfl⟩
theorem d_X4_sumAt_23 : x_dec m_X4_sumAt 23 (.istore_n 2) 1 24 := ⟨by decide +kernel, rfl⟩
theorem d_X4_sumAt_24 : x_dec m_X4_sumAt 24 (.iinc 3 1) 3 27 := ⟨by decide +kernel, rfl⟩
theorem d_X4_sumAt_27 : x_dec m_X4_sumAt 27 (.goto (-23)) 3 30 := ⟨by decide +kernel, rfl⟩
theorem d_X4_sumAt_30 : x_dec m_X4_sumAt 30 (.iload_n 2) 1 31 := ⟨by decide +kernel, rfl⟩
theorem d_X4_sumAt_31 : x_dec m_X4_sumAt 31 (.ireturn) 1 32 := ⟨by decide +kernel, rfl⟩
set_option maxHeartbeats 4000000 in
set_option maxRecDepth 100000 in
theorem c_X4_sumAt (l : Launch) (E : x_E) (μ : x_Mem) {a : x_St} (hR : MR a μ) (hI : WF a) {k : Nat} (hk : k < 16) : x_Met l m_X4_sumAt E [.ref (E.1 + 41), .int (nI k)] μ (x_I (fun z m => z = sumF a (nI k) ∧ m = μ)) := by
  have hn7 := hI.2.1
  have hpn := hI.1
  refine x_enter (lv := [(0, .ref (E.1 + 41)), (1, .int (nI k))]) (by decide +kernel) (Nat.le_of_ble_eq_true rfl) rfl ?_
  refine x_iconst (x := 0) d_X4_sumAt_0 (by decide) ?_
  refine x_istore_n [(2, .int 0), (0, .ref (E.1 + 41)), (1, .int (nI k))] d_X4_sumAt_1 rfl (Nat.le_of_ble_eq_true rfl) rfl ?_
  refine x_iconst (x := 0) d_X4_sumAt_2 (by decide) ?_
  refine x_istore_n [(3, .int 0), (2, .int 0), (0, .ref (E.1 + 41)), (1, .int (nI k))] d_X4_sumAt_3 rfl (Nat.le_of_ble_eq_true rfl) rfl ?_
  have L1 : ∀ i : Nat, i ≤ pn a → ∀ r : Int32, (r = sumTo (fun p => bringsF a p (nI k)) i) → x_G l E m_X4_sumAt (x_mv E m_X4_sumAt (x_I (fun z m => z = sumF a (nI k) ∧ m = μ))) μ 4 [(3, .int (nI i)), (2, .int r), (0, .ref (E.1 + 41)), (1, .int (nI k))] [] := by
    refine x_down _ (pn a) (fun i hi3 ih2 => ?_)
    intro r hr
    refine x_iload_n 0 d_X4_sumAt_4 rfl rfl ?_
    refine x_aload_n 2 d_X4_sumAt_5 rfl rfl ?_
    refine x_getr (j := 0) 42 x_c4 rfl (Nat.le_of_ble_eq_true rfl) q668 rfl d_X4_sumAt_6 ?_
    refine x_bipush (x := 7) d_X4_sumAt_9 (by decide) ?_
    refine x_ialdN (z := nI (pn a)) 58 7 rfl rfl (by omega) (by decide) ((hR 7 (by decide)).trans hn7) d_X4_sumAt_11 ?_
    refine x_icmp_ge 30 d_X4_sumAt_12 (by decide) (fun c4 => ?_) (fun c4 => ?_)
    · skip
      have hN := x_ge (N := pn a) c4 rfl rfl (by omega) (by omega)
      refine x_iload_n 1 d_X4_sumAt_30 rfl rfl ?_
      refine x_iret rfl d_X4_sumAt_31 ?_
      have e7 : i = pn a := by omega
      subst e7
      exact ⟨hr, rfl⟩
    · skip
      have hN := x_lt (N := pn a) c4 rfl rfl (by omega) (by omega)
      refine x_iload_n 1 d_X4_sumAt_15 rfl rfl ?_
      refine x_aload_n 2 d_X4_sumAt_16 rfl rfl ?_
      refine x_iload_n 0 d_X4_sumAt_17 rfl rfl ?_
      refine x_iload_n 3 d_X4_sumAt_18 rfl rfl ?_
      refine x_cvip (k := 41) (as := [.int (nI i), .int (nI k)]) (c_X4_brings l E μ hR hI (p := i) (k := k) (by omega) (by omega)) v_X4_brings w_X4_brings q747 o_M rfl ⟨Nat.le_of_ble_eq_true rfl, Nat.le_of_ble_eq_true rfl⟩ rfl (Nat.le_of_ble_eq_true rfl) d_X4_sumAt_19 ?_
      refine x_iadd d_X4_sumAt_22 ?_
      refine x_istore_n [(2, .int (r + (bringsF a i (nI k)))), (3, .int (nI i)), (0, .ref (E.1 + 41)), (1, .int (nI k))] d_X4_sumAt_23 rfl (Nat.le_of_ble_eq_true rfl) rfl ?_
      refine x_iinc [(3, .int (nI (i + 1))), (2, .int (r + (bringsF a i (nI k)))), (0, .ref (E.1 + 41)), (1, .int (nI k))] 1 d_X4_sumAt_24 rfl (x_inc _) (Nat.le_of_ble_eq_true rfl) rfl ?_
      refine x_goto 4 d_X4_sumAt_27 (by decide) ?_
      exact ih2 (i + 1) (by omega) (by omega) (r + (bringsF a i (nI k))) (by rw [hr, sumTo])
  exact L1 0 (by omega) 0 (by rfl)
def m_X4_isThere : x_M := (yX4_isThere, prog_6_method_19_code, 2, (some FieldType.boolean), 5, 115)
theorem v_X4_isThere : x_VM m_X4_isThere 1 := ⟨q773, q6, by decide +kernel, by decide +kernel, by decide +kernel⟩
theorem w_X4_isThere : x_VI m_X4_isThere := ⟨q772, qs27⟩
theorem d_X4_isThere_0 : x_dec m_X4_isThere 0 (.aload_n 0) 1 1 := ⟨by decide +kernel, rfl⟩
theorem d_X4_isThere_1 : x_dec m_X4_isThere 1 (.iload_n 1) 1 2 := ⟨by decide +kernel, rfl⟩
theorem d_X4_isThere_2 : x_dec m_X4_isThere 2 (.invokevirtual 71) 3 5 := ⟨by decide +kernel, rfl⟩
theorem d_X4_isThere_5 : x_dec m_X4_isThere 5 (.aload_n 0) 1 6 := ⟨by decide +kernel, rfl⟩
theorem d_X4_isThere_6 : x_dec m_X4_isThere 6 (.getfield 9) 3 9 := ⟨by decide +kernel, rfl⟩
theorem d_X4_isThere_9 : x_dec m_X4_isThere 9 (.bipush 8) 2 11 := ⟨by decide +kernel, rfl⟩
theorem d_X4_isThere_11 : x_dec m_X4_isThere 11 (.iload_n 1) 1 12 := ⟨by decide +kernel, rfl⟩
theorem d_X4_isThere_12 : x_dec m_X4_isThere 12 (.iadd) 1 13 := ⟨by decide +kernel, rfl⟩
theorem d_X4_isThere_13 : x_dec m_X4_isThere 13 (.iaload) 1 14 := ⟨by decide +kernel, rfl⟩
theorem d_X4_isThere_14 : x_dec m_X4_isThere 14 (.if_icmp .lt 7) 3 17 := ⟨by decide +kernel, rfl⟩
theorem d_X4_isThere_17 : x_dec m_X4_isThere 17 (.iconst 1) 1 18 := ⟨by decide +kernel, rfl⟩
theorem d_X4_isThere_18 : x_dec m_X4_isThere 18 (.goto 4) 3 21 := ⟨by decide +kernel, rfl⟩
theorem d_X4_isThere_21 : x_dec m_X4_isThere 21 (.iconst 0) 1 22 := ⟨by decide +kernel, rfl⟩
theorem d_X4_isThere_22 : x_dec m_X4_isThere 22 (.ireturn) 1 23 := ⟨by decide +kernel, rfl⟩
set_option maxHeartbeats 4000000 in
set_option maxRecDepth 100000 in
theorem c_X4_isThere (l : Launch) (E : x_E) (μ : x_Mem) {a : x_St} (hR : MR a μ) (hI : WF a) {k : Nat} (hk : k < 16) : x_Met l m_X4_isThere E [.ref (E.1 + 41), .int (nI k)] μ (x_I (fun z m => z = x_b (thereB a k) ∧ m = μ)) := by
  have hn7 := hI.2.1
  have hpn := hI.1
  refine x_enter (lv := [(0, .ref (E.1 + 41)), (1, .int (nI k))]) (by decide +kernel) (Nat.le_of_ble_eq_true rfl) rfl ?_
  refine x_aload_n 0 d_X4_isThere_0 rfl rfl ?_
  refine x_iload_n 1 d_X4_isThere_1 rfl rfl ?_
  refine x_cvip (k := 41) (as := [.int (nI k)]) (c_X4_sumAt l E μ hR hI (k := k) (by omega)) v_X4_sumAt w_X4_sumAt q743 o_M rfl ⟨Nat.le_of_ble_eq_true rfl, Nat.le_of_ble_eq_true rfl⟩ rfl (Nat.le_of_ble_eq_true rfl) d_X4_isThere_2 ?_
  refine x_aload_n 0 d_X4_isThere_5 rfl rfl ?_
  refine x_getr (j := 0) 42 x_c4 rfl (Nat.le_of_ble_eq_true rfl) q668 rfl d_X4_isThere_6 ?_
  refine x_bipush (x := 8) d_X4_isThere_9 (by decide) ?_
  refine x_iload_n 1 d_X4_isThere_11 rfl rfl ?_
  refine x_iadd d_X4_isThere_12 ?_
  rw [show (8 : Int32) + (nI k) = nI (8 + k) from nI_add 8 k]
  refine x_ialdN (z := a (8 + k)) 58 (8 + k) rfl rfl (by omega) (by decide) (hR (8 + k) (by omega)) d_X4_isThere_13 ?_
  refine x_icmp_lt 21 d_X4_isThere_14 (by decide) (fun c1 => ?_) (fun c1 => ?_)
  · skip
    refine x_iconst (x := 0) d_X4_isThere_21 (by decide) ?_
    refine x_zret0 rfl d_X4_isThere_22 ?_
    exact ⟨congrArg x_b (decide_eq_false (Int32.not_le.mpr c1)).symm, rfl⟩
  · skip
    refine x_iconst (x := 1) d_X4_isThere_17 (by decide) ?_
    refine x_goto 22 d_X4_isThere_18 (by decide) ?_
    refine x_zret1 rfl d_X4_isThere_22 ?_
    exact ⟨congrArg x_b (decide_eq_true (Int32.not_lt.mp c1)).symm, rfl⟩
def m_X4_allThere : x_M := (yX4_allThere, prog_6_method_20_code, 3, (some FieldType.int), 6, 136)
theorem v_X4_allThere : x_VM m_X4_allThere 0 := ⟨q850, q6, by decide +kernel, by decide +kernel, by decide +kernel⟩
theorem w_X4_allThere : x_VI m_X4_allThere := ⟨q849, qs37⟩
theorem d_X4_allThere_0 : x_dec m_X4_allThere 0 (.iconst 0) 1 1 := ⟨by decide +kernel, rfl⟩
theorem d_X4_allThere_1 : x_dec m_X4_allThere 1 (.istore_n 1) 1 2 := ⟨by decide +kernel, rfl⟩
theorem d_X4_allThere_2 : x_dec m_X4_allThere 2 (.iconst 0) 1 3 := ⟨by decide +kernel, rfl⟩
theorem d_X4_allThere_3 : x_dec m_X4_allThere 3 (.istore_n 2) 1 4 := ⟨by decide +kernel, rfl⟩
theorem d_X4_allThere_4 : x_dec m_X4_allThere 4 (.iload_n 2) 1 5 := ⟨by decide +kernel, rfl⟩
theorem d_X4_allThere_5 : x_dec m_X4_allThere 5 (.bipush 16) 2 7 := ⟨by decide +kernel, rfl⟩
theorem d_X4_allThere_7 : x_dec m_X4_allThere 7 (.if_icmp .ge 27) 3 10 := ⟨by decide +kernel, rfl⟩
theorem d_X4_allThere_10 : x_dec m_X4_allThere 10 (.iload_n 1) 1 11 := ⟨by decide +kernel, rfl⟩
theorem d_X4_allThere_11 : x_dec m_X4_allThere 11 (.aload_n 0) 1 12 := ⟨by decide +kernel, rfl⟩
theorem d_X4_allThere_12 : x_dec m_X4_allThere 12 (.iload_n 2) 1 13 := ⟨by decide +kernel, rfl⟩
theorem d_X4_allThere_13 : x_dec m_X4_allThere 13 (.invokevirtual 74) 3 16 := ⟨by decide +kernel, rfl⟩
theorem d_X4_allThere_16 : x_dec m_X4_allThere 16 (.ifCond .eq 9) 3 19 := ⟨by decide +kernel, rfl⟩
theorem d_X4_allThere_19 : x_dec m_X4_allThere 19 (.iconst 1) 1 20 := ⟨by decide +kernel, rfl⟩
theorem d_X4_allThere_20 : x_dec m_X4_allThere 20 (.iload_n 2) 1 21 := ⟨by decide +kernel, rfl⟩
theorem d_X4_allThere_21 : x_dec m_X4_allThere 21 (.ishl) 1 22 := ⟨by decide +kernel, rfl⟩
theorem d_X4_allThere_22 : x_dec m_X4_allThere 22 (.goto 4) 3 25 := ⟨by decide +kernel, rfl⟩
theorem d_X4_allThere_25 : x_dec m_X4_allThere 25 (.iconst 0) 1 26 := ⟨by decide +kernel, rfl⟩
theorem d_X4_allThere_26 : x_dec m_X4_allThere 26 (.ior) 1 27 := ⟨by decide +kernel, rfl⟩
theorem d_X4_allThere_27 : x_dec m_X4_allThere 27 (.istore_n 1) 1 28 := ⟨by decide +kernel, rfl⟩
theorem d_X4_allThere_28 : x_dec m_X4_allThere 28 (.iinc 2 1) 3 31 := ⟨by decide +kernel, rfl⟩
theorem d_X4_allThere_31 : x_dec m_X4_allThere 31 (.goto (-27)) 3 34 := ⟨by decide +kernel, rfl⟩
theorem d_X4_allThere_34 : x_dec m_X4_allThere 34 (.iload_n 1) 1 35 := ⟨by decide +kernel, rfl⟩
theorem d_X4_allThere_35 : x_dec m_X4_allThere 35 (.ireturn) 1 36 := ⟨by decide +kernel, rfl⟩
set_option maxHeartbeats 4000000 in
set_option maxRecDepth 100000 in
theorem c_X4_allThere (l : Launch) (E : x_E) (μ : x_Mem) {a : x_St} (hR : MR a μ) (hI : WF a) : x_Met l m_X4_allThere E [.ref (E.1 + 41)] μ (x_I (fun z m => z = thereF a ∧ m = μ)) := by
  have hn7 := hI.2.1
  have hpn := hI.1
  refine x_enter (lv := [(0, .ref (E.1 + 41))]) (by decide +kernel) (Nat.le_of_ble_eq_true rfl) rfl ?_
  refine x_iconst (x := 0) d_X4_allThere_0 (by decide) ?_
  refine x_istore_n [(1, .int 0), (0, .ref (E.1 + 41))] d_X4_allThere_1 rfl (Nat.le_of_ble_eq_true rfl) rfl ?_
  refine x_iconst (x := 0) d_X4_allThere_2 (by decide) ?_
  refine x_istore_n [(2, .int 0), (1, .int 0), (0, .ref (E.1 + 41))] d_X4_allThere_3 rfl (Nat.le_of_ble_eq_true rfl) rfl ?_
  have L1 : ∀ i : Nat, i ≤ 16 → ∀ r : Int32, (r = setTo (thereB a) i) → x_G l E m_X4_allThere (x_mv E m_X4_allThere (x_I (fun z m => z = thereF a ∧ m = μ))) μ 4 [(2, .int (nI i)), (1, .int r), (0, .ref (E.1 + 41))] [] := by
    refine x_down _ 16 (fun i hi3 ih2 => ?_)
    intro r hr
    refine x_iload_n 0 d_X4_allThere_4 rfl rfl ?_
    refine x_bipush (x := 16) d_X4_allThere_5 (by decide) ?_
    refine x_icmp_ge 34 d_X4_allThere_7 (by decide) (fun c4 => ?_) (fun c4 => ?_)
    · skip
      have hN := x_ge (N := 16) c4 rfl rfl (by omega) (by omega)
      refine x_iload_n 1 d_X4_allThere_34 rfl rfl ?_
      refine x_iret rfl d_X4_allThere_35 ?_
      have e7 : i = 16 := by omega
      subst e7
      exact ⟨hr, rfl⟩
    · skip
      have hN := x_lt (N := 16) c4 rfl rfl (by omega) (by omega)
      refine x_iload_n 1 d_X4_allThere_10 rfl rfl ?_
      refine x_aload_n 2 d_X4_allThere_11 rfl rfl ?_
      refine x_iload_n 0 d_X4_allThere_12 rfl rfl ?_
      refine x_cvip (k := 41) (as := [.int (nI i)]) (c_X4_isThere l E μ hR hI (k := i) (by omega)) v_X4_isThere w_X4_isThere q770 o_M rfl ⟨Nat.le_of_ble_eq_true rfl, Nat.le_of_ble_eq_true rfl⟩ rfl (Nat.le_of_ble_eq_true rfl) d_X4_allThere_13 ?_
      refine x_ifb_eq 25 d_X4_allThere_16 (by decide) (fun c5 => ?_) (fun c5 => ?_)
      · skip
        refine x_iconst (x := 0) d_X4_allThere_25 (by decide) ?_
        refine x_ior d_X4_allThere_26 ?_
        refine x_istore_n [(1, .int (r ||| 0)), (2, .int (nI i)), (0, .ref (E.1 + 41))] d_X4_allThere_27 rfl (Nat.le_of_ble_eq_true rfl) rfl ?_
        refine x_iinc [(2, .int (nI (i + 1))), (1, .int (r ||| 0)), (0, .ref (E.1 + 41))] 1 d_X4_allThere_28 rfl (x_inc _) (Nat.le_of_ble_eq_true rfl) rfl ?_
        refine x_goto 4 d_X4_allThere_31 (by decide) ?_
        exact ih2 (i + 1) (by omega) (by omega) (r ||| 0) (by rw [hr, setTo, if_neg (by rw [c5]; decide)]; exact or_0 _)
      · skip
        refine x_iconst (x := 1) d_X4_allThere_19 (by decide) ?_
        refine x_iload_n 0 d_X4_allThere_20 rfl rfl ?_
        refine x_ishl d_X4_allThere_21 ?_
        refine x_goto 26 d_X4_allThere_22 (by decide) ?_
        refine x_ior d_X4_allThere_26 ?_
        refine x_istore_n [(1, .int (r ||| (1 <<< ((nI i) &&& 31)))), (2, .int (nI i)), (0, .ref (E.1 + 41))] d_X4_allThere_27 rfl (Nat.le_of_ble_eq_true rfl) rfl ?_
        refine x_iinc [(2, .int (nI (i + 1))), (1, .int (r ||| (1 <<< ((nI i) &&& 31)))), (0, .ref (E.1 + 41))] 1 d_X4_allThere_28 rfl (x_inc _) (Nat.le_of_ble_eq_true rfl) rfl ?_
        refine x_goto 4 d_X4_allThere_31 (by decide) ?_
        exact ih2 (i + 1) (by omega) (by omega) (r ||| (1 <<< ((nI i) &&& 31))) (by rw [hr, setTo, if_pos c5])
  exact L1 0 (by omega) 0 (by rfl)
