def m_X3_isStretch : x_M := (yX3_isStretch, prog_1_method_58_code, 1, (some FieldType.boolean), 0, 0)
theorem v_X3_isStretch : x_VM m_X3_isStretch 1 := ⟨q178, q1, by decide +kernel, by decide +kernel, by decide +kernel⟩
theorem d_X3_isStretch_0 : x_dec m_X3_isStretch 0 (.iload_n 0) 1 1 := ⟨by decide +kernel, rfl⟩
theorem d_X3_isStretch_1 : x_dec m_X3_isStretch 1 (.ifCond .lt 13) 3 4 := ⟨by decide +kernel, rfl⟩
theorem d_X3_isStretch_4 : x_dec m_X3_isStretch 4 (.iload_n 0) 1 5 := ⟨by decide +kernel, rfl⟩
theorem d_X3_isStretch_5 : x_dec m_X3_isStretch 5 (.bipush 16) 2 7 := ⟨by decide +kernel, rfl⟩
theorem d_X3_isStretch_7 : x_dec m_X3_isStretch 7 (.if_icmp .ge 7) 3 10 := ⟨by decide +kernel, rfl⟩
theorem d_X3_isStretch_10 : x_dec m_X3_isStretch 10 (.iconst 1) 1 11 := ⟨by decide +kernel, rfl⟩
theorem d_X3_isStretch_11 : x_dec m_X3_isStretch 11 (.goto 4) 3 14 := ⟨by decide +kernel, rfl⟩
theorem d_X3_isStretch_14 : x_dec m_X3_isStretch 14 (.iconst 0) 1 15 := ⟨by decide +kernel, rfl⟩
theorem d_X3_isStretch_15 : x_dec m_X3_isStretch 15 (.ireturn) 1 16 := ⟨by decide +kernel, rfl⟩
set_option maxHeartbeats 4000000 in
set_option maxRecDepth 100000 in
theorem c_X3_isStretch (l : Launch) (E : x_E) (μ : x_Mem) (k : Int32) : x_Met l m_X3_isStretch E [.int k] μ (x_I (fun z m => z = x_b (inR k 0 15) ∧ m = μ)) := by
  refine x_enter (lv := [(0, .int k)]) (by decide +kernel) (Nat.le_of_ble_eq_true rfl) rfl ?_
  refine x_iload_n 0 d_X3_isStretch_0 rfl rfl ?_
  refine x_if_lt 14 d_X3_isStretch_1 (by decide) (fun c1 => ?_) (fun c1 => ?_)
  · skip
    refine x_iconst (x := 0) d_X3_isStretch_14 (by decide) ?_
    refine x_zret0 rfl d_X3_isStretch_15 ?_
    exact ⟨congrArg x_b (inR_f1 c1).symm, rfl⟩
  · skip
    refine x_iload_n 0 d_X3_isStretch_4 rfl rfl ?_
    refine x_bipush (x := 16) d_X3_isStretch_5 (by decide) ?_
    refine x_icmp_ge 14 d_X3_isStretch_7 (by decide) (fun c2 => ?_) (fun c2 => ?_)
    · skip
      refine x_iconst (x := 0) d_X3_isStretch_14 (by decide) ?_
      refine x_zret0 rfl d_X3_isStretch_15 ?_
      exact ⟨congrArg x_b (inR_f2 (n := 15) (by decide) c2).symm, rfl⟩
    · skip
      refine x_iconst (x := 1) d_X3_isStretch_10 (by decide) ?_
      refine x_goto 15 d_X3_isStretch_11 (by decide) ?_
      refine x_zret1 rfl d_X3_isStretch_15 ?_
      exact ⟨congrArg x_b (inR_t (n := 15) (by decide) c1 c2).symm, rfl⟩
def m_X3_isYard : x_M := (yX3_isYard, prog_1_method_59_code, 1, (some FieldType.boolean), 0, 0)
theorem v_X3_isYard : x_VM m_X3_isYard 1 := ⟨q249, q1, by decide +kernel, by decide +kernel, by decide +kernel⟩
theorem d_X3_isYard_0 : x_dec m_X3_isYard 0 (.iload_n 0) 1 1 := ⟨by decide +kernel, rfl⟩
theorem d_X3_isYard_1 : x_dec m_X3_isYard 1 (.ifCond .lt 13) 3 4 := ⟨by decide +kernel, rfl⟩
theorem d_X3_isYard_4 : x_dec m_X3_isYard 4 (.iload_n 0) 1 5 := ⟨by decide +kernel, rfl⟩
theorem d_X3_isYard_5 : x_dec m_X3_isYard 5 (.bipush 16) 2 7 := ⟨by decide +kernel, rfl⟩
theorem d_X3_isYard_7 : x_dec m_X3_isYard 7 (.if_icmp .gt 7) 3 10 := ⟨by decide +kernel, rfl⟩
theorem d_X3_isYard_10 : x_dec m_X3_isYard 10 (.iconst 1) 1 11 := ⟨by decide +kernel, rfl⟩
theorem d_X3_isYard_11 : x_dec m_X3_isYard 11 (.goto 4) 3 14 := ⟨by decide +kernel, rfl⟩
theorem d_X3_isYard_14 : x_dec m_X3_isYard 14 (.iconst 0) 1 15 := ⟨by decide +kernel, rfl⟩
theorem d_X3_isYard_15 : x_dec m_X3_isYard 15 (.ireturn) 1 16 := ⟨by decide +kernel, rfl⟩
set_option maxHeartbeats 4000000 in
set_option maxRecDepth 100000 in
theorem c_X3_isYard (l : Launch) (E : x_E) (μ : x_Mem) (k : Int32) : x_Met l m_X3_isYard E [.int k] μ (x_I (fun z m => z = x_b (inR k 0 16) ∧ m = μ)) := by
  refine x_enter (lv := [(0, .int k)]) (by decide +kernel) (Nat.le_of_ble_eq_true rfl) rfl ?_
  refine x_iload_n 0 d_X3_isYard_0 rfl rfl ?_
  refine x_if_lt 14 d_X3_isYard_1 (by decide) (fun c1 => ?_) (fun c1 => ?_)
  · skip
    refine x_iconst (x := 0) d_X3_isYard_14 (by decide) ?_
    refine x_zret0 rfl d_X3_isYard_15 ?_
    exact ⟨congrArg x_b (inR_f1 c1).symm, rfl⟩
  · skip
    refine x_iload_n 0 d_X3_isYard_4 rfl rfl ?_
    refine x_bipush (x := 16) d_X3_isYard_5 (by decide) ?_
    refine x_icmp_gt 14 d_X3_isYard_7 (by decide) (fun c2 => ?_) (fun c2 => ?_)
    · skip
      refine x_iconst (x := 0) d_X3_isYard_14 (by decide) ?_
      refine x_zret0 rfl d_X3_isYard_15 ?_
      exact ⟨congrArg x_b (inR_f2 (n := 16) (by decide) c2).symm, rfl⟩
    · skip
      refine x_iconst (x := 1) d_X3_isYard_10 (by decide) ?_
      refine x_goto 15 d_X3_isYard_11 (by decide) ?_
      refine x_zret1 rfl d_X3_isYard_15 ?_
      exact ⟨congrArg x_b (inR_t (n := 16) (by decide) c1 c2).symm, rfl⟩
def m_X3_isKind : x_M := (yX3_isKind, prog_1_method_60_code, 1, (some FieldType.boolean), 0, 0)
theorem v_X3_isKind : x_VM m_X3_isKind 1 := ⟨q224, q1, by decide +kernel, by decide +kernel, by decide +kernel⟩
theorem d_X3_isKind_0 : x_dec m_X3_isKind 0 (.iload_n 0) 1 1 := ⟨by decide +kernel, rfl⟩
theorem d_X3_isKind_1 : x_dec m_X3_isKind 1 (.ifCond .lt 13) 3 4 := ⟨by decide +kernel, rfl⟩
theorem d_X3_isKind_4 : x_dec m_X3_isKind 4 (.iload_n 0) 1 5 := ⟨by decide +kernel, rfl⟩
theorem d_X3_isKind_5 : x_dec m_X3_isKind 5 (.bipush 7) 2 7 := ⟨by decide +kernel, rfl⟩
theorem d_X3_isKind_7 : x_dec m_X3_isKind 7 (.if_icmp .ge 7) 3 10 := ⟨by decide +kernel, rfl⟩
theorem d_X3_isKind_10 : x_dec m_X3_isKind 10 (.iconst 1) 1 11 := ⟨by decide +kernel, rfl⟩
theorem d_X3_isKind_11 : x_dec m_X3_isKind 11 (.goto 4) 3 14 := ⟨by decide +kernel, rfl⟩
theorem d_X3_isKind_14 : x_dec m_X3_isKind 14 (.iconst 0) 1 15 := ⟨by decide +kernel, rfl⟩
theorem d_X3_isKind_15 : x_dec m_X3_isKind 15 (.ireturn) 1 16 := ⟨by decide +kernel, rfl⟩
set_option maxHeartbeats 4000000 in
set_option maxRecDepth 100000 in
theorem c_X3_isKind (l : Launch) (E : x_E) (μ : x_Mem) (k : Int32) : x_Met l m_X3_isKind E [.int k] μ (x_I (fun z m => z = x_b (inR k 0 6) ∧ m = μ)) := by
  refine x_enter (lv := [(0, .int k)]) (by decide +kernel) (Nat.le_of_ble_eq_true rfl) rfl ?_
  refine x_iload_n 0 d_X3_isKind_0 rfl rfl ?_
  refine x_if_lt 14 d_X3_isKind_1 (by decide) (fun c1 => ?_) (fun c1 => ?_)
  · skip
    refine x_iconst (x := 0) d_X3_isKind_14 (by decide) ?_
    refine x_zret0 rfl d_X3_isKind_15 ?_
    exact ⟨congrArg x_b (inR_f1 c1).symm, rfl⟩
  · skip
    refine x_iload_n 0 d_X3_isKind_4 rfl rfl ?_
    refine x_bipush (x := 7) d_X3_isKind_5 (by decide) ?_
    refine x_icmp_ge 14 d_X3_isKind_7 (by decide) (fun c2 => ?_) (fun c2 => ?_)
    · skip
      refine x_iconst (x := 0) d_X3_isKind_14 (by decide) ?_
      refine x_zret0 rfl d_X3_isKind_15 ?_
      exact ⟨congrArg x_b (inR_f2 (n := 6) (by decide) c2).symm, rfl⟩
    · skip
      refine x_iconst (x := 1) d_X3_isKind_10 (by decide) ?_
      refine x_goto 15 d_X3_isKind_11 (by decide) ?_
      refine x_zret1 rfl d_X3_isKind_15 ?_
      exact ⟨congrArg x_b (inR_t (n := 6) (by decide) c1 c2).symm, rfl⟩
def m_X3_isRide : x_M := (yX3_isRide, prog_1_method_61_code, 1, (some FieldType.boolean), 0, 0)
theorem v_X3_isRide : x_VM m_X3_isRide 1 := ⟨q345, q1, by decide +kernel, by decide +kernel, by decide +kernel⟩
theorem d_X3_isRide_0 : x_dec m_X3_isRide 0 (.iload_n 0) 1 1 := ⟨by decide +kernel, rfl⟩
theorem d_X3_isRide_1 : x_dec m_X3_isRide 1 (.ifCond .lt 13) 3 4 := ⟨by decide +kernel, rfl⟩
theorem d_X3_isRide_4 : x_dec m_X3_isRide 4 (.iload_n 0) 1 5 := ⟨by decide +kernel, rfl⟩
theorem d_X3_isRide_5 : x_dec m_X3_isRide 5 (.bipush 60) 2 7 := ⟨by decide +kernel, rfl⟩
theorem d_X3_isRide_7 : x_dec m_X3_isRide 7 (.if_icmp .gt 7) 3 10 := ⟨by decide +kernel, rfl⟩
theorem d_X3_isRide_10 : x_dec m_X3_isRide 10 (.iconst 1) 1 11 := ⟨by decide +kernel, rfl⟩
theorem d_X3_isRide_11 : x_dec m_X3_isRide 11 (.goto 4) 3 14 := ⟨by decide +kernel, rfl⟩
theorem d_X3_isRide_14 : x_dec m_X3_isRide 14 (.iconst 0) 1 15 := ⟨by decide +kernel, rfl⟩
theorem d_X3_isRide_15 : x_dec m_X3_isRide 15 (.ireturn) 1 16 := ⟨by decide +kernel, rfl⟩
set_option maxHeartbeats 4000000 in
set_option maxRecDepth 100000 in
theorem c_X3_isRide (l : Launch) (E : x_E) (μ : x_Mem) (k : Int32) : x_Met l m_X3_isRide E [.int k] μ (x_I (fun z m => z = x_b (inR k 0 60) ∧ m = μ)) := by
  refine x_enter (lv := [(0, .int k)]) (by decide +kernel) (Nat.le_of_ble_eq_true rfl) rfl ?_
  refine x_iload_n 0 d_X3_isRide_0 rfl rfl ?_
  refine x_if_lt 14 d_X3_isRide_1 (by decide) (fun c1 => ?_) (fun c1 => ?_)
  · skip
    refine x_iconst (x := 0) d_X3_isRide_14 (by decide) ?_
    refine x_zret0 rfl d_X3_isRide_15 ?_
    exact ⟨congrArg x_b (inR_f1 c1).symm, rfl⟩
  · skip
    refine x_iload_n 0 d_X3_isRide_4 rfl rfl ?_
    refine x_bipush (x := 60) d_X3_isRide_5 (by decide) ?_
    refine x_icmp_gt 14 d_X3_isRide_7 (by decide) (fun c2 => ?_) (fun c2 => ?_)
    · skip
      refine x_iconst (x := 0) d_X3_isRide_14 (by decide) ?_
      refine x_zret0 rfl d_X3_isRide_15 ?_
      exact ⟨congrArg x_b (inR_f2 (n := 60) (by decide) c2).symm, rfl⟩
    · skip
      refine x_iconst (x := 1) d_X3_isRide_10 (by decide) ?_
      refine x_goto 15 d_X3_isRide_11 (by decide) ?_
      refine x_zret1 rfl d_X3_isRide_15 ?_
      exact ⟨congrArg x_b (inR_t (n := 60) (by decide) c1 c2).symm, rfl⟩
def m_X3_isSpot : x_M := (yX3_isSpot, prog_1_method_62_code, 1, (some FieldType.boolean), 0, 0)
theorem v_X3_isSpot : x_VM m_X3_isSpot 1 := ⟨q592, q1, by decide +kernel, by decide +kernel, by decide +kernel⟩
theorem d_X3_isSpot_0 : x_dec m_X3_isSpot 0 (.iload_n 0) 1 1 := ⟨by decide +kernel, rfl⟩
theorem d_X3_isSpot_1 : x_dec m_X3_isSpot 1 (.ifCond .lt 13) 3 4 := ⟨by decide +kernel, rfl⟩
theorem d_X3_isSpot_4 : x_dec m_X3_isSpot 4 (.iload_n 0) 1 5 := ⟨by decide +kernel, rfl⟩
theorem d_X3_isSpot_5 : x_dec m_X3_isSpot 5 (.bipush 10) 2 7 := ⟨by decide +kernel, rfl⟩
theorem d_X3_isSpot_7 : x_dec m_X3_isSpot 7 (.if_icmp .ge 7) 3 10 := ⟨by decide +kernel, rfl⟩
theorem d_X3_isSpot_10 : x_dec m_X3_isSpot 10 (.iconst 1) 1 11 := ⟨by decide +kernel, rfl⟩
theorem d_X3_isSpot_11 : x_dec m_X3_isSpot 11 (.goto 4) 3 14 := ⟨by decide +kernel, rfl⟩
theorem d_X3_isSpot_14 : x_dec m_X3_isSpot 14 (.iconst 0) 1 15 := ⟨by decide +kernel, rfl⟩
theorem d_X3_isSpot_15 : x_dec m_X3_isSpot 15 (.ireturn) 1 16 := ⟨by decide +kernel, rfl⟩
set_option maxHeartbeats 4000000 in
set_option maxRecDepth 100000 in
theorem c_X3_isSpot (l : Launch) (E : x_E) (μ : x_Mem) (k : Int32) : x_Met l m_X3_isSpot E [.int k] μ (x_I (fun z m => z = x_b (inR k 0 9) ∧ m = μ)) := by
  refine x_enter (lv := [(0, .int k)]) (by decide +kernel) (Nat.le_of_ble_eq_true rfl) rfl ?_
  refine x_iload_n 0 d_X3_isSpot_0 rfl rfl ?_
  refine x_if_lt 14 d_X3_isSpot_1 (by decide) (fun c1 => ?_) (fun c1 => ?_)
  · skip
    refine x_iconst (x := 0) d_X3_isSpot_14 (by decide) ?_
    refine x_zret0 rfl d_X3_isSpot_15 ?_
    exact ⟨congrArg x_b (inR_f1 c1).symm, rfl⟩
  · skip
    refine x_iload_n 0 d_X3_isSpot_4 rfl rfl ?_
    refine x_bipush (x := 10) d_X3_isSpot_5 (by decide) ?_
    refine x_icmp_ge 14 d_X3_isSpot_7 (by decide) (fun c2 => ?_) (fun c2 => ?_)
    · skip
      refine x_iconst (x := 0) d_X3_isSpot_14 (by decide) ?_
      refine x_zret0 rfl d_X3_isSpot_15 ?_
      exact ⟨congrArg x_b (inR_f2 (n := 9) (by decide) c2).symm, rfl⟩
    · skip
      refine x_iconst (x := 1) d_X3_isSpot_10 (by decide) ?_
      refine x_goto 15 d_X3_isSpot_11 (by decide) ?_
      refine x_zret1 rfl d_X3_isSpot_15 ?_
      exact ⟨congrArg x_b (inR_t (n := 9) (by decide) c1 c2).symm, rfl⟩
def m_X3_isWithin : x_M := (yX3_isWithin, prog_1_method_57_code, 3, (some FieldType.boolean), 0, 0)
theorem v_X3_isWithin : x_VM m_X3_isWithin 3 := ⟨q181, q1, by decide +kernel, by decide +kernel, by decide +kernel⟩
theorem d_X3_isWithin_0 : x_dec m_X3_isWithin 0 (.iload_n 0) 1 1 := ⟨by decide +kernel, rfl⟩
theorem d_X3_isWithin_1 : x_dec m_X3_isWithin 1 (.iload_n 1) 1 2 := ⟨by decide +kernel, rfl⟩
theorem d_X3_isWithin_2 : x_dec m_X3_isWithin 2 (.if_icmp .lt 12) 3 5 := ⟨by decide +kernel, rfl⟩
theorem d_X3_isWithin_5 : x_dec m_X3_isWithin 5 (.iload_n 0) 1 6 := ⟨by decide +kernel, rfl⟩
theorem d_X3_isWithin_6 : x_dec m_X3_isWithin 6 (.iload_n 2) 1 7 := ⟨by decide +kernel, rfl⟩
theorem d_X3_isWithin_7 : x_dec m_X3_isWithin 7 (.if_icmp .gt 7) 3 10 := ⟨by decide +kernel, rfl⟩
theorem d_X3_isWithin_10 : x_dec m_X3_isWithin 10 (.iconst 1) 1 11 := ⟨by decide +kernel, rfl⟩
theorem d_X3_isWithin_11 : x_dec m_X3_isWithin 11 (.goto 4) 3 14 := ⟨by decide +kernel, rfl⟩
theorem d_X3_isWithin_14 : x_dec m_X3_isWithin 14 (.iconst 0) 1 15 := ⟨by decide +kernel, rfl⟩
theorem d_X3_isWithin_15 : x_dec m_X3_isWithin 15 (.ireturn) 1 16 := ⟨by decide +kernel, rfl⟩
set_option maxHeartbeats 4000000 in
set_option maxRecDepth 100000 in
theorem c_X3_isWithin (l : Launch) (E : x_E) (μ : x_Mem) (k lo hi : Int32) : x_Met l m_X3_isWithin E [.int k, .int lo, .int hi] μ (x_I (fun z m => z = x_b (inR k lo hi) ∧ m = μ)) := by
  refine x_enter (lv := [(0, .int k), (1, .int lo), (2, .int hi)]) (by decide +kernel) (Nat.le_of_ble_eq_true rfl) rfl ?_
  refine x_iload_n 0 d_X3_isWithin_0 rfl rfl ?_
  refine x_iload_n 1 d_X3_isWithin_1 rfl rfl ?_
  refine x_icmp_lt 14 d_X3_isWithin_2 (by decide) (fun c1 => ?_) (fun c1 => ?_)
  · skip
    refine x_iconst (x := 0) d_X3_isWithin_14 (by decide) ?_
    refine x_zret0 rfl d_X3_isWithin_15 ?_
    exact ⟨congrArg x_b (inR_w1 c1).symm, rfl⟩
  · skip
    refine x_iload_n 0 d_X3_isWithin_5 rfl rfl ?_
    refine x_iload_n 2 d_X3_isWithin_6 rfl rfl ?_
    refine x_icmp_gt 14 d_X3_isWithin_7 (by decide) (fun c2 => ?_) (fun c2 => ?_)
    · skip
      refine x_iconst (x := 0) d_X3_isWithin_14 (by decide) ?_
      refine x_zret0 rfl d_X3_isWithin_15 ?_
      exact ⟨congrArg x_b (inR_w2 c2).symm, rfl⟩
    · skip
      refine x_iconst (x := 1) d_X3_isWithin_10 (by decide) ?_
      refine x_goto 15 d_X3_isWithin_11 (by decide) ?_
      refine x_zret1 rfl d_X3_isWithin_15 ?_
      exact ⟨congrArg x_b (inR_w3 c1 c2).symm, rfl⟩
def m_X3_isPerson : x_M := (yX3_isPerson, prog_1_method_63_code, 2, (some FieldType.boolean), 0, 0)
theorem v_X3_isPerson : x_VM m_X3_isPerson 1 := ⟨q237, q1, by decide +kernel, by decide +kernel, by decide +kernel⟩
theorem w_X3_isPerson : x_VI m_X3_isPerson := ⟨q236, qs2⟩
theorem d_X3_isPerson_0 : x_dec m_X3_isPerson 0 (.iload_n 1) 1 1 := ⟨by decide +kernel, rfl⟩
theorem d_X3_isPerson_1 : x_dec m_X3_isPerson 1 (.ifCond .lt 18) 3 4 := ⟨by decide +kernel, rfl⟩
theorem d_X3_isPerson_4 : x_dec m_X3_isPerson 4 (.iload_n 1) 1 5 := ⟨by decide +kernel, rfl⟩
theorem d_X3_isPerson_5 : x_dec m_X3_isPerson 5 (.aload_n 0) 1 6 := ⟨by decide +kernel, rfl⟩
theorem d_X3_isPerson_6 : x_dec m_X3_isPerson 6 (.getfield 12) 3 9 := ⟨by decide +kernel, rfl⟩
theorem d_X3_isPerson_9 : x_dec m_X3_isPerson 9 (.getfield 72) 3 12 := ⟨by decide +kernel, rfl⟩
theorem d_X3_isPerson_12 : x_dec m_X3_isPerson 12 (.if_icmp .ge 7) 3 15 := ⟨by decide +kernel, rfl⟩
theorem d_X3_isPerson_15 : x_dec m_X3_isPerson 15 (.iconst 1) 1 16 := ⟨by decide +kernel, rfl⟩
theorem d_X3_isPerson_16 : x_dec m_X3_isPerson 16 (.goto 4) 3 19 := ⟨by decide +kernel, rfl⟩
theorem d_X3_isPerson_19 : x_dec m_X3_isPerson 19 (.iconst 0) 1 20 := ⟨by decide +kernel, rfl⟩
theorem d_X3_isPerson_20 : x_dec m_X3_isPerson 20 (.ireturn) 1 21 := ⟨by decide +kernel, rfl⟩
set_option maxHeartbeats 4000000 in
set_option maxRecDepth 100000 in
theorem c_X3_isPerson (l : Launch) (E : x_E) (μ : x_Mem) {a : x_St} (hL : PR a 1 μ) (k : Int32) : x_Met l m_X3_isPerson E [.ref (E.1 + 0), .int k] μ (x_I (fun z m => z = x_b (isP a k) ∧ m = μ)) := by
  refine x_enter (lv := [(0, .ref (E.1 + 0)), (1, .int k)]) (by decide +kernel) (Nat.le_of_ble_eq_true rfl) rfl ?_
  refine x_iload_n 1 d_X3_isPerson_0 rfl rfl ?_
  refine x_if_lt 19 d_X3_isPerson_1 (by decide) (fun c1 => ?_) (fun c1 => ?_)
  · skip
    refine x_iconst (x := 0) d_X3_isPerson_19 (by decide) ?_
    refine x_zret0 rfl d_X3_isPerson_20 ?_
    exact ⟨congrArg x_b (isP_f1 c1).symm, rfl⟩
  · skip
    refine x_iload_n 1 d_X3_isPerson_4 rfl rfl ?_
    refine x_aload_n 0 d_X3_isPerson_5 rfl rfl ?_
    refine x_getr (j := 0) 1 x_c3 rfl (Nat.le_of_ble_eq_true rfl) q147 rfl d_X3_isPerson_6 ?_
    refine x_getiV (j := 5) (z := a 7) x_c0 (p_kd x_pr1) (Nat.le_of_ble_eq_true rfl) q43 (p_n5 x_pr1) (PR.f5 hL) d_X3_isPerson_9 ?_
    refine x_icmp_ge 19 d_X3_isPerson_12 (by decide) (fun c2 => ?_) (fun c2 => ?_)
    · skip
      refine x_iconst (x := 0) d_X3_isPerson_19 (by decide) ?_
      refine x_zret0 rfl d_X3_isPerson_20 ?_
      exact ⟨congrArg x_b (isP_f2 c2).symm, rfl⟩
    · skip
      refine x_iconst (x := 1) d_X3_isPerson_15 (by decide) ?_
      refine x_goto 20 d_X3_isPerson_16 (by decide) ?_
      refine x_zret1 rfl d_X3_isPerson_20 ?_
      exact ⟨congrArg x_b (isP_t c1 c2).symm, rfl⟩
def m_X3_finding : x_M := (yX3_finding, prog_1_method_56_code, 3, (some FieldType.int), 0, 0)
theorem v_X3_finding : x_VM m_X3_finding 1 := ⟨q186, q1, by decide +kernel, by decide +kernel, by decide +kernel⟩
theorem w_X3_finding : x_VI m_X3_finding := ⟨q185, qs0⟩
theorem d_X3_finding_0 : x_dec m_X3_finding 0 (.ldc 55) 2 2 := ⟨by decide +kernel, rfl⟩
theorem d_X3_finding_2 : x_dec m_X3_finding 2 (.iload_n 1) 1 3 := ⟨by decide +kernel, rfl⟩
theorem d_X3_finding_3 : x_dec m_X3_finding 3 (.isub) 1 4 := ⟨by decide +kernel, rfl⟩
theorem d_X3_finding_4 : x_dec m_X3_finding 4 (.istore_n 2) 1 5 := ⟨by decide +kernel, rfl⟩
theorem d_X3_finding_5 : x_dec m_X3_finding 5 (.iload_n 2) 1 6 := ⟨by decide +kernel, rfl⟩
theorem d_X3_finding_6 : x_dec m_X3_finding 6 (.ifCond .lt 19) 3 9 := ⟨by decide +kernel, rfl⟩
theorem d_X3_finding_9 : x_dec m_X3_finding 9 (.iload_n 2) 1 10 := ⟨by decide +kernel, rfl⟩
theorem d_X3_finding_10 : x_dec m_X3_finding 10 (.bipush 7) 2 12 := ⟨by decide +kernel, rfl⟩
theorem d_X3_finding_12 : x_dec m_X3_finding 12 (.if_icmp .ge 13) 3 15 := ⟨by decide +kernel, rfl⟩
theorem d_X3_finding_15 : x_dec m_X3_finding 15 (.aload_n 0) 1 16 := ⟨by decide +kernel, rfl⟩
theorem d_X3_finding_16 : x_dec m_X3_finding 16 (.getfield 43) 3 19 := ⟨by decide +kernel, rfl⟩
theorem d_X3_finding_19 : x_dec m_X3_finding 19 (.iload_n 2) 1 20 := ⟨by decide +kernel, rfl⟩
theorem d_X3_finding_20 : x_dec m_X3_finding 20 (.dup2) 1 21 := ⟨by decide +kernel, rfl⟩
theorem d_X3_finding_21 : x_dec m_X3_finding 21 (.iaload) 1 22 := ⟨by decide +kernel, rfl⟩
theorem d_X3_finding_22 : x_dec m_X3_finding 22 (.iconst 1) 1 23 := ⟨by decide +kernel, rfl⟩
theorem d_X3_finding_23 : x_dec m_X3_finding 23 (.iadd) 1 24 := ⟨by decide +kernel, rfl⟩
theorem d_X3_finding_24 : x_dec m_X3_finding 24 (.iastore) 1 25 := ⟨by decide +kernel, rfl⟩
theorem d_X3_finding_25 : x_dec m_X3_finding 25 (.iload_n 1) 1 26 := ⟨by decide +kernel, rfl⟩
theorem d_X3_finding_26 : x_dec m_X3_finding 26 (.ireturn) 1 27 := ⟨by decide +kernel, rfl⟩
set_option maxHeartbeats 4000000 in
set_option maxRecDepth 100000 in
theorem c_X3_finding (l : Launch) (E : x_E) (μ : x_Mem) {f : Nat → Int32} {i : Nat} (hD : XD f μ) (hi : i < 7) {w : Int32} (hw : (-1000001 : Int32) - w = nI i) : x_Met l m_X3_finding E [.ref (E.1 + 0), .int w] μ (x_I (fun z m => z = w ∧ XD (upd f i (f i + 1)) m ∧ ∀ id, id ≠ 32 → m id = μ id)) := by
  have hF : ∀ id, id ≠ 32 → μ id = μ id := fun _ _ => rfl
  refine x_enter (lv := [(0, .ref (E.1 + 0)), (1, .int w)]) (by decide +kernel) (Nat.le_of_ble_eq_true rfl) rfl ?_
  refine x_ldc q182 d_X3_finding_0 ?_
  refine x_iload_n 1 d_X3_finding_2 rfl rfl ?_
  refine x_isub d_X3_finding_3 ?_
  rw [hw]
  refine x_istore_n [(2, .int (nI i)), (0, .ref (E.1 + 0)), (1, .int w)] d_X3_finding_4 rfl (Nat.le_of_ble_eq_true rfl) rfl ?_
  refine x_iload_n 0 d_X3_finding_5 rfl rfl ?_
  refine x_if_lt 25 d_X3_finding_6 (by decide) (fun c1 => ?_) (fun c1 => ?_)
  · skip
    exact absurd c1 (nI_pos (by omega))
  · skip
    refine x_iload_n 0 d_X3_finding_9 rfl rfl ?_
    refine x_bipush (x := 7) d_X3_finding_10 (by decide) ?_
    refine x_icmp_ge 25 d_X3_finding_12 (by decide) (fun c2 => ?_) (fun c2 => ?_)
    · skip
      exact absurd (x_ge (N := 7) c2 rfl rfl (by omega) (by omega)) (by omega)
    · skip
      refine x_aload_n 1 d_X3_finding_15 rfl rfl ?_
      refine x_getr (j := 7) 32 x_c3 rfl (Nat.le_of_ble_eq_true rfl) q154 rfl d_X3_finding_16 ?_
      refine x_iload_n 0 d_X3_finding_19 rfl rfl ?_
      refine x_dup2 d_X3_finding_20 rfl rfl ?_
      refine x_ialdN (z := f i) 7 i rfl rfl (by omega) (by decide) (hD i (by omega)) d_X3_finding_21 ?_
      refine x_iconst (x := 1) d_X3_finding_22 (by decide) ?_
      refine x_iadd d_X3_finding_23 ?_
      refine x_iastNG 7 i rfl rfl (by omega) (by decide) d_X3_finding_24 (fun μ3 eμ3 => ?_)
      have hD4 : XD (upd f i ((f i) + 1)) μ3 := XD.w hD eμ3
      have hF5 : ∀ id, id ≠ 32 → μ3 id = μ id := fun id hid => (show μ3 id = μ id from (by rw [eμ3, upd2_ne _ _ _ (by omega)])).trans (hF id hid)
      refine x_iload_n 2 d_X3_finding_25 rfl rfl ?_
      refine x_iret rfl d_X3_finding_26 ?_
      exact ⟨rfl, hD4, hF5⟩
def m_X3_need : x_M := (yX3_need, prog_1_method_2_code, 4, (some FieldType.int), 1, 22)
theorem v_X3_need : x_VM m_X3_need 2 := ⟨q175, q1, by decide +kernel, by decide +kernel, by decide +kernel⟩
theorem w_X3_need : x_VI m_X3_need := ⟨q173, q174⟩
theorem d_X3_need_0 : x_dec m_X3_need 0 (.iload_n 1) 1 1 := ⟨by decide +kernel, rfl⟩
theorem d_X3_need_1 : x_dec m_X3_need 1 (.invokestatic 47) 3 4 := ⟨by decide +kernel, rfl⟩
theorem d_X3_need_4 : x_dec m_X3_need 4 (.ifCond .eq 14) 3 7 := ⟨by decide +kernel, rfl⟩
theorem d_X3_need_7 : x_dec m_X3_need 7 (.iload_n 2) 1 8 := ⟨by decide +kernel, rfl⟩
theorem d_X3_need_8 : x_dec m_X3_need 8 (.iconst 0) 1 9 := ⟨by decide +kernel, rfl⟩
theorem d_X3_need_9 : x_dec m_X3_need 9 (.sipush 999) 3 12 := ⟨by decide +kernel, rfl⟩
theorem d_X3_need_12 : x_dec m_X3_need 12 (.invokestatic 51) 3 15 := ⟨by decide +kernel, rfl⟩
theorem d_X3_need_15 : x_dec m_X3_need 15 (.ifCond .ne 10) 3 18 := ⟨by decide +kernel, rfl⟩
theorem d_X3_need_18 : x_dec m_X3_need 18 (.aload_n 0) 1 19 := ⟨by decide +kernel, rfl⟩
theorem d_X3_need_19 : x_dec m_X3_need 19 (.ldc 55) 2 21 := ⟨by decide +kernel, rfl⟩
theorem d_X3_need_21 : x_dec m_X3_need 21 (.invokevirtual 56) 3 24 := ⟨by decide +kernel, rfl⟩
theorem d_X3_need_24 : x_dec m_X3_need 24 (.ireturn) 1 25 := ⟨by decide +kernel, rfl⟩
theorem d_X3_need_25 : x_dec m_X3_need 25 (.aload_n 0) 1 26 := ⟨by decide +kernel, rfl⟩
theorem d_X3_need_26 : x_dec m_X3_need 26 (.getfield 12) 3 29 := ⟨by decide +kernel, rfl⟩
theorem d_X3_need_29 : x_dec m_X3_need 29 (.getfield 60) 3 32 := ⟨by decide +kernel, rfl⟩
theorem d_X3_need_32 : x_dec m_X3_need 32 (.iload_n 1) 1 33 := ⟨by decide +kernel, rfl⟩
theorem d_X3_need_33 : x_dec m_X3_need 33 (.iaload) 1 34 := ⟨by decide +kernel, rfl⟩
theorem d_X3_need_34 : x_dec m_X3_need 34 (.istore_n 3) 1 35 := ⟨by decide +kernel, rfl⟩
theorem d_X3_need_35 : x_dec m_X3_need 35 (.aload_n 0) 1 36 := ⟨by decide +kernel, rfl⟩
theorem d_X3_need_36 : x_dec m_X3_need 36 (.getfield 12) 3 39 := ⟨by decide +kernel, rfl⟩
theorem d_X3_need_39 : x_dec m_X3_need 39 (.getfield 60) 3 42 := ⟨by decide +kernel, rfl⟩
theorem d_X3_need_42 : x_dec m_X3_need 42 (.iload_n 1) 1 43 := ⟨by decide +kernel, rfl⟩
theorem d_X3_need_43 : x_dec m_X3_need 43 (.iload_n 2) 1 44 := ⟨by decide +kernel, rfl⟩
theorem d_X3_need_44 : x_dec m_X3_need 44 (.iastore) 1 45 := ⟨by decide +kernel, rfl⟩
theorem d_X3_need_45 : x_dec m_X3_need 45 (.iload_n 3) 1 46 := ⟨by decide +kernel, rfl⟩
theorem d_X3_need_46 : x_dec m_X3_need 46 (.ireturn) 1 47 := ⟨by decide +kernel, rfl⟩
set_option maxHeartbeats 4000000 in
set_option maxRecDepth 100000 in
theorem c_X3_need (l : Launch) (E : x_E) (μ : x_Mem) (g : x_SG) (hS : XS g μ) (hI : Inv g) (k v : Int32) : x_Met l m_X3_need E [.ref (E.1 + 0), .int k, .int v] μ (x_I (fun z m => z = (F_need g k v).1 ∧ XS (F_need g k v).2 m ∧ ∀ id, 41 ≤ id → m id = μ id)) := by
  obtain ⟨hL, hH, hX, hD⟩ := hS
  have hWF := hI.1.1
  have hn7 := hWF.2.1
  have hpn := hWF.1
  have hF : ∀ id, 41 ≤ id → μ id = μ id := fun _ _ => rfl
  refine x_enter (lv := [(0, .ref (E.1 + 0)), (1, .int k), (2, .int v)]) (by decide +kernel) (Nat.le_of_ble_eq_true rfl) rfl ?_
  refine x_iload_n 1 d_X3_need_0 rfl rfl ?_
  refine x_csip (as := [.int k]) (c_X3_isStretch l E μ k) v_X3_isStretch q177 q176 rfl ⟨Nat.le_of_ble_eq_true rfl, Nat.le_of_ble_eq_true rfl⟩ rfl (Nat.le_of_ble_eq_true rfl) d_X3_need_1 ?_
  refine x_ifb_eq 18 d_X3_need_4 (by decide) (fun c1 => ?_) (fun c1 => ?_)
  · skip
    refine x_aload_n 0 d_X3_need_18 rfl rfl ?_
    refine x_ldc q182 d_X3_need_19 ?_
    refine x_cvi (k := 0) (as := [.int (-1000001)]) (c_X3_finding l E μ (i := 0) hD (by decide) (w := (-1000001)) (by decide)) v_X3_finding w_X3_finding q183 o_X rfl ⟨Nat.le_of_ble_eq_true rfl, Nat.le_of_ble_eq_true rfl⟩ rfl (Nat.le_of_ble_eq_true rfl) d_X3_need_21 ?_
    rintro _ μ2 ⟨rfl, hD3, hF4⟩
    have hL5 := PR.cg hL (μ' := μ2) (fun id hid => (hF4 _ (by omega)))
    have hLH6 := hH
    rw [← (show μ2 1 = μ 1 from (hF4 _ (by omega)))] at hLH6
    have hX7 := XR.cg hX (μ' := μ2) (fun id hid => (hF4 _ (by omega)))
    have hF8 : ∀ id, 41 ≤ id → μ2 id = μ id := fun id hid => (show μ2 id = μ id from (hF4 _ (by omega))).trans (hF id hid)
    refine x_iret rfl d_X3_need_24 ?_
    have e9 : F_need g k v = fin g 0 := by simp [F_need, x_b_f, x_b_t, c1]
    rw [e9]
    exact ⟨rfl, XS.fin hL5 hLH6 hX7 hD3, hF8⟩
  · skip
    obtain ⟨n, hn, rfl⟩ := inR_nat (n := 15) (by decide) c1
    refine x_iload_n 2 d_X3_need_7 rfl rfl ?_
    refine x_iconst (x := 0) d_X3_need_8 (by decide) ?_
    refine x_sipush (x := 999) d_X3_need_9 (by decide) ?_
    refine x_csip (as := [.int v, .int 0, .int 999]) (c_X3_isWithin l E μ v 0 999) v_X3_isWithin q180 q179 rfl ⟨Nat.le_of_ble_eq_true rfl, Nat.le_of_ble_eq_true rfl⟩ rfl (Nat.le_of_ble_eq_true rfl) d_X3_need_12 ?_
    refine x_ifb_ne 25 d_X3_need_15 (by decide) (fun c9 => ?_) (fun c9 => ?_)
    · skip
      refine x_aload_n 0 d_X3_need_25 rfl rfl ?_
      refine x_getr (j := 0) 1 x_c3 rfl (Nat.le_of_ble_eq_true rfl) q147 rfl d_X3_need_26 ?_
      refine x_getr (j := 0) (1 + 1) x_c0 (p_kd x_pr1) (Nat.le_of_ble_eq_true rfl) q32 (p_f0 x_pr1) d_X3_need_29 ?_
      refine x_iload_n 1 d_X3_need_32 rfl rfl ?_
      refine x_ialdN (z := (gA g) (8 + n)) 16 n (p_k1 x_pr1) (p_l1 x_pr1) (by omega) (by decide) (PR.need hL n (by omega)) d_X3_need_33 ?_
      refine x_istore_n [(3, .int ((gA g) (8 + n))), (0, .ref (E.1 + 0)), (1, .int (nI n)), (2, .int v)] d_X3_need_34 rfl (Nat.le_of_ble_eq_true rfl) rfl ?_
      refine x_aload_n 1 d_X3_need_35 rfl rfl ?_
      refine x_getr (j := 0) 1 x_c3 rfl (Nat.le_of_ble_eq_true rfl) q147 rfl d_X3_need_36 ?_
      refine x_getr (j := 0) (1 + 1) x_c0 (p_kd x_pr1) (Nat.le_of_ble_eq_true rfl) q32 (p_f0 x_pr1) d_X3_need_39 ?_
      refine x_iload_n 2 d_X3_need_42 rfl rfl ?_
      refine x_iload_n 3 d_X3_need_43 rfl rfl ?_
      refine x_iastNG 16 n (p_k1 x_pr1) (p_l1 x_pr1) (by omega) (by decide) d_X3_need_44 (fun μ10 eμ10 => ?_)
      have hL11 : PR (upd (gA g) (8 + n) v) 1 μ10 := PR.a1 hL eμ10 (by omega)
      have hLH12 := hH
      rw [← (show μ10 1 = μ 1 from (by rw [eμ10, upd2_ne _ _ _ (by omega)]))] at hLH12
      have hX13 := XR.cg hX (μ' := μ10) (fun id hid => (by rw [eμ10, upd2_ne _ _ _ (by omega)]))
      have hD14 := XD.cg hD (μ' := μ10) (fun id hid => (by rw [eμ10, upd2_ne _ _ _ (by omega)]))
      have hF15 : ∀ id, 41 ≤ id → μ10 id = μ id := fun id hid => (show μ10 id = μ id from (by rw [eμ10, upd2_ne _ _ _ (by omega)])).trans (hF id hid)
      refine x_iload_n 0 d_X3_need_45 rfl rfl ?_
      refine x_iret rfl d_X3_need_46 ?_
      have e9 : F_need g (nI n) v = ((gA g) (8 + n), sA g (upd (gA g) (8 + n) v)) := by simp [F_need, x_b_f, x_b_t, c1, c9, nI_clamp (n := n) (by omega)]
      rw [e9]
      exact ⟨rfl, XS.line hL11 (by (repeat rw [upd_n _ _ (by omega)]); exact hLH12) hX13 hD14, hF15⟩
    · skip
      refine x_aload_n 0 d_X3_need_18 rfl rfl ?_
      refine x_ldc q182 d_X3_need_19 ?_
      refine x_cvi (k := 0) (as := [.int (-1000001)]) (c_X3_finding l E μ (i := 0) hD (by decide) (w := (-1000001)) (by decide)) v_X3_finding w_X3_finding q183 o_X rfl ⟨Nat.le_of_ble_eq_true rfl, Nat.le_of_ble_eq_true rfl⟩ rfl (Nat.le_of_ble_eq_true rfl) d_X3_need_21 ?_
      rintro _ μ16 ⟨rfl, hD17, hF18⟩
      have hL19 := PR.cg hL (μ' := μ16) (fun id hid => (hF18 _ (by omega)))
      have hLH20 := hH
      rw [← (show μ16 1 = μ 1 from (hF18 _ (by omega)))] at hLH20
      have hX21 := XR.cg hX (μ' := μ16) (fun id hid => (hF18 _ (by omega)))
      have hF22 : ∀ id, 41 ≤ id → μ16 id = μ id := fun id hid => (show μ16 id = μ id from (hF18 _ (by omega))).trans (hF id hid)
      refine x_iret rfl d_X3_need_24 ?_
      have e9 : F_need g (nI n) v = fin g 0 := by simp [F_need, x_b_f, x_b_t, c1, c9, nI_clamp (n := n) (by omega)]
      rw [e9]
      exact ⟨rfl, XS.fin hL19 hLH20 hX21 hD17, hF22⟩
def m_X3_stretch : x_M := (yX3_stretch, prog_1_method_3_code, 3, (some FieldType.int), 5, 118)
theorem v_X3_stretch : x_VM m_X3_stretch 2 := ⟨q190, q1, by decide +kernel, by decide +kernel, by decide +kernel⟩
theorem w_X3_stretch : x_VI m_X3_stretch := ⟨q188, q189⟩
theorem d_X3_stretch_0 : x_dec m_X3_stretch 0 (.iload_n 1) 1 1 := ⟨by decide +kernel, rfl⟩
theorem d_X3_stretch_1 : x_dec m_X3_stretch 1 (.invokestatic 47) 3 4 := ⟨by decide +kernel, rfl⟩
theorem d_X3_stretch_4 : x_dec m_X3_stretch 4 (.ifCond .ne 10) 3 7 := ⟨by decide +kernel, rfl⟩
theorem d_X3_stretch_7 : x_dec m_X3_stretch 7 (.aload_n 0) 1 8 := ⟨by decide +kernel, rfl⟩
theorem d_X3_stretch_8 : x_dec m_X3_stretch 8 (.ldc 55) 2 10 := ⟨by decide +kernel, rfl⟩
theorem d_X3_stretch_10 : x_dec m_X3_stretch 10 (.invokevirtual 56) 3 13 := ⟨by decide +kernel, rfl⟩
theorem d_X3_stretch_13 : x_dec m_X3_stretch 13 (.ireturn) 1 14 := ⟨by decide +kernel, rfl⟩
theorem d_X3_stretch_14 : x_dec m_X3_stretch 14 (.iload_n 2) 1 15 := ⟨by decide +kernel, rfl⟩
theorem d_X3_stretch_15 : x_dec m_X3_stretch 15 (.tableswitch 61 0 2 #[25, 35, 44]) 25 40 := ⟨by decide +kernel, rfl⟩
theorem d_X3_stretch_40 : x_dec m_X3_stretch 40 (.aload_n 0) 1 41 := ⟨by decide +kernel, rfl⟩
theorem d_X3_stretch_41 : x_dec m_X3_stretch 41 (.getfield 12) 3 44 := ⟨by decide +kernel, rfl⟩
theorem d_X3_stretch_44 : x_dec m_X3_stretch 44 (.getfield 60) 3 47 := ⟨by decide +kernel, rfl⟩
theorem d_X3_stretch_47 : x_dec m_X3_stretch 47 (.iload_n 1) 1 48 := ⟨by decide +kernel, rfl⟩
theorem d_X3_stretch_48 : x_dec m_X3_stretch 48 (.iaload) 1 49 := ⟨by decide +kernel, rfl⟩
theorem d_X3_stretch_49 : x_dec m_X3_stretch 49 (.ireturn) 1 50 := ⟨by decide +kernel, rfl⟩
theorem d_X3_stretch_50 : x_dec m_X3_stretch 50 (.aload_n 0) 1 51 := ⟨by decide +kernel, rfl⟩
theorem d_X3_stretch_51 : x_dec m_X3_stretch 51 (.getfield 12) 3 54 := ⟨by decide +kernel, rfl⟩
theorem d_X3_stretch_54 : x_dec m_X3_stretch 54 (.iload_n 1) 1 55 := ⟨by decide +kernel, rfl⟩
theorem d_X3_stretch_55 : x_dec m_X3_stretch 55 (.invokevirtual 63) 3 58 := ⟨by decide +kernel, rfl⟩
theorem d_X3_stretch_58 : x_dec m_X3_stretch 58 (.ireturn) 1 59 := ⟨by decide +kernel, rfl⟩
theorem d_X3_stretch_59 : x_dec m_X3_stretch 59 (.aload_n 0) 1 60 := ⟨by decide +kernel, rfl⟩
theorem d_X3_stretch_60 : x_dec m_X3_stretch 60 (.getfield 12) 3 63 := ⟨by decide +kernel, rfl⟩
theorem d_X3_stretch_63 : x_dec m_X3_stretch 63 (.iload_n 1) 1 64 := ⟨by decide +kernel, rfl⟩
theorem d_X3_stretch_64 : x_dec m_X3_stretch 64 (.invokevirtual 66) 3 67 := ⟨by decide +kernel, rfl⟩
theorem d_X3_stretch_67 : x_dec m_X3_stretch 67 (.ifCond .eq 7) 3 70 := ⟨by decide +kernel, rfl⟩
theorem d_X3_stretch_70 : x_dec m_X3_stretch 70 (.iconst 1) 1 71 := ⟨by decide +kernel, rfl⟩
theorem d_X3_stretch_71 : x_dec m_X3_stretch 71 (.goto 4) 3 74 := ⟨by decide +kernel, rfl⟩
theorem d_X3_stretch_74 : x_dec m_X3_stretch 74 (.iconst 0) 1 75 := ⟨by decide +kernel, rfl⟩
theorem d_X3_stretch_75 : x_dec m_X3_stretch 75 (.ireturn) 1 76 := ⟨by decide +kernel, rfl⟩
theorem d_X3_stretch_76 : x_dec m_X3_stretch 76 (.aload_n 0) 1 77 := ⟨by decide +kernel, rfl⟩
theorem d_X3_stretch_77 : x_dec m_X3_stretch 77 (.ldc 55) 2 79 := ⟨by decide +kernel, rfl⟩
theorem d_X3_stretch_79 : x_dec m_X3_stretch 79 (.invokevirtual 56) 3 82 := ⟨by decide +kernel, rfl⟩
theorem d_X3_stretch_82 : x_dec m_X3_stretch 82 (.ireturn) 1 83 := ⟨by decide +kernel, rfl⟩
set_option maxHeartbeats 4000000 in
set_option maxRecDepth 100000 in
theorem c_X3_stretch (l : Launch) (E : x_E) (μ : x_Mem) (g : x_SG) (hS : XS g μ) (hI : Inv g) (k w : Int32) : x_Met l m_X3_stretch E [.ref (E.1 + 0), .int k, .int w] μ (x_I (fun z m => z = (F_stretch g k w).1 ∧ XS (F_stretch g k w).2 m ∧ ∀ id, 41 ≤ id → m id = μ id)) := by
  obtain ⟨hL, hH, hX, hD⟩ := hS
  have hWF := hI.1.1
  have hn7 := hWF.2.1
  have hpn := hWF.1
  have hF : ∀ id, 41 ≤ id → μ id = μ id := fun _ _ => rfl
  refine x_enter (lv := [(0, .ref (E.1 + 0)), (1, .int k), (2, .int w)]) (by decide +kernel) (Nat.le_of_ble_eq_true rfl) rfl ?_
  refine x_iload_n 1 d_X3_stretch_0 rfl rfl ?_
  refine x_csip (as := [.int k]) (c_X3_isStretch l E μ k) v_X3_isStretch q177 q176 rfl ⟨Nat.le_of_ble_eq_true rfl, Nat.le_of_ble_eq_true rfl⟩ rfl (Nat.le_of_ble_eq_true rfl) d_X3_stretch_1 ?_
  refine x_ifb_ne 14 d_X3_stretch_4 (by decide) (fun c1 => ?_) (fun c1 => ?_)
  · skip
    obtain ⟨n, hn, rfl⟩ := inR_nat (n := 15) (by decide) c1
    refine x_iload_n 2 d_X3_stretch_14 rfl rfl ?_
    by_cases k2 : w = 0
    · have k2T : (w).toInt = 0 := by rw [k2]; decide
      refine x_tswIn 40 (off := 25) d_X3_stretch_15 (by rw [k2T]; decide) (by rw [k2T]; decide) (by rw [k2T]; decide) (by decide) ?_
      refine x_aload_n 0 d_X3_stretch_40 rfl rfl ?_
      refine x_getr (j := 0) 1 x_c3 rfl (Nat.le_of_ble_eq_true rfl) q147 rfl d_X3_stretch_41 ?_
      refine x_getr (j := 0) (1 + 1) x_c0 (p_kd x_pr1) (Nat.le_of_ble_eq_true rfl) q32 (p_f0 x_pr1) d_X3_stretch_44 ?_
      refine x_iload_n 1 d_X3_stretch_47 rfl rfl ?_
      refine x_ialdN (z := (gA g) (8 + n)) 16 n (p_k1 x_pr1) (p_l1 x_pr1) (by omega) (by decide) (PR.need hL n (by omega)) d_X3_stretch_48 ?_
      refine x_iret rfl d_X3_stretch_49 ?_
      have e9 : F_stretch g (nI n) w = ((gA g) (8 + n), g) := by simp [F_stretch, x_b_f, x_b_t, c1, k2, nI_clamp (n := n) (by omega)]
      rw [e9]
      exact ⟨rfl, ⟨hL, hH, hX, hD⟩, hF⟩
    by_cases k3 : w = 1
    · have k3T : (w).toInt = 1 := by rw [k3]; decide
      refine x_tswIn 50 (off := 35) d_X3_stretch_15 (by rw [k3T]; decide) (by rw [k3T]; decide) (by rw [k3T]; decide) (by decide) ?_
      refine x_aload_n 0 d_X3_stretch_50 rfl rfl ?_
      refine x_getr (j := 0) 1 x_c3 rfl (Nat.le_of_ble_eq_true rfl) q147 rfl d_X3_stretch_51 ?_
      refine x_iload_n 1 d_X3_stretch_54 rfl rfl ?_
      refine x_cvip (k := 1) (as := [.int (nI n)]) (c_X0_sumAt l E μ x_pr1 hL hWF (nI n)) v_X0_sumAt w_X0_sumAt q191 (p_ob x_pr1) rfl ⟨Nat.le_of_ble_eq_true rfl, Nat.le_of_ble_eq_true rfl⟩ rfl (Nat.le_of_ble_eq_true rfl) d_X3_stretch_55 ?_
      refine x_iret rfl d_X3_stretch_58 ?_
      have e9 : F_stretch g (nI n) w = (sumF (gA g) (nI n), g) := by simp [F_stretch, x_b_f, x_b_t, c1, k3, nI_clamp (n := n) (by omega)]
      rw [e9]
      exact ⟨rfl, ⟨hL, hH, hX, hD⟩, hF⟩
    by_cases k4 : w = 2
    · have k4T : (w).toInt = 2 := by rw [k4]; decide
      refine x_tswIn 59 (off := 44) d_X3_stretch_15 (by rw [k4T]; decide) (by rw [k4T]; decide) (by rw [k4T]; decide) (by decide) ?_
      refine x_aload_n 0 d_X3_stretch_59 rfl rfl ?_
      refine x_getr (j := 0) 1 x_c3 rfl (Nat.le_of_ble_eq_true rfl) q147 rfl d_X3_stretch_60 ?_
      refine x_iload_n 1 d_X3_stretch_63 rfl rfl ?_
      refine x_cvip (k := 1) (as := [.int (nI n)]) (c_X0_isThere l E μ x_pr1 hL hWF (k := n) (by omega)) v_X0_isThere w_X0_isThere q213 (p_ob x_pr1) rfl ⟨Nat.le_of_ble_eq_true rfl, Nat.le_of_ble_eq_true rfl⟩ rfl (Nat.le_of_ble_eq_true rfl) d_X3_stretch_64 ?_
      refine x_ifb_eq 74 d_X3_stretch_67 (by decide) (fun c5 => ?_) (fun c5 => ?_)
      · skip
        refine x_iconst (x := 0) d_X3_stretch_74 (by decide) ?_
        refine x_iret rfl d_X3_stretch_75 ?_
        have e9 : F_stretch g (nI n) w = (0, g) := by simp [F_stretch, x_b_f, x_b_t, c1, k4, c5, nI_clamp (n := n) (by omega)]
        rw [e9]
        exact ⟨rfl, ⟨hL, hH, hX, hD⟩, hF⟩
      · skip
        refine x_iconst (x := 1) d_X3_stretch_70 (by decide) ?_
        refine x_goto 75 d_X3_stretch_71 (by decide) ?_
        refine x_iret rfl d_X3_stretch_75 ?_
        have e9 : F_stretch g (nI n) w = (1, g) := by simp [F_stretch, x_b_f, x_b_t, c1, k4, c5, nI_clamp (n := n) (by omega)]
        rw [e9]
        exact ⟨rfl, ⟨hL, hH, hX, hD⟩, hF⟩
    have k2T : ¬ (w).toInt = 0 := lv_neT k2 (by decide)
    have k3T : ¬ (w).toInt = 1 := lv_neT k3 (by decide)
    have k4T : ¬ (w).toInt = 2 := lv_neT k4 (by decide)
    refine x_tswOut 76 d_X3_stretch_15 (by omega) (by decide) ?_
    refine x_aload_n 0 d_X3_stretch_76 rfl rfl ?_
    refine x_ldc q182 d_X3_stretch_77 ?_
    refine x_cvi (k := 0) (as := [.int (-1000001)]) (c_X3_finding l E μ (i := 0) hD (by decide) (w := (-1000001)) (by decide)) v_X3_finding w_X3_finding q183 o_X rfl ⟨Nat.le_of_ble_eq_true rfl, Nat.le_of_ble_eq_true rfl⟩ rfl (Nat.le_of_ble_eq_true rfl) d_X3_stretch_79 ?_
    rintro _ μ6 ⟨rfl, hD7, hF8⟩
    have hL9 := PR.cg hL (μ' := μ6) (fun id hid => (hF8 _ (by omega)))
    have hLH10 := hH
    rw [← (show μ6 1 = μ 1 from (hF8 _ (by omega)))] at hLH10
    have hX11 := XR.cg hX (μ' := μ6) (fun id hid => (hF8 _ (by omega)))
    have hF12 : ∀ id, 41 ≤ id → μ6 id = μ id := fun id hid => (show μ6 id = μ id from (hF8 _ (by omega))).trans (hF id hid)
    refine x_iret rfl d_X3_stretch_82 ?_
    have e9 : F_stretch g (nI n) w = fin g 0 := by simp [F_stretch, x_b_f, x_b_t, c1, k2, k3, k4, nI_clamp (n := n) (by omega)]
    rw [e9]
    exact ⟨rfl, XS.fin hL9 hLH10 hX11 hD7, hF12⟩
  · skip
    refine x_aload_n 0 d_X3_stretch_7 rfl rfl ?_
    refine x_ldc q182 d_X3_stretch_8 ?_
    refine x_cvi (k := 0) (as := [.int (-1000001)]) (c_X3_finding l E μ (i := 0) hD (by decide) (w := (-1000001)) (by decide)) v_X3_finding w_X3_finding q183 o_X rfl ⟨Nat.le_of_ble_eq_true rfl, Nat.le_of_ble_eq_true rfl⟩ rfl (Nat.le_of_ble_eq_true rfl) d_X3_stretch_10 ?_
    rintro _ μ13 ⟨rfl, hD14, hF15⟩
    have hL16 := PR.cg hL (μ' := μ13) (fun id hid => (hF15 _ (by omega)))
    have hLH17 := hH
    rw [← (show μ13 1 = μ 1 from (hF15 _ (by omega)))] at hLH17
    have hX18 := XR.cg hX (μ' := μ13) (fun id hid => (hF15 _ (by omega)))
    have hF19 : ∀ id, 41 ≤ id → μ13 id = μ id := fun id hid => (show μ13 id = μ id from (hF15 _ (by omega))).trans (hF id hid)
    refine x_iret rfl d_X3_stretch_13 ?_
    have e9 : F_stretch g k w = fin g 0 := by simp [F_stretch, x_b_f, x_b_t, c1]
    rw [e9]
    exact ⟨rfl, XS.fin hL16 hLH17 hX18 hD14, hF19⟩
def m_X3_person : x_M := (yX3_person, prog_1_method_4_code, 3, (some FieldType.int), 1, 24)
theorem v_X3_person : x_VM m_X3_person 2 := ⟨q221, q1, by decide +kernel, by decide +kernel, by decide +kernel⟩
theorem w_X3_person : x_VI m_X3_person := ⟨q219, q220⟩
theorem d_X3_person_0 : x_dec m_X3_person 0 (.iload_n 1) 1 1 := ⟨by decide +kernel, rfl⟩
theorem d_X3_person_1 : x_dec m_X3_person 1 (.invokestatic 69) 3 4 := ⟨by decide +kernel, rfl⟩
theorem d_X3_person_4 : x_dec m_X3_person 4 (.ifCond .eq 13) 3 7 := ⟨by decide +kernel, rfl⟩
theorem d_X3_person_7 : x_dec m_X3_person 7 (.iload_n 2) 1 8 := ⟨by decide +kernel, rfl⟩
theorem d_X3_person_8 : x_dec m_X3_person 8 (.iconst (-1)) 1 9 := ⟨by decide +kernel, rfl⟩
theorem d_X3_person_9 : x_dec m_X3_person 9 (.bipush 16) 2 11 := ⟨by decide +kernel, rfl⟩
theorem d_X3_person_11 : x_dec m_X3_person 11 (.invokestatic 51) 3 14 := ⟨by decide +kernel, rfl⟩
theorem d_X3_person_14 : x_dec m_X3_person 14 (.ifCond .ne 10) 3 17 := ⟨by decide +kernel, rfl⟩
theorem d_X3_person_17 : x_dec m_X3_person 17 (.aload_n 0) 1 18 := ⟨by decide +kernel, rfl⟩
theorem d_X3_person_18 : x_dec m_X3_person 18 (.ldc 55) 2 20 := ⟨by decide +kernel, rfl⟩
theorem d_X3_person_20 : x_dec m_X3_person 20 (.invokevirtual 56) 3 23 := ⟨by decide +kernel, rfl⟩
theorem d_X3_person_23 : x_dec m_X3_person 23 (.ireturn) 1 24 := ⟨by decide +kernel, rfl⟩
theorem d_X3_person_24 : x_dec m_X3_person 24 (.aload_n 0) 1 25 := ⟨by decide +kernel, rfl⟩
theorem d_X3_person_25 : x_dec m_X3_person 25 (.getfield 12) 3 28 := ⟨by decide +kernel, rfl⟩
theorem d_X3_person_28 : x_dec m_X3_person 28 (.getfield 72) 3 31 := ⟨by decide +kernel, rfl⟩
theorem d_X3_person_31 : x_dec m_X3_person 31 (.bipush 8) 2 33 := ⟨by decide +kernel, rfl⟩
theorem d_X3_person_33 : x_dec m_X3_person 33 (.if_icmp .lt 10) 3 36 := ⟨by decide +kernel, rfl⟩
theorem d_X3_person_36 : x_dec m_X3_person 36 (.aload_n 0) 1 37 := ⟨by decide +kernel, rfl⟩
theorem d_X3_person_37 : x_dec m_X3_person 37 (.ldc 76) 2 39 := ⟨by decide +kernel, rfl⟩
theorem d_X3_person_39 : x_dec m_X3_person 39 (.invokevirtual 56) 3 42 := ⟨by decide +kernel, rfl⟩
theorem d_X3_person_42 : x_dec m_X3_person 42 (.ireturn) 1 43 := ⟨by decide +kernel, rfl⟩
theorem d_X3_person_43 : x_dec m_X3_person 43 (.aload_n 0) 1 44 := ⟨by decide +kernel, rfl⟩
theorem d_X3_person_44 : x_dec m_X3_person 44 (.getfield 12) 3 47 := ⟨by decide +kernel, rfl⟩
theorem d_X3_person_47 : x_dec m_X3_person 47 (.iload_n 1) 1 48 := ⟨by decide +kernel, rfl⟩
theorem d_X3_person_48 : x_dec m_X3_person 48 (.iload_n 2) 1 49 := ⟨by decide +kernel, rfl⟩
theorem d_X3_person_49 : x_dec m_X3_person 49 (.bipush 50) 2 51 := ⟨by decide +kernel, rfl⟩
theorem d_X3_person_51 : x_dec m_X3_person 51 (.invokevirtual 77) 3 54 := ⟨by decide +kernel, rfl⟩
theorem d_X3_person_54 : x_dec m_X3_person 54 (.ireturn) 1 55 := ⟨by decide +kernel, rfl⟩
set_option maxHeartbeats 4000000 in
set_option maxRecDepth 100000 in
theorem c_X3_person (l : Launch) (E : x_E) (μ : x_Mem) (g : x_SG) (hS : XS g μ) (hI : Inv g) (k w : Int32) : x_Met l m_X3_person E [.ref (E.1 + 0), .int k, .int w] μ (x_I (fun z m => z = (F_person g k w).1 ∧ XS (F_person g k w).2 m ∧ ∀ id, 41 ≤ id → m id = μ id)) := by
  obtain ⟨hL, hH, hX, hD⟩ := hS
  have hWF := hI.1.1
  have hn7 := hWF.2.1
  have hpn := hWF.1
  have hF : ∀ id, 41 ≤ id → μ id = μ id := fun _ _ => rfl
  refine x_enter (lv := [(0, .ref (E.1 + 0)), (1, .int k), (2, .int w)]) (by decide +kernel) (Nat.le_of_ble_eq_true rfl) rfl ?_
  refine x_iload_n 1 d_X3_person_0 rfl rfl ?_
  refine x_csip (as := [.int k]) (c_X3_isKind l E μ k) v_X3_isKind q223 q222 rfl ⟨Nat.le_of_ble_eq_true rfl, Nat.le_of_ble_eq_true rfl⟩ rfl (Nat.le_of_ble_eq_true rfl) d_X3_person_1 ?_
  refine x_ifb_eq 17 d_X3_person_4 (by decide) (fun c1 => ?_) (fun c1 => ?_)
  · skip
    refine x_aload_n 0 d_X3_person_17 rfl rfl ?_
    refine x_ldc q182 d_X3_person_18 ?_
    refine x_cvi (k := 0) (as := [.int (-1000001)]) (c_X3_finding l E μ (i := 0) hD (by decide) (w := (-1000001)) (by decide)) v_X3_finding w_X3_finding q183 o_X rfl ⟨Nat.le_of_ble_eq_true rfl, Nat.le_of_ble_eq_true rfl⟩ rfl (Nat.le_of_ble_eq_true rfl) d_X3_person_20 ?_
    rintro _ μ2 ⟨rfl, hD3, hF4⟩
    have hL5 := PR.cg hL (μ' := μ2) (fun id hid => (hF4 _ (by omega)))
    have hLH6 := hH
    rw [← (show μ2 1 = μ 1 from (hF4 _ (by omega)))] at hLH6
    have hX7 := XR.cg hX (μ' := μ2) (fun id hid => (hF4 _ (by omega)))
    have hF8 : ∀ id, 41 ≤ id → μ2 id = μ id := fun id hid => (show μ2 id = μ id from (hF4 _ (by omega))).trans (hF id hid)
    refine x_iret rfl d_X3_person_23 ?_
    have e9 : F_person g k w = fin g 0 := by simp [F_person, x_b_f, x_b_t, c1]
    rw [e9]
    exact ⟨rfl, XS.fin hL5 hLH6 hX7 hD3, hF8⟩
  · skip
    refine x_iload_n 2 d_X3_person_7 rfl rfl ?_
    refine x_iconst (x := (-1)) d_X3_person_8 (by decide) ?_
    refine x_bipush (x := 16) d_X3_person_9 (by decide) ?_
    refine x_csip (as := [.int w, .int (-1), .int 16]) (c_X3_isWithin l E μ w (-1) 16) v_X3_isWithin q180 q179 rfl ⟨Nat.le_of_ble_eq_true rfl, Nat.le_of_ble_eq_true rfl⟩ rfl (Nat.le_of_ble_eq_true rfl) d_X3_person_11 ?_
    refine x_ifb_ne 24 d_X3_person_14 (by decide) (fun c9 => ?_) (fun c9 => ?_)
    · skip
      refine x_aload_n 0 d_X3_person_24 rfl rfl ?_
      refine x_getr (j := 0) 1 x_c3 rfl (Nat.le_of_ble_eq_true rfl) q147 rfl d_X3_person_25 ?_
      refine x_getiV (j := 5) (z := nI (pn (gA g))) x_c0 (p_kd x_pr1) (Nat.le_of_ble_eq_true rfl) q43 (p_n5 x_pr1) ((PR.f5 hL).trans hn7) d_X3_person_28 ?_
      refine x_bipush (x := 8) d_X3_person_31 (by decide) ?_
      refine x_icmp_lt 43 d_X3_person_33 (by decide) (fun c10 => ?_) (fun c10 => ?_)
      · skip
        have hlt := x_lt (N := 8) (Int32.not_le.mpr c10) rfl rfl (by omega) (by omega)
        refine x_aload_n 0 d_X3_person_43 rfl rfl ?_
        refine x_getr (j := 0) 1 x_c3 rfl (Nat.le_of_ble_eq_true rfl) q147 rfl d_X3_person_44 ?_
        refine x_iload_n 1 d_X3_person_47 rfl rfl ?_
        refine x_iload_n 2 d_X3_person_48 rfl rfl ?_
        refine x_bipush (x := 50) d_X3_person_49 (by decide) ?_
        refine x_cvi (k := 1) (as := [.int k, .int w, .int 50]) (c_X0_newcomer l E μ x_pr1 hL hWF (by omega) hH k w 50) v_X0_newcomer w_X0_newcomer q226 (p_ob x_pr1) rfl ⟨Nat.le_of_ble_eq_true rfl, Nat.le_of_ble_eq_true rfl⟩ rfl (Nat.le_of_ble_eq_true rfl) d_X3_person_51 ?_
        rintro _ μ11 ⟨rfl, hR12, x14, hF13⟩
        have hX15 := XR.cg hX (μ' := μ11) (fun id hid => (hF13 _ (by omega)))
        have hD16 := XD.cg hD (μ' := μ11) (fun id hid => (hF13 _ (by omega)))
        have hF17 : ∀ id, 41 ≤ id → μ11 id = μ id := fun id hid => (show μ11 id = μ id from (hF13 _ (by omega))).trans (hF id hid)
        refine x_iret rfl d_X3_person_54 ?_
        have e9 : F_person g k w = (nI (pn (gA g)), sA g (comeF (gA g) k w 50)) := by simp [F_person, x_b_f, x_b_t, c1, c9, show pn (gA g) < 8 by omega]
        rw [e9]
        exact ⟨rfl, XS.line hR12 (by unfold comeF; (repeat rw [upd_n _ _ (by omega)]); exact x14) hX15 hD16, hF17⟩
      · skip
        have hge := x_ge (N := 8) (Int32.not_lt.mp c10) rfl rfl (by omega) (by omega)
        refine x_aload_n 0 d_X3_person_36 rfl rfl ?_
        refine x_ldc q225 d_X3_person_37 ?_
        refine x_cvi (k := 0) (as := [.int (-1000002)]) (c_X3_finding l E μ (i := 1) hD (by decide) (w := (-1000002)) (by decide)) v_X3_finding w_X3_finding q183 o_X rfl ⟨Nat.le_of_ble_eq_true rfl, Nat.le_of_ble_eq_true rfl⟩ rfl (Nat.le_of_ble_eq_true rfl) d_X3_person_39 ?_
        rintro _ μ18 ⟨rfl, hD19, hF20⟩
        have hL21 := PR.cg hL (μ' := μ18) (fun id hid => (hF20 _ (by omega)))
        have hLH22 := hH
        rw [← (show μ18 1 = μ 1 from (hF20 _ (by omega)))] at hLH22
        have hX23 := XR.cg hX (μ' := μ18) (fun id hid => (hF20 _ (by omega)))
        have hF24 : ∀ id, 41 ≤ id → μ18 id = μ id := fun id hid => (show μ18 id = μ id from (hF20 _ (by omega))).trans (hF id hid)
        refine x_iret rfl d_X3_person_42 ?_
        have e9 : F_person g k w = fin g 1 := by simp [F_person, x_b_f, x_b_t, c1, c9, show ¬ pn (gA g) < 8 by omega]
        rw [e9]
        exact ⟨rfl, XS.fin hL21 hLH22 hX23 hD19, hF24⟩
    · skip
      refine x_aload_n 0 d_X3_person_17 rfl rfl ?_
      refine x_ldc q182 d_X3_person_18 ?_
      refine x_cvi (k := 0) (as := [.int (-1000001)]) (c_X3_finding l E μ (i := 0) hD (by decide) (w := (-1000001)) (by decide)) v_X3_finding w_X3_finding q183 o_X rfl ⟨Nat.le_of_ble_eq_true rfl, Nat.le_of_ble_eq_true rfl⟩ rfl (Nat.le_of_ble_eq_true rfl) d_X3_person_20 ?_
      rintro _ μ25 ⟨rfl, hD26, hF27⟩
      have hL28 := PR.cg hL (μ' := μ25) (fun id hid => (hF27 _ (by omega)))
      have hLH29 := hH
      rw [← (show μ25 1 = μ 1 from (hF27 _ (by omega)))] at hLH29
      have hX30 := XR.cg hX (μ' := μ25) (fun id hid => (hF27 _ (by omega)))
      have hF31 : ∀ id, 41 ≤ id → μ25 id = μ id := fun id hid => (show μ25 id = μ id from (hF27 _ (by omega))).trans (hF id hid)
      refine x_iret rfl d_X3_person_23 ?_
      have e9 : F_person g k w = fin g 0 := by simp [F_person, x_b_f, x_b_t, c1, c9]
      rw [e9]
      exact ⟨rfl, XS.fin hL28 hLH29 hX30 hD26, hF31⟩
def m_X3_of : x_M := (yX3_of, prog_1_method_5_code, 3, (some FieldType.int), 2, 50)
theorem v_X3_of : x_VM m_X3_of 2 := ⟨q233, q1, by decide +kernel, by decide +kernel, by decide +kernel⟩
theorem w_X3_of : x_VI m_X3_of := ⟨q231, q232⟩
theorem d_X3_of_0 : x_dec m_X3_of 0 (.aload_n 0) 1 1 := ⟨by decide +kernel, rfl⟩
theorem d_X3_of_1 : x_dec m_X3_of 1 (.iload_n 1) 1 2 := ⟨by decide +kernel, rfl⟩
theorem d_X3_of_2 : x_dec m_X3_of 2 (.invokevirtual 81) 3 5 := ⟨by decide +kernel, rfl⟩
theorem d_X3_of_5 : x_dec m_X3_of 5 (.ifCond .ne 10) 3 8 := ⟨by decide +kernel, rfl⟩
theorem d_X3_of_8 : x_dec m_X3_of 8 (.aload_n 0) 1 9 := ⟨by decide +kernel, rfl⟩
theorem d_X3_of_9 : x_dec m_X3_of 9 (.ldc 55) 2 11 := ⟨by decide +kernel, rfl⟩
theorem d_X3_of_11 : x_dec m_X3_of 11 (.invokevirtual 56) 3 14 := ⟨by decide +kernel, rfl⟩
theorem d_X3_of_14 : x_dec m_X3_of 14 (.ireturn) 1 15 := ⟨by decide +kernel, rfl⟩
theorem d_X3_of_15 : x_dec m_X3_of 15 (.iload_n 2) 1 16 := ⟨by decide +kernel, rfl⟩
theorem d_X3_of_16 : x_dec m_X3_of 16 (.tableswitch 71 0 3 #[32, 42, 52, 62]) 32 48 := ⟨by decide +kernel, rfl⟩
theorem d_X3_of_48 : x_dec m_X3_of 48 (.aload_n 0) 1 49 := ⟨by decide +kernel, rfl⟩
theorem d_X3_of_49 : x_dec m_X3_of 49 (.getfield 12) 3 52 := ⟨by decide +kernel, rfl⟩
theorem d_X3_of_52 : x_dec m_X3_of 52 (.getfield 84) 3 55 := ⟨by decide +kernel, rfl⟩
theorem d_X3_of_55 : x_dec m_X3_of 55 (.iload_n 1) 1 56 := ⟨by decide +kernel, rfl⟩
theorem d_X3_of_56 : x_dec m_X3_of 56 (.iaload) 1 57 := ⟨by decide +kernel, rfl⟩
theorem d_X3_of_57 : x_dec m_X3_of 57 (.ireturn) 1 58 := ⟨by decide +kernel, rfl⟩
theorem d_X3_of_58 : x_dec m_X3_of 58 (.aload_n 0) 1 59 := ⟨by decide +kernel, rfl⟩
theorem d_X3_of_59 : x_dec m_X3_of 59 (.getfield 12) 3 62 := ⟨by decide +kernel, rfl⟩
theorem d_X3_of_62 : x_dec m_X3_of 62 (.getfield 87) 3 65 := ⟨by decide +kernel, rfl⟩
theorem d_X3_of_65 : x_dec m_X3_of 65 (.iload_n 1) 1 66 := ⟨by decide +kernel, rfl⟩
theorem d_X3_of_66 : x_dec m_X3_of 66 (.iaload) 1 67 := ⟨by decide +kernel, rfl⟩
theorem d_X3_of_67 : x_dec m_X3_of 67 (.ireturn) 1 68 := ⟨by decide +kernel, rfl⟩
theorem d_X3_of_68 : x_dec m_X3_of 68 (.aload_n 0) 1 69 := ⟨by decide +kernel, rfl⟩
theorem d_X3_of_69 : x_dec m_X3_of 69 (.getfield 12) 3 72 := ⟨by decide +kernel, rfl⟩
theorem d_X3_of_72 : x_dec m_X3_of 72 (.getfield 90) 3 75 := ⟨by decide +kernel, rfl⟩
theorem d_X3_of_75 : x_dec m_X3_of 75 (.iload_n 1) 1 76 := ⟨by decide +kernel, rfl⟩
theorem d_X3_of_76 : x_dec m_X3_of 76 (.iaload) 1 77 := ⟨by decide +kernel, rfl⟩
theorem d_X3_of_77 : x_dec m_X3_of 77 (.ireturn) 1 78 := ⟨by decide +kernel, rfl⟩
theorem d_X3_of_78 : x_dec m_X3_of 78 (.aload_n 0) 1 79 := ⟨by decide +kernel, rfl⟩
theorem d_X3_of_79 : x_dec m_X3_of 79 (.getfield 12) 3 82 := ⟨by decide +kernel, rfl⟩
theorem d_X3_of_82 : x_dec m_X3_of 82 (.iload_n 1) 1 83 := ⟨by decide +kernel, rfl⟩
theorem d_X3_of_83 : x_dec m_X3_of 83 (.invokevirtual 93) 3 86 := ⟨by decide +kernel, rfl⟩
theorem d_X3_of_86 : x_dec m_X3_of 86 (.ireturn) 1 87 := ⟨by decide +kernel, rfl⟩
theorem d_X3_of_87 : x_dec m_X3_of 87 (.aload_n 0) 1 88 := ⟨by decide +kernel, rfl⟩
theorem d_X3_of_88 : x_dec m_X3_of 88 (.ldc 55) 2 90 := ⟨by decide +kernel, rfl⟩
theorem d_X3_of_90 : x_dec m_X3_of 90 (.invokevirtual 56) 3 93 := ⟨by decide +kernel, rfl⟩
theorem d_X3_of_93 : x_dec m_X3_of 93 (.ireturn) 1 94 := ⟨by decide +kernel, rfl⟩
set_option maxHeartbeats 4000000 in
set_option maxRecDepth 100000 in
theorem c_X3_of (l : Launch) (E : x_E) (μ : x_Mem) (g : x_SG) (hS : XS g μ) (hI : Inv g) (p w : Int32) : x_Met l m_X3_of E [.ref (E.1 + 0), .int p, .int w] μ (x_I (fun z m => z = (F_of g p w).1 ∧ XS (F_of g p w).2 m ∧ ∀ id, 41 ≤ id → m id = μ id)) := by
  obtain ⟨hL, hH, hX, hD⟩ := hS
  have hWF := hI.1.1
  have hn7 := hWF.2.1
  have hpn := hWF.1
  have hF : ∀ id, 41 ≤ id → μ id = μ id := fun _ _ => rfl
  refine x_enter (lv := [(0, .ref (E.1 + 0)), (1, .int p), (2, .int w)]) (by decide +kernel) (Nat.le_of_ble_eq_true rfl) rfl ?_
  refine x_aload_n 0 d_X3_of_0 rfl rfl ?_
  refine x_iload_n 1 d_X3_of_1 rfl rfl ?_
  refine x_cvip (k := 0) (as := [.int p]) (c_X3_isPerson l E μ hL p) v_X3_isPerson w_X3_isPerson q234 o_X rfl ⟨Nat.le_of_ble_eq_true rfl, Nat.le_of_ble_eq_true rfl⟩ rfl (Nat.le_of_ble_eq_true rfl) d_X3_of_2 ?_
  refine x_ifb_ne 15 d_X3_of_5 (by decide) (fun c1 => ?_) (fun c1 => ?_)
  · skip
    obtain ⟨q, hq, rfl⟩ := isP_nat hWF c1
    refine x_iload_n 2 d_X3_of_15 rfl rfl ?_
    by_cases k2 : w = 0
    · have k2T : (w).toInt = 0 := by rw [k2]; decide
      refine x_tswIn 48 (off := 32) d_X3_of_16 (by rw [k2T]; decide) (by rw [k2T]; decide) (by rw [k2T]; decide) (by decide) ?_
      refine x_aload_n 0 d_X3_of_48 rfl rfl ?_
      refine x_getr (j := 0) 1 x_c3 rfl (Nat.le_of_ble_eq_true rfl) q147 rfl d_X3_of_49 ?_
      refine x_getr (j := 1) (1 + 2) x_c0 (p_kd x_pr1) (Nat.le_of_ble_eq_true rfl) q35 (p_f1 x_pr1) d_X3_of_52 ?_
      refine x_iload_n 1 d_X3_of_55 rfl rfl ?_
      refine x_ialdN (z := (gA g) (24 + 3 * q)) 8 q (p_k2 x_pr1) (p_l2 x_pr1) (by omega) (by decide) (PR.kd hL q (by omega)) d_X3_of_56 ?_
      refine x_iret rfl d_X3_of_57 ?_
      have e9 : F_of g (nI q) w = ((gA g) (24 + 3 * q), g) := by simp [F_of, x_b_f, x_b_t, c1, k2, nI_clamp (n := q) (by omega)]
      rw [e9]
      exact ⟨rfl, ⟨hL, hH, hX, hD⟩, hF⟩
    by_cases k3 : w = 1
    · have k3T : (w).toInt = 1 := by rw [k3]; decide
      refine x_tswIn 58 (off := 42) d_X3_of_16 (by rw [k3T]; decide) (by rw [k3T]; decide) (by rw [k3T]; decide) (by decide) ?_
      refine x_aload_n 0 d_X3_of_58 rfl rfl ?_
      refine x_getr (j := 0) 1 x_c3 rfl (Nat.le_of_ble_eq_true rfl) q147 rfl d_X3_of_59 ?_
      refine x_getr (j := 2) (1 + 3) x_c0 (p_kd x_pr1) (Nat.le_of_ble_eq_true rfl) q37 (p_f2 x_pr1) d_X3_of_62 ?_
      refine x_iload_n 1 d_X3_of_65 rfl rfl ?_
      refine x_ialdN (z := (gA g) (24 + 3 * q + 1)) 8 q (p_k3 x_pr1) (p_l3 x_pr1) (by omega) (by decide) (PR.wh hL q (by omega)) d_X3_of_66 ?_
      refine x_iret rfl d_X3_of_67 ?_
      have e9 : F_of g (nI q) w = ((gA g) (24 + 3 * q + 1), g) := by simp [F_of, x_b_f, x_b_t, c1, k3, nI_clamp (n := q) (by omega)]
      rw [e9]
      exact ⟨rfl, ⟨hL, hH, hX, hD⟩, hF⟩
    by_cases k4 : w = 2
    · have k4T : (w).toInt = 2 := by rw [k4]; decide
      refine x_tswIn 68 (off := 52) d_X3_of_16 (by rw [k4T]; decide) (by rw [k4T]; decide) (by rw [k4T]; decide) (by decide) ?_
      refine x_aload_n 0 d_X3_of_68 rfl rfl ?_
      refine x_getr (j := 0) 1 x_c3 rfl (Nat.le_of_ble_eq_true rfl) q147 rfl d_X3_of_69 ?_
      refine x_getr (j := 3) (1 + 4) x_c0 (p_kd x_pr1) (Nat.le_of_ble_eq_true rfl) q39 (p_f3 x_pr1) d_X3_of_72 ?_
      refine x_iload_n 1 d_X3_of_75 rfl rfl ?_
      refine x_ialdN (z := (gA g) (24 + 3 * q + 2)) 8 q (p_k4 x_pr1) (p_l4 x_pr1) (by omega) (by decide) (PR.bl hL q (by omega)) d_X3_of_76 ?_
      refine x_iret rfl d_X3_of_77 ?_
      have e9 : F_of g (nI q) w = ((gA g) (24 + 3 * q + 2), g) := by simp [F_of, x_b_f, x_b_t, c1, k4, nI_clamp (n := q) (by omega)]
      rw [e9]
      exact ⟨rfl, ⟨hL, hH, hX, hD⟩, hF⟩
    by_cases k5 : w = 3
    · have k5T : (w).toInt = 3 := by rw [k5]; decide
      refine x_tswIn 78 (off := 62) d_X3_of_16 (by rw [k5T]; decide) (by rw [k5T]; decide) (by rw [k5T]; decide) (by decide) ?_
      refine x_aload_n 0 d_X3_of_78 rfl rfl ?_
      refine x_getr (j := 0) 1 x_c3 rfl (Nat.le_of_ble_eq_true rfl) q147 rfl d_X3_of_79 ?_
      refine x_iload_n 1 d_X3_of_82 rfl rfl ?_
      refine x_cvip (k := 1) (as := [.int (nI q)]) (c_X0_faith l E μ x_pr1 hL hWF (p := q) (by omega)) v_X0_faith w_X0_faith q238 (p_ob x_pr1) rfl ⟨Nat.le_of_ble_eq_true rfl, Nat.le_of_ble_eq_true rfl⟩ rfl (Nat.le_of_ble_eq_true rfl) d_X3_of_83 ?_
      refine x_iret rfl d_X3_of_86 ?_
      have e9 : F_of g (nI q) w = (faithF (gA g) q, g) := by simp [F_of, x_b_f, x_b_t, c1, k5, nI_clamp (n := q) (by omega)]
      rw [e9]
      exact ⟨rfl, ⟨hL, hH, hX, hD⟩, hF⟩
    have k2T : ¬ (w).toInt = 0 := lv_neT k2 (by decide)
    have k3T : ¬ (w).toInt = 1 := lv_neT k3 (by decide)
    have k4T : ¬ (w).toInt = 2 := lv_neT k4 (by decide)
    have k5T : ¬ (w).toInt = 3 := lv_neT k5 (by decide)
    refine x_tswOut 87 d_X3_of_16 (by omega) (by decide) ?_
    refine x_aload_n 0 d_X3_of_87 rfl rfl ?_
    refine x_ldc q182 d_X3_of_88 ?_
    refine x_cvi (k := 0) (as := [.int (-1000001)]) (c_X3_finding l E μ (i := 0) hD (by decide) (w := (-1000001)) (by decide)) v_X3_finding w_X3_finding q183 o_X rfl ⟨Nat.le_of_ble_eq_true rfl, Nat.le_of_ble_eq_true rfl⟩ rfl (Nat.le_of_ble_eq_true rfl) d_X3_of_90 ?_
    rintro _ μ6 ⟨rfl, hD7, hF8⟩
    have hL9 := PR.cg hL (μ' := μ6) (fun id hid => (hF8 _ (by omega)))
    have hLH10 := hH
    rw [← (show μ6 1 = μ 1 from (hF8 _ (by omega)))] at hLH10
    have hX11 := XR.cg hX (μ' := μ6) (fun id hid => (hF8 _ (by omega)))
    have hF12 : ∀ id, 41 ≤ id → μ6 id = μ id := fun id hid => (show μ6 id = μ id from (hF8 _ (by omega))).trans (hF id hid)
    refine x_iret rfl d_X3_of_93 ?_
    have e9 : F_of g (nI q) w = fin g 0 := by simp [F_of, x_b_f, x_b_t, c1, k2, k3, k4, k5, nI_clamp (n := q) (by omega)]
    rw [e9]
    exact ⟨rfl, XS.fin hL9 hLH10 hX11 hD7, hF12⟩
  · skip
    refine x_aload_n 0 d_X3_of_8 rfl rfl ?_
    refine x_ldc q182 d_X3_of_9 ?_
    refine x_cvi (k := 0) (as := [.int (-1000001)]) (c_X3_finding l E μ (i := 0) hD (by decide) (w := (-1000001)) (by decide)) v_X3_finding w_X3_finding q183 o_X rfl ⟨Nat.le_of_ble_eq_true rfl, Nat.le_of_ble_eq_true rfl⟩ rfl (Nat.le_of_ble_eq_true rfl) d_X3_of_11 ?_
    rintro _ μ13 ⟨rfl, hD14, hF15⟩
    have hL16 := PR.cg hL (μ' := μ13) (fun id hid => (hF15 _ (by omega)))
    have hLH17 := hH
    rw [← (show μ13 1 = μ 1 from (hF15 _ (by omega)))] at hLH17
    have hX18 := XR.cg hX (μ' := μ13) (fun id hid => (hF15 _ (by omega)))
    have hF19 : ∀ id, 41 ≤ id → μ13 id = μ id := fun id hid => (show μ13 id = μ id from (hF15 _ (by omega))).trans (hF id hid)
    refine x_iret rfl d_X3_of_14 ?_
    have e9 : F_of g p w = fin g 0 := by simp [F_of, x_b_f, x_b_t, c1]
    rw [e9]
    exact ⟨rfl, XS.fin hL16 hLH17 hX18 hD14, hF19⟩
def m_X3_change : x_M := (yX3_change, prog_1_method_6_code, 5, (some FieldType.int), 1, 22)
theorem v_X3_change : x_VM m_X3_change 3 := ⟨q242, q1, by decide +kernel, by decide +kernel, by decide +kernel⟩
theorem w_X3_change : x_VI m_X3_change := ⟨q240, q241⟩
theorem d_X3_change_0 : x_dec m_X3_change 0 (.aload_n 0) 1 1 := ⟨by decide +kernel, rfl⟩
theorem d_X3_change_1 : x_dec m_X3_change 1 (.iload_n 1) 1 2 := ⟨by decide +kernel, rfl⟩
theorem d_X3_change_2 : x_dec m_X3_change 2 (.invokevirtual 81) 3 5 := ⟨by decide +kernel, rfl⟩
theorem d_X3_change_5 : x_dec m_X3_change 5 (.ifCond .ne 10) 3 8 := ⟨by decide +kernel, rfl⟩
theorem d_X3_change_8 : x_dec m_X3_change 8 (.aload_n 0) 1 9 := ⟨by decide +kernel, rfl⟩
theorem d_X3_change_9 : x_dec m_X3_change 9 (.ldc 55) 2 11 := ⟨by decide +kernel, rfl⟩
theorem d_X3_change_11 : x_dec m_X3_change 11 (.invokevirtual 56) 3 14 := ⟨by decide +kernel, rfl⟩
theorem d_X3_change_14 : x_dec m_X3_change 14 (.ireturn) 1 15 := ⟨by decide +kernel, rfl⟩
theorem d_X3_change_15 : x_dec m_X3_change 15 (.iload_n 2) 1 16 := ⟨by decide +kernel, rfl⟩
theorem d_X3_change_16 : x_dec m_X3_change 16 (.ifCond .ne 34) 3 19 := ⟨by decide +kernel, rfl⟩
theorem d_X3_change_19 : x_dec m_X3_change 19 (.iload_n 3) 1 20 := ⟨by decide +kernel, rfl⟩
theorem d_X3_change_20 : x_dec m_X3_change 20 (.invokestatic 69) 3 23 := ⟨by decide +kernel, rfl⟩
theorem d_X3_change_23 : x_dec m_X3_change 23 (.ifCond .eq 27) 3 26 := ⟨by decide +kernel, rfl⟩
theorem d_X3_change_26 : x_dec m_X3_change 26 (.aload_n 0) 1 27 := ⟨by decide +kernel, rfl⟩
theorem d_X3_change_27 : x_dec m_X3_change 27 (.getfield 12) 3 30 := ⟨by decide +kernel, rfl⟩
theorem d_X3_change_30 : x_dec m_X3_change 30 (.getfield 84) 3 33 := ⟨by decide +kernel, rfl⟩
theorem d_X3_change_33 : x_dec m_X3_change 33 (.iload_n 1) 1 34 := ⟨by decide +kernel, rfl⟩
theorem d_X3_change_34 : x_dec m_X3_change 34 (.iaload) 1 35 := ⟨by decide +kernel, rfl⟩
theorem d_X3_change_35 : x_dec m_X3_change 35 (.istore 4) 2 37 := ⟨by decide +kernel, rfl⟩
theorem d_X3_change_37 : x_dec m_X3_change 37 (.aload_n 0) 1 38 := ⟨by decide +kernel, rfl⟩
theorem d_X3_change_38 : x_dec m_X3_change 38 (.getfield 12) 3 41 := ⟨by decide +kernel, rfl⟩
theorem d_X3_change_41 : x_dec m_X3_change 41 (.getfield 84) 3 44 := ⟨by decide +kernel, rfl⟩
theorem d_X3_change_44 : x_dec m_X3_change 44 (.iload_n 1) 1 45 := ⟨by decide +kernel, rfl⟩
theorem d_X3_change_45 : x_dec m_X3_change 45 (.iload_n 3) 1 46 := ⟨by decide +kernel, rfl⟩
theorem d_X3_change_46 : x_dec m_X3_change 46 (.iastore) 1 47 := ⟨by decide +kernel, rfl⟩
theorem d_X3_change_47 : x_dec m_X3_change 47 (.goto 89) 3 50 := ⟨by decide +kernel, rfl⟩
theorem d_X3_change_50 : x_dec m_X3_change 50 (.iload_n 2) 1 51 := ⟨by decide +kernel, rfl⟩
theorem d_X3_change_51 : x_dec m_X3_change 51 (.iconst 1) 1 52 := ⟨by decide +kernel, rfl⟩
theorem d_X3_change_52 : x_dec m_X3_change 52 (.if_icmp .ne 37) 3 55 := ⟨by decide +kernel, rfl⟩
theorem d_X3_change_55 : x_dec m_X3_change 55 (.iload_n 3) 1 56 := ⟨by decide +kernel, rfl⟩
theorem d_X3_change_56 : x_dec m_X3_change 56 (.iconst (-1)) 1 57 := ⟨by decide +kernel, rfl⟩
theorem d_X3_change_57 : x_dec m_X3_change 57 (.bipush 16) 2 59 := ⟨by decide +kernel, rfl⟩
theorem d_X3_change_59 : x_dec m_X3_change 59 (.invokestatic 51) 3 62 := ⟨by decide +kernel, rfl⟩
theorem d_X3_change_62 : x_dec m_X3_change 62 (.ifCond .eq 27) 3 65 := ⟨by decide +kernel, rfl⟩
theorem d_X3_change_65 : x_dec m_X3_change 65 (.aload_n 0) 1 66 := ⟨by decide +kernel, rfl⟩
theorem d_X3_change_66 : x_dec m_X3_change 66 (.getfield 12) 3 69 := ⟨by decide +kernel, rfl⟩
theorem d_X3_change_69 : x_dec m_X3_change 69 (.getfield 87) 3 72 := ⟨by decide +kernel, rfl⟩
theorem d_X3_change_72 : x_dec m_X3_change 72 (.iload_n 1) 1 73 := ⟨by decide +kernel, rfl⟩
theorem d_X3_change_73 : x_dec m_X3_change 73 (.iaload) 1 74 := ⟨by decide +kernel, rfl⟩
theorem d_X3_change_74 : x_dec m_X3_change 74 (.istore 4) 2 76 := ⟨by decide +kernel, rfl⟩
theorem d_X3_change_76 : x_dec m_X3_change 76 (.aload_n 0) 1 77 := ⟨by decide +kernel, rfl⟩
theorem d_X3_change_77 : x_dec m_X3_change 77 (.getfield 12) 3 80 := ⟨by decide +kernel, rfl⟩
theorem d_X3_change_80 : x_dec m_X3_change 80 (.getfield 87) 3 83 := ⟨by decide +kernel, rfl⟩
theorem d_X3_change_83 : x_dec m_X3_change 83 (.iload_n 1) 1 84 := ⟨by decide +kernel, rfl⟩
theorem d_X3_change_84 : x_dec m_X3_change 84 (.iload_n 3) 1 85 := ⟨by decide +kernel, rfl⟩
theorem d_X3_change_85 : x_dec m_X3_change 85 (.iastore) 1 86 := ⟨by decide +kernel, rfl⟩
theorem d_X3_change_86 : x_dec m_X3_change 86 (.goto 50) 3 89 := ⟨by decide +kernel, rfl⟩
theorem d_X3_change_89 : x_dec m_X3_change 89 (.iload_n 2) 1 90 := ⟨by decide +kernel, rfl⟩
theorem d_X3_change_90 : x_dec m_X3_change 90 (.iconst 2) 1 91 := ⟨by decide +kernel, rfl⟩
theorem d_X3_change_91 : x_dec m_X3_change 91 (.if_icmp .ne 37) 3 94 := ⟨by decide +kernel, rfl⟩
theorem d_X3_change_94 : x_dec m_X3_change 94 (.iload_n 3) 1 95 := ⟨by decide +kernel, rfl⟩
theorem d_X3_change_95 : x_dec m_X3_change 95 (.iconst 0) 1 96 := ⟨by decide +kernel, rfl⟩
theorem d_X3_change_96 : x_dec m_X3_change 96 (.bipush 99) 2 98 := ⟨by decide +kernel, rfl⟩
theorem d_X3_change_98 : x_dec m_X3_change 98 (.invokestatic 51) 3 101 := ⟨by decide +kernel, rfl⟩
theorem d_X3_change_101 : x_dec m_X3_change 101 (.ifCond .eq 27) 3 104 := ⟨by decide +kernel, rfl⟩
theorem d_X3_change_104 : x_dec m_X3_change 104 (.aload_n 0) 1 105 := ⟨by decide +kernel, rfl⟩
theorem d_X3_change_105 : x_dec m_X3_change 105 (.getfield 12) 3 108 := ⟨by decide +kernel, rfl⟩
theorem d_X3_change_108 : x_dec m_X3_change 108 (.getfield 90) 3 111 := ⟨by decide +kernel, rfl⟩
theorem d_X3_change_111 : x_dec m_X3_change 111 (.iload_n 1) 1 112 := ⟨by decide +kernel, rfl⟩
theorem d_X3_change_112 : x_dec m_X3_change 112 (.iaload) 1 113 := ⟨by decide +kernel, rfl⟩
theorem d_X3_change_113 : x_dec m_X3_change 113 (.istore 4) 2 115 := ⟨by decide +kernel, rfl⟩
theorem d_X3_change_115 : x_dec m_X3_change 115 (.aload_n 0) 1 116 := ⟨by decide +kernel, rfl⟩
theorem d_X3_change_116 : x_dec m_X3_change 116 (.getfield 12) 3 119 := ⟨by decide +kernel, rfl⟩
theorem d_X3_change_119 : x_dec m_X3_change 119 (.getfield 90) 3 122 := ⟨by decide +kernel, rfl⟩
theorem d_X3_change_122 : x_dec m_X3_change 122 (.iload_n 1) 1 123 := ⟨by decide +kernel, rfl⟩
theorem d_X3_change_123 : x_dec m_X3_change 123 (.iload_n 3) 1 124 := ⟨by decide +kernel, rfl⟩
theorem d_X3_change_124 : x_dec m_X3_change 124 (.iastore) 1 125 := ⟨by decide +kernel, rfl⟩
theorem d_X3_change_125 : x_dec m_X3_change 125 (.goto 11) 3 128 := ⟨by decide +kernel, rfl⟩
theorem d_X3_change_128 : x_dec m_X3_change 128 (.aload_n 0) 1 129 := ⟨by decide +kernel, rfl⟩
theorem d_X3_change_129 : x_dec m_X3_change 129 (.ldc 55) 2 131 := ⟨by decide +kernel, rfl⟩
theorem d_X3_change_131 : x_dec m_X3_change 131 (.invokevirtual 56) 3 134 := ⟨by decide +kernel, rfl⟩
theorem d_X3_change_134 : x_dec m_X3_change 134 (.istore 4) 2 136 := ⟨by decide +kernel, rfl⟩
theorem d_X3_change_136 : x_dec m_X3_change 136 (.iload 4) 2 138 := ⟨by decide +kernel, rfl⟩
theorem d_X3_change_138 : x_dec m_X3_change 138 (.ireturn) 1 139 := ⟨by decide +kernel, rfl⟩
set_option maxHeartbeats 4000000 in
set_option maxRecDepth 100000 in
theorem c_X3_change (l : Launch) (E : x_E) (μ : x_Mem) (g : x_SG) (hS : XS g μ) (hI : Inv g) (p w v : Int32) : x_Met l m_X3_change E [.ref (E.1 + 0), .int p, .int w, .int v] μ (x_I (fun z m => z = (F_change g p w v).1 ∧ XS (F_change g p w v).2 m ∧ ∀ id, 41 ≤ id → m id = μ id)) := by
  obtain ⟨hL, hH, hX, hD⟩ := hS
  have hWF := hI.1.1
  have hn7 := hWF.2.1
  have hpn := hWF.1
  have hF : ∀ id, 41 ≤ id → μ id = μ id := fun _ _ => rfl
  refine x_enter (lv := [(0, .ref (E.1 + 0)), (1, .int p), (2, .int w), (3, .int v)]) (by decide +kernel) (Nat.le_of_ble_eq_true rfl) rfl ?_
  refine x_aload_n 0 d_X3_change_0 rfl rfl ?_
  refine x_iload_n 1 d_X3_change_1 rfl rfl ?_
  refine x_cvip (k := 0) (as := [.int p]) (c_X3_isPerson l E μ hL p) v_X3_isPerson w_X3_isPerson q234 o_X rfl ⟨Nat.le_of_ble_eq_true rfl, Nat.le_of_ble_eq_true rfl⟩ rfl (Nat.le_of_ble_eq_true rfl) d_X3_change_2 ?_
  refine x_ifb_ne 15 d_X3_change_5 (by decide) (fun c1 => ?_) (fun c1 => ?_)
  · skip
    obtain ⟨q, hq, rfl⟩ := isP_nat hWF c1
    refine x_iload_n 2 d_X3_change_15 rfl rfl ?_
    refine x_if_ne 50 d_X3_change_16 (by decide) (fun c2 => ?_) (fun c2 => ?_)
    · skip
      refine x_iload_n 2 d_X3_change_50 rfl rfl ?_
      refine x_iconst (x := 1) d_X3_change_51 (by decide) ?_
      refine x_icmp_ne 89 d_X3_change_52 (by decide) (fun c3 => ?_) (fun c3 => ?_)
      · skip
        refine x_iload_n 2 d_X3_change_89 rfl rfl ?_
        refine x_iconst (x := 2) d_X3_change_90 (by decide) ?_
        refine x_icmp_ne 128 d_X3_change_91 (by decide) (fun c4 => ?_) (fun c4 => ?_)
        · skip
          refine x_aload_n 0 d_X3_change_128 rfl rfl ?_
          refine x_ldc q182 d_X3_change_129 ?_
          refine x_cvi (k := 0) (as := [.int (-1000001)]) (c_X3_finding l E μ (i := 0) hD (by decide) (w := (-1000001)) (by decide)) v_X3_finding w_X3_finding q183 o_X rfl ⟨Nat.le_of_ble_eq_true rfl, Nat.le_of_ble_eq_true rfl⟩ rfl (Nat.le_of_ble_eq_true rfl) d_X3_change_131 ?_
          rintro _ μ5 ⟨rfl, hD6, hF7⟩
          have hL8 := PR.cg hL (μ' := μ5) (fun id hid => (hF7 _ (by omega)))
          have hLH9 := hH
          rw [← (show μ5 1 = μ 1 from (hF7 _ (by omega)))] at hLH9
          have hX10 := XR.cg hX (μ' := μ5) (fun id hid => (hF7 _ (by omega)))
          have hF11 : ∀ id, 41 ≤ id → μ5 id = μ id := fun id hid => (show μ5 id = μ id from (hF7 _ (by omega))).trans (hF id hid)
          refine x_istore [(4, .int (-1000001)), (0, .ref (E.1 + 0)), (1, .int (nI q)), (2, .int w), (3, .int v)] d_X3_change_134 (Nat.le_of_ble_eq_true rfl) rfl ?_
          refine x_iload 0 d_X3_change_136 rfl ?_
          refine x_iret rfl d_X3_change_138 ?_
          have e9 : F_change g (nI q) w v = fin g 0 := by simp [F_change, x_b_f, x_b_t, c1, c2, c3, c4, nI_clamp (n := q) (by omega), setL]
          rw [e9]
          exact ⟨rfl, XS.fin hL8 hLH9 hX10 hD6, hF11⟩
        · skip
          refine x_iload_n 3 d_X3_change_94 rfl rfl ?_
          refine x_iconst (x := 0) d_X3_change_95 (by decide) ?_
          refine x_bipush (x := 99) d_X3_change_96 (by decide) ?_
          refine x_csip (as := [.int v, .int 0, .int 99]) (c_X3_isWithin l E μ v 0 99) v_X3_isWithin q180 q179 rfl ⟨Nat.le_of_ble_eq_true rfl, Nat.le_of_ble_eq_true rfl⟩ rfl (Nat.le_of_ble_eq_true rfl) d_X3_change_98 ?_
          refine x_ifb_eq 128 d_X3_change_101 (by decide) (fun c12 => ?_) (fun c12 => ?_)
          · skip
            refine x_aload_n 0 d_X3_change_128 rfl rfl ?_
            refine x_ldc q182 d_X3_change_129 ?_
            refine x_cvi (k := 0) (as := [.int (-1000001)]) (c_X3_finding l E μ (i := 0) hD (by decide) (w := (-1000001)) (by decide)) v_X3_finding w_X3_finding q183 o_X rfl ⟨Nat.le_of_ble_eq_true rfl, Nat.le_of_ble_eq_true rfl⟩ rfl (Nat.le_of_ble_eq_true rfl) d_X3_change_131 ?_
            rintro _ μ13 ⟨rfl, hD14, hF15⟩
            have hL16 := PR.cg hL (μ' := μ13) (fun id hid => (hF15 _ (by omega)))
            have hLH17 := hH
            rw [← (show μ13 1 = μ 1 from (hF15 _ (by omega)))] at hLH17
            have hX18 := XR.cg hX (μ' := μ13) (fun id hid => (hF15 _ (by omega)))
            have hF19 : ∀ id, 41 ≤ id → μ13 id = μ id := fun id hid => (show μ13 id = μ id from (hF15 _ (by omega))).trans (hF id hid)
            refine x_istore [(4, .int (-1000001)), (0, .ref (E.1 + 0)), (1, .int (nI q)), (2, .int w), (3, .int v)] d_X3_change_134 (Nat.le_of_ble_eq_true rfl) rfl ?_
            refine x_iload 0 d_X3_change_136 rfl ?_
            refine x_iret rfl d_X3_change_138 ?_
            have e9 : F_change g (nI q) w v = fin g 0 := by simp [F_change, x_b_f, x_b_t, c1, c2, c3, c4, c12, nI_clamp (n := q) (by omega), setL]
            rw [e9]
            exact ⟨rfl, XS.fin hL16 hLH17 hX18 hD14, hF19⟩
          · skip
            refine x_aload_n 0 d_X3_change_104 rfl rfl ?_
            refine x_getr (j := 0) 1 x_c3 rfl (Nat.le_of_ble_eq_true rfl) q147 rfl d_X3_change_105 ?_
            refine x_getr (j := 3) (1 + 4) x_c0 (p_kd x_pr1) (Nat.le_of_ble_eq_true rfl) q39 (p_f3 x_pr1) d_X3_change_108 ?_
            refine x_iload_n 1 d_X3_change_111 rfl rfl ?_
            refine x_ialdN (z := (gA g) (24 + 3 * q + 2)) 8 q (p_k4 x_pr1) (p_l4 x_pr1) (by omega) (by decide) (PR.bl hL q (by omega)) d_X3_change_112 ?_
            refine x_istore [(4, .int ((gA g) (24 + 3 * q + 2))), (0, .ref (E.1 + 0)), (1, .int (nI q)), (2, .int w), (3, .int v)] d_X3_change_113 (Nat.le_of_ble_eq_true rfl) rfl ?_
            refine x_aload_n 1 d_X3_change_115 rfl rfl ?_
            refine x_getr (j := 0) 1 x_c3 rfl (Nat.le_of_ble_eq_true rfl) q147 rfl d_X3_change_116 ?_
            refine x_getr (j := 3) (1 + 4) x_c0 (p_kd x_pr1) (Nat.le_of_ble_eq_true rfl) q39 (p_f3 x_pr1) d_X3_change_119 ?_
            refine x_iload_n 2 d_X3_change_122 rfl rfl ?_
            refine x_iload_n 4 d_X3_change_123 rfl rfl ?_
            refine x_iastNG 8 q (p_k4 x_pr1) (p_l4 x_pr1) (by omega) (by decide) d_X3_change_124 (fun μ20 eμ20 => ?_)
            have hL21 : PR (upd (gA g) (24 + 3 * q + 2) v) 1 μ20 := PR.a4 hL eμ20 (by omega)
            have hLH22 := hH
            rw [← (show μ20 1 = μ 1 from (by rw [eμ20, upd2_ne _ _ _ (by omega)]))] at hLH22
            have hX23 := XR.cg hX (μ' := μ20) (fun id hid => (by rw [eμ20, upd2_ne _ _ _ (by omega)]))
            have hD24 := XD.cg hD (μ' := μ20) (fun id hid => (by rw [eμ20, upd2_ne _ _ _ (by omega)]))
            have hF25 : ∀ id, 41 ≤ id → μ20 id = μ id := fun id hid => (show μ20 id = μ id from (by rw [eμ20, upd2_ne _ _ _ (by omega)])).trans (hF id hid)
            refine x_goto 136 d_X3_change_125 (by decide) ?_
            refine x_iload 0 d_X3_change_136 rfl ?_
            refine x_iret rfl d_X3_change_138 ?_
            have e9 : F_change g (nI q) w v = ((gA g) (24 + 3 * q + 2), sA g (upd (gA g) (24 + 3 * q + 2) v)) := by simp [F_change, x_b_f, x_b_t, c1, c2, c3, c4, c12, nI_clamp (n := q) (by omega), setL]
            rw [e9]
            exact ⟨rfl, XS.line hL21 (by (repeat rw [upd_n _ _ (by omega)]); exact hLH22) hX23 hD24, hF25⟩
      · skip
        refine x_iload_n 3 d_X3_change_55 rfl rfl ?_
        refine x_iconst (x := (-1)) d_X3_change_56 (by decide) ?_
        refine x_bipush (x := 16) d_X3_change_57 (by decide) ?_
        refine x_csip (as := [.int v, .int (-1), .int 16]) (c_X3_isWithin l E μ v (-1) 16) v_X3_isWithin q180 q179 rfl ⟨Nat.le_of_ble_eq_true rfl, Nat.le_of_ble_eq_true rfl⟩ rfl (Nat.le_of_ble_eq_true rfl) d_X3_change_59 ?_
        refine x_ifb_eq 89 d_X3_change_62 (by decide) (fun c26 => ?_) (fun c26 => ?_)
        · skip
          refine x_iload_n 2 d_X3_change_89 rfl rfl ?_
          refine x_iconst (x := 2) d_X3_change_90 (by decide) ?_
          refine x_icmp_ne 128 d_X3_change_91 (by decide) (fun c27 => ?_) (fun c27 => ?_)
          · skip
            refine x_aload_n 0 d_X3_change_128 rfl rfl ?_
            refine x_ldc q182 d_X3_change_129 ?_
            refine x_cvi (k := 0) (as := [.int (-1000001)]) (c_X3_finding l E μ (i := 0) hD (by decide) (w := (-1000001)) (by decide)) v_X3_finding w_X3_finding q183 o_X rfl ⟨Nat.le_of_ble_eq_true rfl, Nat.le_of_ble_eq_true rfl⟩ rfl (Nat.le_of_ble_eq_true rfl) d_X3_change_131 ?_
            rintro _ μ28 ⟨rfl, hD29, hF30⟩
            have hL31 := PR.cg hL (μ' := μ28) (fun id hid => (hF30 _ (by omega)))
            have hLH32 := hH
            rw [← (show μ28 1 = μ 1 from (hF30 _ (by omega)))] at hLH32
            have hX33 := XR.cg hX (μ' := μ28) (fun id hid => (hF30 _ (by omega)))
            have hF34 : ∀ id, 41 ≤ id → μ28 id = μ id := fun id hid => (show μ28 id = μ id from (hF30 _ (by omega))).trans (hF id hid)
            refine x_istore [(4, .int (-1000001)), (0, .ref (E.1 + 0)), (1, .int (nI q)), (2, .int w), (3, .int v)] d_X3_change_134 (Nat.le_of_ble_eq_true rfl) rfl ?_
            refine x_iload 0 d_X3_change_136 rfl ?_
            refine x_iret rfl d_X3_change_138 ?_
            have e9 : F_change g (nI q) w v = fin g 0 := by simp [F_change, x_b_f, x_b_t, c1, c2, c3, c26, c27, nI_clamp (n := q) (by omega), setL]
            rw [e9]
            exact ⟨rfl, XS.fin hL31 hLH32 hX33 hD29, hF34⟩
          · skip
            exact absurd (c3.symm.trans c27) (by decide)
        · skip
          refine x_aload_n 0 d_X3_change_65 rfl rfl ?_
          refine x_getr (j := 0) 1 x_c3 rfl (Nat.le_of_ble_eq_true rfl) q147 rfl d_X3_change_66 ?_
          refine x_getr (j := 2) (1 + 3) x_c0 (p_kd x_pr1) (Nat.le_of_ble_eq_true rfl) q37 (p_f2 x_pr1) d_X3_change_69 ?_
          refine x_iload_n 1 d_X3_change_72 rfl rfl ?_
          refine x_ialdN (z := (gA g) (24 + 3 * q + 1)) 8 q (p_k3 x_pr1) (p_l3 x_pr1) (by omega) (by decide) (PR.wh hL q (by omega)) d_X3_change_73 ?_
          refine x_istore [(4, .int ((gA g) (24 + 3 * q + 1))), (0, .ref (E.1 + 0)), (1, .int (nI q)), (2, .int w), (3, .int v)] d_X3_change_74 (Nat.le_of_ble_eq_true rfl) rfl ?_
          refine x_aload_n 1 d_X3_change_76 rfl rfl ?_
          refine x_getr (j := 0) 1 x_c3 rfl (Nat.le_of_ble_eq_true rfl) q147 rfl d_X3_change_77 ?_
          refine x_getr (j := 2) (1 + 3) x_c0 (p_kd x_pr1) (Nat.le_of_ble_eq_true rfl) q37 (p_f2 x_pr1) d_X3_change_80 ?_
          refine x_iload_n 2 d_X3_change_83 rfl rfl ?_
          refine x_iload_n 4 d_X3_change_84 rfl rfl ?_
          refine x_iastNG 8 q (p_k3 x_pr1) (p_l3 x_pr1) (by omega) (by decide) d_X3_change_85 (fun μ35 eμ35 => ?_)
          have hL36 : PR (upd (gA g) (24 + 3 * q + 1) v) 1 μ35 := PR.a3 hL eμ35 (by omega)
          have hLH37 := hH
          rw [← (show μ35 1 = μ 1 from (by rw [eμ35, upd2_ne _ _ _ (by omega)]))] at hLH37
          have hX38 := XR.cg hX (μ' := μ35) (fun id hid => (by rw [eμ35, upd2_ne _ _ _ (by omega)]))
          have hD39 := XD.cg hD (μ' := μ35) (fun id hid => (by rw [eμ35, upd2_ne _ _ _ (by omega)]))
          have hF40 : ∀ id, 41 ≤ id → μ35 id = μ id := fun id hid => (show μ35 id = μ id from (by rw [eμ35, upd2_ne _ _ _ (by omega)])).trans (hF id hid)
          refine x_goto 136 d_X3_change_86 (by decide) ?_
          refine x_iload 0 d_X3_change_136 rfl ?_
          refine x_iret rfl d_X3_change_138 ?_
          have e9 : F_change g (nI q) w v = ((gA g) (24 + 3 * q + 1), sA g (upd (gA g) (24 + 3 * q + 1) v)) := by simp [F_change, x_b_f, x_b_t, c1, c2, c3, c26, nI_clamp (n := q) (by omega), setL]
          rw [e9]
          exact ⟨rfl, XS.line hL36 (by (repeat rw [upd_n _ _ (by omega)]); exact hLH37) hX38 hD39, hF40⟩
    · skip
      refine x_iload_n 3 d_X3_change_19 rfl rfl ?_
      refine x_csip (as := [.int v]) (c_X3_isKind l E μ v) v_X3_isKind q223 q222 rfl ⟨Nat.le_of_ble_eq_true rfl, Nat.le_of_ble_eq_true rfl⟩ rfl (Nat.le_of_ble_eq_true rfl) d_X3_change_20 ?_
      refine x_ifb_eq 50 d_X3_change_23 (by decide) (fun c41 => ?_) (fun c41 => ?_)
      · skip
        refine x_iload_n 2 d_X3_change_50 rfl rfl ?_
        refine x_iconst (x := 1) d_X3_change_51 (by decide) ?_
        refine x_icmp_ne 89 d_X3_change_52 (by decide) (fun c42 => ?_) (fun c42 => ?_)
        · skip
          refine x_iload_n 2 d_X3_change_89 rfl rfl ?_
          refine x_iconst (x := 2) d_X3_change_90 (by decide) ?_
          refine x_icmp_ne 128 d_X3_change_91 (by decide) (fun c43 => ?_) (fun c43 => ?_)
          · skip
            refine x_aload_n 0 d_X3_change_128 rfl rfl ?_
            refine x_ldc q182 d_X3_change_129 ?_
            refine x_cvi (k := 0) (as := [.int (-1000001)]) (c_X3_finding l E μ (i := 0) hD (by decide) (w := (-1000001)) (by decide)) v_X3_finding w_X3_finding q183 o_X rfl ⟨Nat.le_of_ble_eq_true rfl, Nat.le_of_ble_eq_true rfl⟩ rfl (Nat.le_of_ble_eq_true rfl) d_X3_change_131 ?_
            rintro _ μ44 ⟨rfl, hD45, hF46⟩
            have hL47 := PR.cg hL (μ' := μ44) (fun id hid => (hF46 _ (by omega)))
            have hLH48 := hH
            rw [← (show μ44 1 = μ 1 from (hF46 _ (by omega)))] at hLH48
            have hX49 := XR.cg hX (μ' := μ44) (fun id hid => (hF46 _ (by omega)))
            have hF50 : ∀ id, 41 ≤ id → μ44 id = μ id := fun id hid => (show μ44 id = μ id from (hF46 _ (by omega))).trans (hF id hid)
            refine x_istore [(4, .int (-1000001)), (0, .ref (E.1 + 0)), (1, .int (nI q)), (2, .int w), (3, .int v)] d_X3_change_134 (Nat.le_of_ble_eq_true rfl) rfl ?_
            refine x_iload 0 d_X3_change_136 rfl ?_
            refine x_iret rfl d_X3_change_138 ?_
            have e9 : F_change g (nI q) w v = fin g 0 := by simp [F_change, x_b_f, x_b_t, c1, c2, c41, c42, c43, nI_clamp (n := q) (by omega), setL]
            rw [e9]
            exact ⟨rfl, XS.fin hL47 hLH48 hX49 hD45, hF50⟩
          · skip
            exact absurd (c2.symm.trans c43) (by decide)
        · skip
          exact absurd (c2.symm.trans c42) (by decide)
      · skip
        refine x_aload_n 0 d_X3_change_26 rfl rfl ?_
        refine x_getr (j := 0) 1 x_c3 rfl (Nat.le_of_ble_eq_true rfl) q147 rfl d_X3_change_27 ?_
        refine x_getr (j := 1) (1 + 2) x_c0 (p_kd x_pr1) (Nat.le_of_ble_eq_true rfl) q35 (p_f1 x_pr1) d_X3_change_30 ?_
        refine x_iload_n 1 d_X3_change_33 rfl rfl ?_
        refine x_ialdN (z := (gA g) (24 + 3 * q)) 8 q (p_k2 x_pr1) (p_l2 x_pr1) (by omega) (by decide) (PR.kd hL q (by omega)) d_X3_change_34 ?_
        refine x_istore [(4, .int ((gA g) (24 + 3 * q))), (0, .ref (E.1 + 0)), (1, .int (nI q)), (2, .int w), (3, .int v)] d_X3_change_35 (Nat.le_of_ble_eq_true rfl) rfl ?_
        refine x_aload_n 1 d_X3_change_37 rfl rfl ?_
        refine x_getr (j := 0) 1 x_c3 rfl (Nat.le_of_ble_eq_true rfl) q147 rfl d_X3_change_38 ?_
        refine x_getr (j := 1) (1 + 2) x_c0 (p_kd x_pr1) (Nat.le_of_ble_eq_true rfl) q35 (p_f1 x_pr1) d_X3_change_41 ?_
        refine x_iload_n 2 d_X3_change_44 rfl rfl ?_
        refine x_iload_n 4 d_X3_change_45 rfl rfl ?_
        refine x_iastNG 8 q (p_k2 x_pr1) (p_l2 x_pr1) (by omega) (by decide) d_X3_change_46 (fun μ51 eμ51 => ?_)
        have hL52 : PR (upd (gA g) (24 + 3 * q) v) 1 μ51 := PR.a2 hL eμ51 (by omega)
        have hLH53 := hH
        rw [← (show μ51 1 = μ 1 from (by rw [eμ51, upd2_ne _ _ _ (by omega)]))] at hLH53
        have hX54 := XR.cg hX (μ' := μ51) (fun id hid => (by rw [eμ51, upd2_ne _ _ _ (by omega)]))
        have hD55 := XD.cg hD (μ' := μ51) (fun id hid => (by rw [eμ51, upd2_ne _ _ _ (by omega)]))
        have hF56 : ∀ id, 41 ≤ id → μ51 id = μ id := fun id hid => (show μ51 id = μ id from (by rw [eμ51, upd2_ne _ _ _ (by omega)])).trans (hF id hid)
        refine x_goto 136 d_X3_change_47 (by decide) ?_
        refine x_iload 0 d_X3_change_136 rfl ?_
        refine x_iret rfl d_X3_change_138 ?_
        have e9 : F_change g (nI q) w v = ((gA g) (24 + 3 * q), sA g (upd (gA g) (24 + 3 * q) v)) := by simp [F_change, x_b_f, x_b_t, c1, c2, c41, nI_clamp (n := q) (by omega), setL]
        rw [e9]
        exact ⟨rfl, XS.line hL52 (by (repeat rw [upd_n _ _ (by omega)]); exact hLH53) hX54 hD55, hF56⟩
  · skip
    refine x_aload_n 0 d_X3_change_8 rfl rfl ?_
    refine x_ldc q182 d_X3_change_9 ?_
    refine x_cvi (k := 0) (as := [.int (-1000001)]) (c_X3_finding l E μ (i := 0) hD (by decide) (w := (-1000001)) (by decide)) v_X3_finding w_X3_finding q183 o_X rfl ⟨Nat.le_of_ble_eq_true rfl, Nat.le_of_ble_eq_true rfl⟩ rfl (Nat.le_of_ble_eq_true rfl) d_X3_change_11 ?_
    rintro _ μ57 ⟨rfl, hD58, hF59⟩
    have hL60 := PR.cg hL (μ' := μ57) (fun id hid => (hF59 _ (by omega)))
    have hLH61 := hH
    rw [← (show μ57 1 = μ 1 from (hF59 _ (by omega)))] at hLH61
    have hX62 := XR.cg hX (μ' := μ57) (fun id hid => (hF59 _ (by omega)))
    have hF63 : ∀ id, 41 ≤ id → μ57 id = μ id := fun id hid => (show μ57 id = μ id from (hF59 _ (by omega))).trans (hF id hid)
    refine x_iret rfl d_X3_change_14 ?_
    have e9 : F_change g p w v = fin g 0 := by simp [F_change, x_b_f, x_b_t, c1, setL]
    rw [e9]
    exact ⟨rfl, XS.fin hL60 hLH61 hX62 hD58, hF63⟩
def m_X3_set : x_M := (yX3_set, prog_1_method_7_code, 4, (some FieldType.int), 1, 22)
theorem v_X3_set : x_VM m_X3_set 2 := ⟨q246, q1, by decide +kernel, by decide +kernel, by decide +kernel⟩
theorem w_X3_set : x_VI m_X3_set := ⟨q244, q245⟩
theorem d_X3_set_0 : x_dec m_X3_set 0 (.iload_n 1) 1 1 := ⟨by decide +kernel, rfl⟩
theorem d_X3_set_1 : x_dec m_X3_set 1 (.ifCond .ne 29) 3 4 := ⟨by decide +kernel, rfl⟩
theorem d_X3_set_4 : x_dec m_X3_set 4 (.iload_n 2) 1 5 := ⟨by decide +kernel, rfl⟩
theorem d_X3_set_5 : x_dec m_X3_set 5 (.invokestatic 96) 3 8 := ⟨by decide +kernel, rfl⟩
theorem d_X3_set_8 : x_dec m_X3_set 8 (.ifCond .eq 22) 3 11 := ⟨by decide +kernel, rfl⟩
theorem d_X3_set_11 : x_dec m_X3_set 11 (.aload_n 0) 1 12 := ⟨by decide +kernel, rfl⟩
theorem d_X3_set_12 : x_dec m_X3_set 12 (.getfield 12) 3 15 := ⟨by decide +kernel, rfl⟩
theorem d_X3_set_15 : x_dec m_X3_set 15 (.getfield 99) 3 18 := ⟨by decide +kernel, rfl⟩
theorem d_X3_set_18 : x_dec m_X3_set 18 (.istore_n 3) 1 19 := ⟨by decide +kernel, rfl⟩
theorem d_X3_set_19 : x_dec m_X3_set 19 (.aload_n 0) 1 20 := ⟨by decide +kernel, rfl⟩
theorem d_X3_set_20 : x_dec m_X3_set 20 (.getfield 12) 3 23 := ⟨by decide +kernel, rfl⟩
theorem d_X3_set_23 : x_dec m_X3_set 23 (.iload_n 2) 1 24 := ⟨by decide +kernel, rfl⟩
theorem d_X3_set_24 : x_dec m_X3_set 24 (.putfield 99) 3 27 := ⟨by decide +kernel, rfl⟩
theorem d_X3_set_27 : x_dec m_X3_set 27 (.goto 111) 3 30 := ⟨by decide +kernel, rfl⟩
theorem d_X3_set_30 : x_dec m_X3_set 30 (.iload_n 1) 1 31 := ⟨by decide +kernel, rfl⟩
theorem d_X3_set_31 : x_dec m_X3_set 31 (.iconst 1) 1 32 := ⟨by decide +kernel, rfl⟩
theorem d_X3_set_32 : x_dec m_X3_set 32 (.if_icmp .ne 31) 3 35 := ⟨by decide +kernel, rfl⟩
theorem d_X3_set_35 : x_dec m_X3_set 35 (.iload_n 2) 1 36 := ⟨by decide +kernel, rfl⟩
theorem d_X3_set_36 : x_dec m_X3_set 36 (.iconst 0) 1 37 := ⟨by decide +kernel, rfl⟩
theorem d_X3_set_37 : x_dec m_X3_set 37 (.iconst 1) 1 38 := ⟨by decide +kernel, rfl⟩
theorem d_X3_set_38 : x_dec m_X3_set 38 (.invokestatic 51) 3 41 := ⟨by decide +kernel, rfl⟩
theorem d_X3_set_41 : x_dec m_X3_set 41 (.ifCond .eq 22) 3 44 := ⟨by decide +kernel, rfl⟩
theorem d_X3_set_44 : x_dec m_X3_set 44 (.aload_n 0) 1 45 := ⟨by decide +kernel, rfl⟩
theorem d_X3_set_45 : x_dec m_X3_set 45 (.getfield 12) 3 48 := ⟨by decide +kernel, rfl⟩
theorem d_X3_set_48 : x_dec m_X3_set 48 (.getfield 102) 3 51 := ⟨by decide +kernel, rfl⟩
theorem d_X3_set_51 : x_dec m_X3_set 51 (.istore_n 3) 1 52 := ⟨by decide +kernel, rfl⟩
theorem d_X3_set_52 : x_dec m_X3_set 52 (.aload_n 0) 1 53 := ⟨by decide +kernel, rfl⟩
theorem d_X3_set_53 : x_dec m_X3_set 53 (.getfield 12) 3 56 := ⟨by decide +kernel, rfl⟩
theorem d_X3_set_56 : x_dec m_X3_set 56 (.iload_n 2) 1 57 := ⟨by decide +kernel, rfl⟩
theorem d_X3_set_57 : x_dec m_X3_set 57 (.putfield 102) 3 60 := ⟨by decide +kernel, rfl⟩
theorem d_X3_set_60 : x_dec m_X3_set 60 (.goto 78) 3 63 := ⟨by decide +kernel, rfl⟩
theorem d_X3_set_63 : x_dec m_X3_set 63 (.iload_n 1) 1 64 := ⟨by decide +kernel, rfl⟩
theorem d_X3_set_64 : x_dec m_X3_set 64 (.iconst 2) 1 65 := ⟨by decide +kernel, rfl⟩
theorem d_X3_set_65 : x_dec m_X3_set 65 (.if_icmp .ne 32) 3 68 := ⟨by decide +kernel, rfl⟩
theorem d_X3_set_68 : x_dec m_X3_set 68 (.iload_n 2) 1 69 := ⟨by decide +kernel, rfl⟩
theorem d_X3_set_69 : x_dec m_X3_set 69 (.iconst 0) 1 70 := ⟨by decide +kernel, rfl⟩
theorem d_X3_set_70 : x_dec m_X3_set 70 (.bipush 20) 2 72 := ⟨by decide +kernel, rfl⟩
theorem d_X3_set_72 : x_dec m_X3_set 72 (.invokestatic 51) 3 75 := ⟨by decide +kernel, rfl⟩
theorem d_X3_set_75 : x_dec m_X3_set 75 (.ifCond .eq 22) 3 78 := ⟨by decide +kernel, rfl⟩
theorem d_X3_set_78 : x_dec m_X3_set 78 (.aload_n 0) 1 79 := ⟨by decide +kernel, rfl⟩
theorem d_X3_set_79 : x_dec m_X3_set 79 (.getfield 12) 3 82 := ⟨by decide +kernel, rfl⟩
theorem d_X3_set_82 : x_dec m_X3_set 82 (.getfield 105) 3 85 := ⟨by decide +kernel, rfl⟩
theorem d_X3_set_85 : x_dec m_X3_set 85 (.istore_n 3) 1 86 := ⟨by decide +kernel, rfl⟩
theorem d_X3_set_86 : x_dec m_X3_set 86 (.aload_n 0) 1 87 := ⟨by decide +kernel, rfl⟩
theorem d_X3_set_87 : x_dec m_X3_set 87 (.getfield 12) 3 90 := ⟨by decide +kernel, rfl⟩
theorem d_X3_set_90 : x_dec m_X3_set 90 (.iload_n 2) 1 91 := ⟨by decide +kernel, rfl⟩
theorem d_X3_set_91 : x_dec m_X3_set 91 (.putfield 105) 3 94 := ⟨by decide +kernel, rfl⟩
theorem d_X3_set_94 : x_dec m_X3_set 94 (.goto 44) 3 97 := ⟨by decide +kernel, rfl⟩
theorem d_X3_set_97 : x_dec m_X3_set 97 (.iload_n 1) 1 98 := ⟨by decide +kernel, rfl⟩
theorem d_X3_set_98 : x_dec m_X3_set 98 (.iconst 3) 1 99 := ⟨by decide +kernel, rfl⟩
theorem d_X3_set_99 : x_dec m_X3_set 99 (.if_icmp .ne 32) 3 102 := ⟨by decide +kernel, rfl⟩
theorem d_X3_set_102 : x_dec m_X3_set 102 (.iload_n 2) 1 103 := ⟨by decide +kernel, rfl⟩
theorem d_X3_set_103 : x_dec m_X3_set 103 (.iconst 0) 1 104 := ⟨by decide +kernel, rfl⟩
theorem d_X3_set_104 : x_dec m_X3_set 104 (.bipush 20) 2 106 := ⟨by decide +kernel, rfl⟩
theorem d_X3_set_106 : x_dec m_X3_set 106 (.invokestatic 51) 3 109 := ⟨by decide +kernel, rfl⟩
theorem d_X3_set_109 : x_dec m_X3_set 109 (.ifCond .eq 22) 3 112 := ⟨by decide +kernel, rfl⟩
theorem d_X3_set_112 : x_dec m_X3_set 112 (.aload_n 0) 1 113 := ⟨by decide +kernel, rfl⟩
theorem d_X3_set_113 : x_dec m_X3_set 113 (.getfield 12) 3 116 := ⟨by decide +kernel, rfl⟩
theorem d_X3_set_116 : x_dec m_X3_set 116 (.getfield 108) 3 119 := ⟨by decide +kernel, rfl⟩
theorem d_X3_set_119 : x_dec m_X3_set 119 (.istore_n 3) 1 120 := ⟨by decide +kernel, rfl⟩
theorem d_X3_set_120 : x_dec m_X3_set 120 (.aload_n 0) 1 121 := ⟨by decide +kernel, rfl⟩
theorem d_X3_set_121 : x_dec m_X3_set 121 (.getfield 12) 3 124 := ⟨by decide +kernel, rfl⟩
theorem d_X3_set_124 : x_dec m_X3_set 124 (.iload_n 2) 1 125 := ⟨by decide +kernel, rfl⟩
theorem d_X3_set_125 : x_dec m_X3_set 125 (.putfield 108) 3 128 := ⟨by decide +kernel, rfl⟩
theorem d_X3_set_128 : x_dec m_X3_set 128 (.goto 10) 3 131 := ⟨by decide +kernel, rfl⟩
theorem d_X3_set_131 : x_dec m_X3_set 131 (.aload_n 0) 1 132 := ⟨by decide +kernel, rfl⟩
theorem d_X3_set_132 : x_dec m_X3_set 132 (.ldc 55) 2 134 := ⟨by decide +kernel, rfl⟩
theorem d_X3_set_134 : x_dec m_X3_set 134 (.invokevirtual 56) 3 137 := ⟨by decide +kernel, rfl⟩
theorem d_X3_set_137 : x_dec m_X3_set 137 (.istore_n 3) 1 138 := ⟨by decide +kernel, rfl⟩
theorem d_X3_set_138 : x_dec m_X3_set 138 (.iload_n 3) 1 139 := ⟨by decide +kernel, rfl⟩
theorem d_X3_set_139 : x_dec m_X3_set 139 (.ireturn) 1 140 := ⟨by decide +kernel, rfl⟩
set_option maxHeartbeats 4000000 in
set_option maxRecDepth 100000 in
theorem c_X3_set (l : Launch) (E : x_E) (μ : x_Mem) (g : x_SG) (hS : XS g μ) (hI : Inv g) (w v : Int32) : x_Met l m_X3_set E [.ref (E.1 + 0), .int w, .int v] μ (x_I (fun z m => z = (F_set g w v).1 ∧ XS (F_set g w v).2 m ∧ ∀ id, 41 ≤ id → m id = μ id)) := by
  obtain ⟨hL, hH, hX, hD⟩ := hS
  have hWF := hI.1.1
  have hn7 := hWF.2.1
  have hpn := hWF.1
  have hF : ∀ id, 41 ≤ id → μ id = μ id := fun _ _ => rfl
  refine x_enter (lv := [(0, .ref (E.1 + 0)), (1, .int w), (2, .int v)]) (by decide +kernel) (Nat.le_of_ble_eq_true rfl) rfl ?_
  refine x_iload_n 1 d_X3_set_0 rfl rfl ?_
  refine x_if_ne 30 d_X3_set_1 (by decide) (fun c1 => ?_) (fun c1 => ?_)
  · skip
    refine x_iload_n 1 d_X3_set_30 rfl rfl ?_
    refine x_iconst (x := 1) d_X3_set_31 (by decide) ?_
    refine x_icmp_ne 63 d_X3_set_32 (by decide) (fun c2 => ?_) (fun c2 => ?_)
    · skip
      refine x_iload_n 1 d_X3_set_63 rfl rfl ?_
      refine x_iconst (x := 2) d_X3_set_64 (by decide) ?_
      refine x_icmp_ne 97 d_X3_set_65 (by decide) (fun c3 => ?_) (fun c3 => ?_)
      · skip
        refine x_iload_n 1 d_X3_set_97 rfl rfl ?_
        refine x_iconst (x := 3) d_X3_set_98 (by decide) ?_
        refine x_icmp_ne 131 d_X3_set_99 (by decide) (fun c4 => ?_) (fun c4 => ?_)
        · skip
          refine x_aload_n 0 d_X3_set_131 rfl rfl ?_
          refine x_ldc q182 d_X3_set_132 ?_
          refine x_cvi (k := 0) (as := [.int (-1000001)]) (c_X3_finding l E μ (i := 0) hD (by decide) (w := (-1000001)) (by decide)) v_X3_finding w_X3_finding q183 o_X rfl ⟨Nat.le_of_ble_eq_true rfl, Nat.le_of_ble_eq_true rfl⟩ rfl (Nat.le_of_ble_eq_true rfl) d_X3_set_134 ?_
          rintro _ μ5 ⟨rfl, hD6, hF7⟩
          have hL8 := PR.cg hL (μ' := μ5) (fun id hid => (hF7 _ (by omega)))
          have hLH9 := hH
          rw [← (show μ5 1 = μ 1 from (hF7 _ (by omega)))] at hLH9
          have hX10 := XR.cg hX (μ' := μ5) (fun id hid => (hF7 _ (by omega)))
          have hF11 : ∀ id, 41 ≤ id → μ5 id = μ id := fun id hid => (show μ5 id = μ id from (hF7 _ (by omega))).trans (hF id hid)
          refine x_istore_n [(3, .int (-1000001)), (0, .ref (E.1 + 0)), (1, .int w), (2, .int v)] d_X3_set_137 rfl (Nat.le_of_ble_eq_true rfl) rfl ?_
          refine x_iload_n 0 d_X3_set_138 rfl rfl ?_
          refine x_iret rfl d_X3_set_139 ?_
          have e9 : F_set g w v = fin g 0 := by simp [F_set, x_b_f, x_b_t, c1, c2, c3, c4, setL]
          rw [e9]
          exact ⟨rfl, XS.fin hL8 hLH9 hX10 hD6, hF11⟩
        · skip
          refine x_iload_n 2 d_X3_set_102 rfl rfl ?_
          refine x_iconst (x := 0) d_X3_set_103 (by decide) ?_
          refine x_bipush (x := 20) d_X3_set_104 (by decide) ?_
          refine x_csip (as := [.int v, .int 0, .int 20]) (c_X3_isWithin l E μ v 0 20) v_X3_isWithin q180 q179 rfl ⟨Nat.le_of_ble_eq_true rfl, Nat.le_of_ble_eq_true rfl⟩ rfl (Nat.le_of_ble_eq_true rfl) d_X3_set_106 ?_
          refine x_ifb_eq 131 d_X3_set_109 (by decide) (fun c12 => ?_) (fun c12 => ?_)
          · skip
            refine x_aload_n 0 d_X3_set_131 rfl rfl ?_
            refine x_ldc q182 d_X3_set_132 ?_
            refine x_cvi (k := 0) (as := [.int (-1000001)]) (c_X3_finding l E μ (i := 0) hD (by decide) (w := (-1000001)) (by decide)) v_X3_finding w_X3_finding q183 o_X rfl ⟨Nat.le_of_ble_eq_true rfl, Nat.le_of_ble_eq_true rfl⟩ rfl (Nat.le_of_ble_eq_true rfl) d_X3_set_134 ?_
            rintro _ μ13 ⟨rfl, hD14, hF15⟩
            have hL16 := PR.cg hL (μ' := μ13) (fun id hid => (hF15 _ (by omega)))
            have hLH17 := hH
            rw [← (show μ13 1 = μ 1 from (hF15 _ (by omega)))] at hLH17
            have hX18 := XR.cg hX (μ' := μ13) (fun id hid => (hF15 _ (by omega)))
            have hF19 : ∀ id, 41 ≤ id → μ13 id = μ id := fun id hid => (show μ13 id = μ id from (hF15 _ (by omega))).trans (hF id hid)
            refine x_istore_n [(3, .int (-1000001)), (0, .ref (E.1 + 0)), (1, .int w), (2, .int v)] d_X3_set_137 rfl (Nat.le_of_ble_eq_true rfl) rfl ?_
            refine x_iload_n 0 d_X3_set_138 rfl rfl ?_
            refine x_iret rfl d_X3_set_139 ?_
            have e9 : F_set g w v = fin g 0 := by simp [F_set, x_b_f, x_b_t, c1, c2, c3, c4, c12, setL]
            rw [e9]
            exact ⟨rfl, XS.fin hL16 hLH17 hX18 hD14, hF19⟩
          · skip
            refine x_aload_n 0 d_X3_set_112 rfl rfl ?_
            refine x_getr (j := 0) 1 x_c3 rfl (Nat.le_of_ble_eq_true rfl) q147 rfl d_X3_set_113 ?_
            refine x_getiV (j := 9) (z := (gA g) 4) x_c0 (p_kd x_pr1) (Nat.le_of_ble_eq_true rfl) q56 (p_n9 x_pr1) (PR.f9 hL) d_X3_set_116 ?_
            refine x_istore_n [(3, .int ((gA g) 4)), (0, .ref (E.1 + 0)), (1, .int w), (2, .int v)] d_X3_set_119 rfl (Nat.le_of_ble_eq_true rfl) rfl ?_
            refine x_aload_n 1 d_X3_set_120 rfl rfl ?_
            refine x_getr (j := 0) 1 x_c3 rfl (Nat.le_of_ble_eq_true rfl) q147 rfl d_X3_set_121 ?_
            refine x_iload_n 3 d_X3_set_124 rfl rfl ?_
            refine x_putiG (j := 9) x_c0 (p_kd x_pr1) (Nat.le_of_ble_eq_true rfl) q56 (p_n9 x_pr1) rfl rfl d_X3_set_125 (fun μ20 eμ20 => ?_)
            have hL21 : PR (upd (gA g) 4 v) 1 μ20 := PR.w9 hL eμ20
            have hLH22 : μ20 1 11 = gA g 0 := by rw [eμ20, upd2_at, upd_n _ _ (by decide)]; exact hH
            have hX23 := XR.cg hX (μ' := μ20) (fun id hid => (by rw [eμ20, upd2_ne _ _ _ (by omega)]))
            have hD24 := XD.cg hD (μ' := μ20) (fun id hid => (by rw [eμ20, upd2_ne _ _ _ (by omega)]))
            have hF25 : ∀ id, 41 ≤ id → μ20 id = μ id := fun id hid => (show μ20 id = μ id from (by rw [eμ20, upd2_ne _ _ _ (by omega)])).trans (hF id hid)
            refine x_goto 138 d_X3_set_128 (by decide) ?_
            refine x_iload_n 0 d_X3_set_138 rfl rfl ?_
            refine x_iret rfl d_X3_set_139 ?_
            have e9 : F_set g w v = ((gA g) 4, sA g (upd (gA g) 4 v)) := by simp [F_set, x_b_f, x_b_t, c1, c2, c3, c4, c12, setL]
            rw [e9]
            exact ⟨rfl, XS.line hL21 (by (repeat rw [upd_n _ _ (by omega)]); exact hLH22) hX23 hD24, hF25⟩
      · skip
        refine x_iload_n 2 d_X3_set_68 rfl rfl ?_
        refine x_iconst (x := 0) d_X3_set_69 (by decide) ?_
        refine x_bipush (x := 20) d_X3_set_70 (by decide) ?_
        refine x_csip (as := [.int v, .int 0, .int 20]) (c_X3_isWithin l E μ v 0 20) v_X3_isWithin q180 q179 rfl ⟨Nat.le_of_ble_eq_true rfl, Nat.le_of_ble_eq_true rfl⟩ rfl (Nat.le_of_ble_eq_true rfl) d_X3_set_72 ?_
        refine x_ifb_eq 97 d_X3_set_75 (by decide) (fun c26 => ?_) (fun c26 => ?_)
        · skip
          refine x_iload_n 1 d_X3_set_97 rfl rfl ?_
          refine x_iconst (x := 3) d_X3_set_98 (by decide) ?_
          refine x_icmp_ne 131 d_X3_set_99 (by decide) (fun c27 => ?_) (fun c27 => ?_)
          · skip
            refine x_aload_n 0 d_X3_set_131 rfl rfl ?_
            refine x_ldc q182 d_X3_set_132 ?_
            refine x_cvi (k := 0) (as := [.int (-1000001)]) (c_X3_finding l E μ (i := 0) hD (by decide) (w := (-1000001)) (by decide)) v_X3_finding w_X3_finding q183 o_X rfl ⟨Nat.le_of_ble_eq_true rfl, Nat.le_of_ble_eq_true rfl⟩ rfl (Nat.le_of_ble_eq_true rfl) d_X3_set_134 ?_
            rintro _ μ28 ⟨rfl, hD29, hF30⟩
            have hL31 := PR.cg hL (μ' := μ28) (fun id hid => (hF30 _ (by omega)))
            have hLH32 := hH
            rw [← (show μ28 1 = μ 1 from (hF30 _ (by omega)))] at hLH32
            have hX33 := XR.cg hX (μ' := μ28) (fun id hid => (hF30 _ (by omega)))
            have hF34 : ∀ id, 41 ≤ id → μ28 id = μ id := fun id hid => (show μ28 id = μ id from (hF30 _ (by omega))).trans (hF id hid)
            refine x_istore_n [(3, .int (-1000001)), (0, .ref (E.1 + 0)), (1, .int w), (2, .int v)] d_X3_set_137 rfl (Nat.le_of_ble_eq_true rfl) rfl ?_
            refine x_iload_n 0 d_X3_set_138 rfl rfl ?_
            refine x_iret rfl d_X3_set_139 ?_
            have e9 : F_set g w v = fin g 0 := by simp [F_set, x_b_f, x_b_t, c1, c2, c3, c26, c27, setL]
            rw [e9]
            exact ⟨rfl, XS.fin hL31 hLH32 hX33 hD29, hF34⟩
          · skip
            exact absurd (c3.symm.trans c27) (by decide)
        · skip
          refine x_aload_n 0 d_X3_set_78 rfl rfl ?_
          refine x_getr (j := 0) 1 x_c3 rfl (Nat.le_of_ble_eq_true rfl) q147 rfl d_X3_set_79 ?_
          refine x_getiV (j := 8) (z := (gA g) 3) x_c0 (p_kd x_pr1) (Nat.le_of_ble_eq_true rfl) q53 (p_n8 x_pr1) (PR.f8 hL) d_X3_set_82 ?_
          refine x_istore_n [(3, .int ((gA g) 3)), (0, .ref (E.1 + 0)), (1, .int w), (2, .int v)] d_X3_set_85 rfl (Nat.le_of_ble_eq_true rfl) rfl ?_
          refine x_aload_n 1 d_X3_set_86 rfl rfl ?_
          refine x_getr (j := 0) 1 x_c3 rfl (Nat.le_of_ble_eq_true rfl) q147 rfl d_X3_set_87 ?_
          refine x_iload_n 3 d_X3_set_90 rfl rfl ?_
          refine x_putiG (j := 8) x_c0 (p_kd x_pr1) (Nat.le_of_ble_eq_true rfl) q53 (p_n8 x_pr1) rfl rfl d_X3_set_91 (fun μ35 eμ35 => ?_)
          have hL36 : PR (upd (gA g) 3 v) 1 μ35 := PR.w8 hL eμ35
          have hLH37 : μ35 1 11 = gA g 0 := by rw [eμ35, upd2_at, upd_n _ _ (by decide)]; exact hH
          have hX38 := XR.cg hX (μ' := μ35) (fun id hid => (by rw [eμ35, upd2_ne _ _ _ (by omega)]))
          have hD39 := XD.cg hD (μ' := μ35) (fun id hid => (by rw [eμ35, upd2_ne _ _ _ (by omega)]))
          have hF40 : ∀ id, 41 ≤ id → μ35 id = μ id := fun id hid => (show μ35 id = μ id from (by rw [eμ35, upd2_ne _ _ _ (by omega)])).trans (hF id hid)
          refine x_goto 138 d_X3_set_94 (by decide) ?_
          refine x_iload_n 0 d_X3_set_138 rfl rfl ?_
          refine x_iret rfl d_X3_set_139 ?_
          have e9 : F_set g w v = ((gA g) 3, sA g (upd (gA g) 3 v)) := by simp [F_set, x_b_f, x_b_t, c1, c2, c3, c26, setL]
          rw [e9]
          exact ⟨rfl, XS.line hL36 (by (repeat rw [upd_n _ _ (by omega)]); exact hLH37) hX38 hD39, hF40⟩
    · skip
      refine x_iload_n 2 d_X3_set_35 rfl rfl ?_
      refine x_iconst (x := 0) d_X3_set_36 (by decide) ?_
      refine x_iconst (x := 1) d_X3_set_37 (by decide) ?_
      refine x_csip (as := [.int v, .int 0, .int 1]) (c_X3_isWithin l E μ v 0 1) v_X3_isWithin q180 q179 rfl ⟨Nat.le_of_ble_eq_true rfl, Nat.le_of_ble_eq_true rfl⟩ rfl (Nat.le_of_ble_eq_true rfl) d_X3_set_38 ?_
      refine x_ifb_eq 63 d_X3_set_41 (by decide) (fun c41 => ?_) (fun c41 => ?_)
      · skip
        refine x_iload_n 1 d_X3_set_63 rfl rfl ?_
        refine x_iconst (x := 2) d_X3_set_64 (by decide) ?_
        refine x_icmp_ne 97 d_X3_set_65 (by decide) (fun c42 => ?_) (fun c42 => ?_)
        · skip
          refine x_iload_n 1 d_X3_set_97 rfl rfl ?_
          refine x_iconst (x := 3) d_X3_set_98 (by decide) ?_
          refine x_icmp_ne 131 d_X3_set_99 (by decide) (fun c43 => ?_) (fun c43 => ?_)
          · skip
            refine x_aload_n 0 d_X3_set_131 rfl rfl ?_
            refine x_ldc q182 d_X3_set_132 ?_
            refine x_cvi (k := 0) (as := [.int (-1000001)]) (c_X3_finding l E μ (i := 0) hD (by decide) (w := (-1000001)) (by decide)) v_X3_finding w_X3_finding q183 o_X rfl ⟨Nat.le_of_ble_eq_true rfl, Nat.le_of_ble_eq_true rfl⟩ rfl (Nat.le_of_ble_eq_true rfl) d_X3_set_134 ?_
            rintro _ μ44 ⟨rfl, hD45, hF46⟩
            have hL47 := PR.cg hL (μ' := μ44) (fun id hid => (hF46 _ (by omega)))
            have hLH48 := hH
            rw [← (show μ44 1 = μ 1 from (hF46 _ (by omega)))] at hLH48
            have hX49 := XR.cg hX (μ' := μ44) (fun id hid => (hF46 _ (by omega)))
            have hF50 : ∀ id, 41 ≤ id → μ44 id = μ id := fun id hid => (show μ44 id = μ id from (hF46 _ (by omega))).trans (hF id hid)
            refine x_istore_n [(3, .int (-1000001)), (0, .ref (E.1 + 0)), (1, .int w), (2, .int v)] d_X3_set_137 rfl (Nat.le_of_ble_eq_true rfl) rfl ?_
            refine x_iload_n 0 d_X3_set_138 rfl rfl ?_
            refine x_iret rfl d_X3_set_139 ?_
            have e9 : F_set g w v = fin g 0 := by simp [F_set, x_b_f, x_b_t, c1, c2, c41, c42, c43, setL]
            rw [e9]
            exact ⟨rfl, XS.fin hL47 hLH48 hX49 hD45, hF50⟩
          · skip
            exact absurd (c2.symm.trans c43) (by decide)
        · skip
          exact absurd (c2.symm.trans c42) (by decide)
      · skip
        refine x_aload_n 0 d_X3_set_44 rfl rfl ?_
        refine x_getr (j := 0) 1 x_c3 rfl (Nat.le_of_ble_eq_true rfl) q147 rfl d_X3_set_45 ?_
        refine x_getiV (j := 7) (z := (gA g) 2) x_c0 (p_kd x_pr1) (Nat.le_of_ble_eq_true rfl) q50 (p_n7 x_pr1) (PR.f7 hL) d_X3_set_48 ?_
        refine x_istore_n [(3, .int ((gA g) 2)), (0, .ref (E.1 + 0)), (1, .int w), (2, .int v)] d_X3_set_51 rfl (Nat.le_of_ble_eq_true rfl) rfl ?_
        refine x_aload_n 1 d_X3_set_52 rfl rfl ?_
        refine x_getr (j := 0) 1 x_c3 rfl (Nat.le_of_ble_eq_true rfl) q147 rfl d_X3_set_53 ?_
        refine x_iload_n 3 d_X3_set_56 rfl rfl ?_
        refine x_putiG (j := 7) x_c0 (p_kd x_pr1) (Nat.le_of_ble_eq_true rfl) q50 (p_n7 x_pr1) rfl rfl d_X3_set_57 (fun μ51 eμ51 => ?_)
        have hL52 : PR (upd (gA g) 2 v) 1 μ51 := PR.w7 hL eμ51
        have hLH53 : μ51 1 11 = gA g 0 := by rw [eμ51, upd2_at, upd_n _ _ (by decide)]; exact hH
        have hX54 := XR.cg hX (μ' := μ51) (fun id hid => (by rw [eμ51, upd2_ne _ _ _ (by omega)]))
        have hD55 := XD.cg hD (μ' := μ51) (fun id hid => (by rw [eμ51, upd2_ne _ _ _ (by omega)]))
        have hF56 : ∀ id, 41 ≤ id → μ51 id = μ id := fun id hid => (show μ51 id = μ id from (by rw [eμ51, upd2_ne _ _ _ (by omega)])).trans (hF id hid)
        refine x_goto 138 d_X3_set_60 (by decide) ?_
        refine x_iload_n 0 d_X3_set_138 rfl rfl ?_
        refine x_iret rfl d_X3_set_139 ?_
        have e9 : F_set g w v = ((gA g) 2, sA g (upd (gA g) 2 v)) := by simp [F_set, x_b_f, x_b_t, c1, c2, c41, setL]
        rw [e9]
        exact ⟨rfl, XS.line hL52 (by (repeat rw [upd_n _ _ (by omega)]); exact hLH53) hX54 hD55, hF56⟩
  · skip
    refine x_iload_n 2 d_X3_set_4 rfl rfl ?_
    refine x_csip (as := [.int v]) (c_X3_isYard l E μ v) v_X3_isYard q248 q247 rfl ⟨Nat.le_of_ble_eq_true rfl, Nat.le_of_ble_eq_true rfl⟩ rfl (Nat.le_of_ble_eq_true rfl) d_X3_set_5 ?_
    refine x_ifb_eq 30 d_X3_set_8 (by decide) (fun c57 => ?_) (fun c57 => ?_)
    · skip
      refine x_iload_n 1 d_X3_set_30 rfl rfl ?_
      refine x_iconst (x := 1) d_X3_set_31 (by decide) ?_
      refine x_icmp_ne 63 d_X3_set_32 (by decide) (fun c58 => ?_) (fun c58 => ?_)
      · skip
        refine x_iload_n 1 d_X3_set_63 rfl rfl ?_
        refine x_iconst (x := 2) d_X3_set_64 (by decide) ?_
        refine x_icmp_ne 97 d_X3_set_65 (by decide) (fun c59 => ?_) (fun c59 => ?_)
        · skip
          refine x_iload_n 1 d_X3_set_97 rfl rfl ?_
          refine x_iconst (x := 3) d_X3_set_98 (by decide) ?_
          refine x_icmp_ne 131 d_X3_set_99 (by decide) (fun c60 => ?_) (fun c60 => ?_)
          · skip
            refine x_aload_n 0 d_X3_set_131 rfl rfl ?_
            refine x_ldc q182 d_X3_set_132 ?_
            refine x_cvi (k := 0) (as := [.int (-1000001)]) (c_X3_finding l E μ (i := 0) hD (by decide) (w := (-1000001)) (by decide)) v_X3_finding w_X3_finding q183 o_X rfl ⟨Nat.le_of_ble_eq_true rfl, Nat.le_of_ble_eq_true rfl⟩ rfl (Nat.le_of_ble_eq_true rfl) d_X3_set_134 ?_
            rintro _ μ61 ⟨rfl, hD62, hF63⟩
            have hL64 := PR.cg hL (μ' := μ61) (fun id hid => (hF63 _ (by omega)))
            have hLH65 := hH
            rw [← (show μ61 1 = μ 1 from (hF63 _ (by omega)))] at hLH65
            have hX66 := XR.cg hX (μ' := μ61) (fun id hid => (hF63 _ (by omega)))
            have hF67 : ∀ id, 41 ≤ id → μ61 id = μ id := fun id hid => (show μ61 id = μ id from (hF63 _ (by omega))).trans (hF id hid)
            refine x_istore_n [(3, .int (-1000001)), (0, .ref (E.1 + 0)), (1, .int w), (2, .int v)] d_X3_set_137 rfl (Nat.le_of_ble_eq_true rfl) rfl ?_
            refine x_iload_n 0 d_X3_set_138 rfl rfl ?_
            refine x_iret rfl d_X3_set_139 ?_
            have e9 : F_set g w v = fin g 0 := by simp [F_set, x_b_f, x_b_t, c1, c57, c58, c59, c60, setL]
            rw [e9]
            exact ⟨rfl, XS.fin hL64 hLH65 hX66 hD62, hF67⟩
          · skip
            exact absurd (c1.symm.trans c60) (by decide)
        · skip
          exact absurd (c1.symm.trans c59) (by decide)
      · skip
        exact absurd (c1.symm.trans c58) (by decide)
    · skip
      refine x_aload_n 0 d_X3_set_11 rfl rfl ?_
      refine x_getr (j := 0) 1 x_c3 rfl (Nat.le_of_ble_eq_true rfl) q147 rfl d_X3_set_12 ?_
      refine x_getiV (j := 6) (z := (gA g) 1) x_c0 (p_kd x_pr1) (Nat.le_of_ble_eq_true rfl) q47 (p_n6 x_pr1) (PR.f6 hL) d_X3_set_15 ?_
      refine x_istore_n [(3, .int ((gA g) 1)), (0, .ref (E.1 + 0)), (1, .int w), (2, .int v)] d_X3_set_18 rfl (Nat.le_of_ble_eq_true rfl) rfl ?_
      refine x_aload_n 1 d_X3_set_19 rfl rfl ?_
      refine x_getr (j := 0) 1 x_c3 rfl (Nat.le_of_ble_eq_true rfl) q147 rfl d_X3_set_20 ?_
      refine x_iload_n 3 d_X3_set_23 rfl rfl ?_
      refine x_putiG (j := 6) x_c0 (p_kd x_pr1) (Nat.le_of_ble_eq_true rfl) q47 (p_n6 x_pr1) rfl rfl d_X3_set_24 (fun μ68 eμ68 => ?_)
      have hL69 : PR (upd (gA g) 1 v) 1 μ68 := PR.w6 hL eμ68
      have hLH70 : μ68 1 11 = gA g 0 := by rw [eμ68, upd2_at, upd_n _ _ (by decide)]; exact hH
      have hX71 := XR.cg hX (μ' := μ68) (fun id hid => (by rw [eμ68, upd2_ne _ _ _ (by omega)]))
      have hD72 := XD.cg hD (μ' := μ68) (fun id hid => (by rw [eμ68, upd2_ne _ _ _ (by omega)]))
      have hF73 : ∀ id, 41 ≤ id → μ68 id = μ id := fun id hid => (show μ68 id = μ id from (by rw [eμ68, upd2_ne _ _ _ (by omega)])).trans (hF id hid)
      refine x_goto 138 d_X3_set_27 (by decide) ?_
      refine x_iload_n 0 d_X3_set_138 rfl rfl ?_
      refine x_iret rfl d_X3_set_139 ?_
      have e9 : F_set g w v = ((gA g) 1, sA g (upd (gA g) 1 v)) := by simp [F_set, x_b_f, x_b_t, c1, c57, setL]
      rw [e9]
      exact ⟨rfl, XS.line hL69 (by (repeat rw [upd_n _ _ (by omega)]); exact hLH70) hX71 hD72, hF73⟩
def m_X3_board : x_M := (yX3_board, prog_1_method_8_code, 2, (some FieldType.int), 1, 22)
theorem v_X3_board : x_VM m_X3_board 1 := ⟨q253, q1, by decide +kernel, by decide +kernel, by decide +kernel⟩
theorem w_X3_board : x_VI m_X3_board := ⟨q251, q252⟩
theorem d_X3_board_0 : x_dec m_X3_board 0 (.aload_n 0) 1 1 := ⟨by decide +kernel, rfl⟩
theorem d_X3_board_1 : x_dec m_X3_board 1 (.iload_n 1) 1 2 := ⟨by decide +kernel, rfl⟩
theorem d_X3_board_2 : x_dec m_X3_board 2 (.invokevirtual 81) 3 5 := ⟨by decide +kernel, rfl⟩
theorem d_X3_board_5 : x_dec m_X3_board 5 (.ifCond .ne 10) 3 8 := ⟨by decide +kernel, rfl⟩
theorem d_X3_board_8 : x_dec m_X3_board 8 (.aload_n 0) 1 9 := ⟨by decide +kernel, rfl⟩
theorem d_X3_board_9 : x_dec m_X3_board 9 (.ldc 55) 2 11 := ⟨by decide +kernel, rfl⟩
theorem d_X3_board_11 : x_dec m_X3_board 11 (.invokevirtual 56) 3 14 := ⟨by decide +kernel, rfl⟩
theorem d_X3_board_14 : x_dec m_X3_board 14 (.ireturn) 1 15 := ⟨by decide +kernel, rfl⟩
theorem d_X3_board_15 : x_dec m_X3_board 15 (.aload_n 0) 1 16 := ⟨by decide +kernel, rfl⟩
theorem d_X3_board_16 : x_dec m_X3_board 16 (.getfield 12) 3 19 := ⟨by decide +kernel, rfl⟩
theorem d_X3_board_19 : x_dec m_X3_board 19 (.getfield 87) 3 22 := ⟨by decide +kernel, rfl⟩
theorem d_X3_board_22 : x_dec m_X3_board 22 (.iload_n 1) 1 23 := ⟨by decide +kernel, rfl⟩
theorem d_X3_board_23 : x_dec m_X3_board 23 (.iaload) 1 24 := ⟨by decide +kernel, rfl⟩
theorem d_X3_board_24 : x_dec m_X3_board 24 (.aload_n 0) 1 25 := ⟨by decide +kernel, rfl⟩
theorem d_X3_board_25 : x_dec m_X3_board 25 (.getfield 12) 3 28 := ⟨by decide +kernel, rfl⟩
theorem d_X3_board_28 : x_dec m_X3_board 28 (.getfield 99) 3 31 := ⟨by decide +kernel, rfl⟩
theorem d_X3_board_31 : x_dec m_X3_board 31 (.if_icmp .eq 10) 3 34 := ⟨by decide +kernel, rfl⟩
theorem d_X3_board_34 : x_dec m_X3_board 34 (.aload_n 0) 1 35 := ⟨by decide +kernel, rfl⟩
theorem d_X3_board_35 : x_dec m_X3_board 35 (.ldc 111) 2 37 := ⟨by decide +kernel, rfl⟩
theorem d_X3_board_37 : x_dec m_X3_board 37 (.invokevirtual 56) 3 40 := ⟨by decide +kernel, rfl⟩
theorem d_X3_board_40 : x_dec m_X3_board 40 (.ireturn) 1 41 := ⟨by decide +kernel, rfl⟩
theorem d_X3_board_41 : x_dec m_X3_board 41 (.aload_n 0) 1 42 := ⟨by decide +kernel, rfl⟩
theorem d_X3_board_42 : x_dec m_X3_board 42 (.getfield 12) 3 45 := ⟨by decide +kernel, rfl⟩
theorem d_X3_board_45 : x_dec m_X3_board 45 (.getfield 87) 3 48 := ⟨by decide +kernel, rfl⟩
theorem d_X3_board_48 : x_dec m_X3_board 48 (.iload_n 1) 1 49 := ⟨by decide +kernel, rfl⟩
theorem d_X3_board_49 : x_dec m_X3_board 49 (.iconst (-1)) 1 50 := ⟨by decide +kernel, rfl⟩
theorem d_X3_board_50 : x_dec m_X3_board 50 (.iastore) 1 51 := ⟨by decide +kernel, rfl⟩
theorem d_X3_board_51 : x_dec m_X3_board 51 (.iconst 1) 1 52 := ⟨by decide +kernel, rfl⟩
theorem d_X3_board_52 : x_dec m_X3_board 52 (.ireturn) 1 53 := ⟨by decide +kernel, rfl⟩
set_option maxHeartbeats 4000000 in
set_option maxRecDepth 100000 in
theorem c_X3_board (l : Launch) (E : x_E) (μ : x_Mem) (g : x_SG) (hS : XS g μ) (hI : Inv g) (p : Int32) : x_Met l m_X3_board E [.ref (E.1 + 0), .int p] μ (x_I (fun z m => z = (F_board g p).1 ∧ XS (F_board g p).2 m ∧ ∀ id, 41 ≤ id → m id = μ id)) := by
  obtain ⟨hL, hH, hX, hD⟩ := hS
  have hWF := hI.1.1
  have hn7 := hWF.2.1
  have hpn := hWF.1
  have hF : ∀ id, 41 ≤ id → μ id = μ id := fun _ _ => rfl
  refine x_enter (lv := [(0, .ref (E.1 + 0)), (1, .int p)]) (by decide +kernel) (Nat.le_of_ble_eq_true rfl) rfl ?_
  refine x_aload_n 0 d_X3_board_0 rfl rfl ?_
  refine x_iload_n 1 d_X3_board_1 rfl rfl ?_
  refine x_cvip (k := 0) (as := [.int p]) (c_X3_isPerson l E μ hL p) v_X3_isPerson w_X3_isPerson q234 o_X rfl ⟨Nat.le_of_ble_eq_true rfl, Nat.le_of_ble_eq_true rfl⟩ rfl (Nat.le_of_ble_eq_true rfl) d_X3_board_2 ?_
  refine x_ifb_ne 15 d_X3_board_5 (by decide) (fun c1 => ?_) (fun c1 => ?_)
  · skip
    obtain ⟨q, hq, rfl⟩ := isP_nat hWF c1
    refine x_aload_n 0 d_X3_board_15 rfl rfl ?_
    refine x_getr (j := 0) 1 x_c3 rfl (Nat.le_of_ble_eq_true rfl) q147 rfl d_X3_board_16 ?_
    refine x_getr (j := 2) (1 + 3) x_c0 (p_kd x_pr1) (Nat.le_of_ble_eq_true rfl) q37 (p_f2 x_pr1) d_X3_board_19 ?_
    refine x_iload_n 1 d_X3_board_22 rfl rfl ?_
    refine x_ialdN (z := (gA g) (24 + 3 * q + 1)) 8 q (p_k3 x_pr1) (p_l3 x_pr1) (by omega) (by decide) (PR.wh hL q (by omega)) d_X3_board_23 ?_
    refine x_aload_n 0 d_X3_board_24 rfl rfl ?_
    refine x_getr (j := 0) 1 x_c3 rfl (Nat.le_of_ble_eq_true rfl) q147 rfl d_X3_board_25 ?_
    refine x_getiV (j := 6) (z := (gA g) 1) x_c0 (p_kd x_pr1) (Nat.le_of_ble_eq_true rfl) q47 (p_n6 x_pr1) (PR.f6 hL) d_X3_board_28 ?_
    refine x_icmp_eq 41 d_X3_board_31 (by decide) (fun c2 => ?_) (fun c2 => ?_)
    · skip
      refine x_aload_n 0 d_X3_board_41 rfl rfl ?_
      refine x_getr (j := 0) 1 x_c3 rfl (Nat.le_of_ble_eq_true rfl) q147 rfl d_X3_board_42 ?_
      refine x_getr (j := 2) (1 + 3) x_c0 (p_kd x_pr1) (Nat.le_of_ble_eq_true rfl) q37 (p_f2 x_pr1) d_X3_board_45 ?_
      refine x_iload_n 1 d_X3_board_48 rfl rfl ?_
      refine x_iconst (x := (-1)) d_X3_board_49 (by decide) ?_
      refine x_iastNG 8 q (p_k3 x_pr1) (p_l3 x_pr1) (by omega) (by decide) d_X3_board_50 (fun μ3 eμ3 => ?_)
      have hL4 : PR (upd (gA g) (24 + 3 * q + 1) (-1)) 1 μ3 := PR.a3 hL eμ3 (by omega)
      have hLH5 := hH
      rw [← (show μ3 1 = μ 1 from (by rw [eμ3, upd2_ne _ _ _ (by omega)]))] at hLH5
      have hX6 := XR.cg hX (μ' := μ3) (fun id hid => (by rw [eμ3, upd2_ne _ _ _ (by omega)]))
      have hD7 := XD.cg hD (μ' := μ3) (fun id hid => (by rw [eμ3, upd2_ne _ _ _ (by omega)]))
      have hF8 : ∀ id, 41 ≤ id → μ3 id = μ id := fun id hid => (show μ3 id = μ id from (by rw [eμ3, upd2_ne _ _ _ (by omega)])).trans (hF id hid)
      refine x_iconst (x := 1) d_X3_board_51 (by decide) ?_
      refine x_iret rfl d_X3_board_52 ?_
      have e9 : F_board g (nI q) = (1, sA g (upd (gA g) (24 + 3 * q + 1) (-1))) := by simp [F_board, x_b_f, x_b_t, c1, c2, nI_clamp (n := q) (by omega)]
      rw [e9]
      exact ⟨rfl, XS.line hL4 (by (repeat rw [upd_n _ _ (by omega)]); exact hLH5) hX6 hD7, hF8⟩
    · skip
      refine x_aload_n 0 d_X3_board_34 rfl rfl ?_
      refine x_ldc q254 d_X3_board_35 ?_
      refine x_cvi (k := 0) (as := [.int (-1000005)]) (c_X3_finding l E μ (i := 4) hD (by decide) (w := (-1000005)) (by decide)) v_X3_finding w_X3_finding q183 o_X rfl ⟨Nat.le_of_ble_eq_true rfl, Nat.le_of_ble_eq_true rfl⟩ rfl (Nat.le_of_ble_eq_true rfl) d_X3_board_37 ?_
      rintro _ μ9 ⟨rfl, hD10, hF11⟩
      have hL12 := PR.cg hL (μ' := μ9) (fun id hid => (hF11 _ (by omega)))
      have hLH13 := hH
      rw [← (show μ9 1 = μ 1 from (hF11 _ (by omega)))] at hLH13
      have hX14 := XR.cg hX (μ' := μ9) (fun id hid => (hF11 _ (by omega)))
      have hF15 : ∀ id, 41 ≤ id → μ9 id = μ id := fun id hid => (show μ9 id = μ id from (hF11 _ (by omega))).trans (hF id hid)
      refine x_iret rfl d_X3_board_40 ?_
      have e9 : F_board g (nI q) = fin g 4 := by simp [F_board, x_b_f, x_b_t, c1, c2, nI_clamp (n := q) (by omega)]
      rw [e9]
      exact ⟨rfl, XS.fin hL12 hLH13 hX14 hD10, hF15⟩
  · skip
    refine x_aload_n 0 d_X3_board_8 rfl rfl ?_
    refine x_ldc q182 d_X3_board_9 ?_
    refine x_cvi (k := 0) (as := [.int (-1000001)]) (c_X3_finding l E μ (i := 0) hD (by decide) (w := (-1000001)) (by decide)) v_X3_finding w_X3_finding q183 o_X rfl ⟨Nat.le_of_ble_eq_true rfl, Nat.le_of_ble_eq_true rfl⟩ rfl (Nat.le_of_ble_eq_true rfl) d_X3_board_11 ?_
    rintro _ μ16 ⟨rfl, hD17, hF18⟩
    have hL19 := PR.cg hL (μ' := μ16) (fun id hid => (hF18 _ (by omega)))
    have hLH20 := hH
    rw [← (show μ16 1 = μ 1 from (hF18 _ (by omega)))] at hLH20
    have hX21 := XR.cg hX (μ' := μ16) (fun id hid => (hF18 _ (by omega)))
    have hF22 : ∀ id, 41 ≤ id → μ16 id = μ id := fun id hid => (show μ16 id = μ id from (hF18 _ (by omega))).trans (hF id hid)
    refine x_iret rfl d_X3_board_14 ?_
    have e9 : F_board g p = fin g 0 := by simp [F_board, x_b_f, x_b_t, c1]
    rw [e9]
    exact ⟨rfl, XS.fin hL19 hLH20 hX21 hD17, hF22⟩
def m_X3_leave : x_M := (yX3_leave, prog_1_method_9_code, 2, (some FieldType.int), 1, 22)
theorem v_X3_leave : x_VM m_X3_leave 1 := ⟨q258, q1, by decide +kernel, by decide +kernel, by decide +kernel⟩
theorem w_X3_leave : x_VI m_X3_leave := ⟨q256, q257⟩
theorem d_X3_leave_0 : x_dec m_X3_leave 0 (.aload_n 0) 1 1 := ⟨by decide +kernel, rfl⟩
theorem d_X3_leave_1 : x_dec m_X3_leave 1 (.iload_n 1) 1 2 := ⟨by decide +kernel, rfl⟩
theorem d_X3_leave_2 : x_dec m_X3_leave 2 (.invokevirtual 81) 3 5 := ⟨by decide +kernel, rfl⟩
theorem d_X3_leave_5 : x_dec m_X3_leave 5 (.ifCond .ne 10) 3 8 := ⟨by decide +kernel, rfl⟩
theorem d_X3_leave_8 : x_dec m_X3_leave 8 (.aload_n 0) 1 9 := ⟨by decide +kernel, rfl⟩
theorem d_X3_leave_9 : x_dec m_X3_leave 9 (.ldc 55) 2 11 := ⟨by decide +kernel, rfl⟩
theorem d_X3_leave_11 : x_dec m_X3_leave 11 (.invokevirtual 56) 3 14 := ⟨by decide +kernel, rfl⟩
theorem d_X3_leave_14 : x_dec m_X3_leave 14 (.ireturn) 1 15 := ⟨by decide +kernel, rfl⟩
theorem d_X3_leave_15 : x_dec m_X3_leave 15 (.aload_n 0) 1 16 := ⟨by decide +kernel, rfl⟩
theorem d_X3_leave_16 : x_dec m_X3_leave 16 (.getfield 12) 3 19 := ⟨by decide +kernel, rfl⟩
theorem d_X3_leave_19 : x_dec m_X3_leave 19 (.getfield 87) 3 22 := ⟨by decide +kernel, rfl⟩
theorem d_X3_leave_22 : x_dec m_X3_leave 22 (.iload_n 1) 1 23 := ⟨by decide +kernel, rfl⟩
theorem d_X3_leave_23 : x_dec m_X3_leave 23 (.iaload) 1 24 := ⟨by decide +kernel, rfl⟩
theorem d_X3_leave_24 : x_dec m_X3_leave 24 (.iconst (-1)) 1 25 := ⟨by decide +kernel, rfl⟩
theorem d_X3_leave_25 : x_dec m_X3_leave 25 (.if_icmp .eq 10) 3 28 := ⟨by decide +kernel, rfl⟩
theorem d_X3_leave_28 : x_dec m_X3_leave 28 (.aload_n 0) 1 29 := ⟨by decide +kernel, rfl⟩
theorem d_X3_leave_29 : x_dec m_X3_leave 29 (.ldc 111) 2 31 := ⟨by decide +kernel, rfl⟩
theorem d_X3_leave_31 : x_dec m_X3_leave 31 (.invokevirtual 56) 3 34 := ⟨by decide +kernel, rfl⟩
theorem d_X3_leave_34 : x_dec m_X3_leave 34 (.ireturn) 1 35 := ⟨by decide +kernel, rfl⟩
theorem d_X3_leave_35 : x_dec m_X3_leave 35 (.aload_n 0) 1 36 := ⟨by decide +kernel, rfl⟩
theorem d_X3_leave_36 : x_dec m_X3_leave 36 (.getfield 12) 3 39 := ⟨by decide +kernel, rfl⟩
theorem d_X3_leave_39 : x_dec m_X3_leave 39 (.getfield 87) 3 42 := ⟨by decide +kernel, rfl⟩
theorem d_X3_leave_42 : x_dec m_X3_leave 42 (.iload_n 1) 1 43 := ⟨by decide +kernel, rfl⟩
theorem d_X3_leave_43 : x_dec m_X3_leave 43 (.aload_n 0) 1 44 := ⟨by decide +kernel, rfl⟩
theorem d_X3_leave_44 : x_dec m_X3_leave 44 (.getfield 12) 3 47 := ⟨by decide +kernel, rfl⟩
theorem d_X3_leave_47 : x_dec m_X3_leave 47 (.getfield 99) 3 50 := ⟨by decide +kernel, rfl⟩
theorem d_X3_leave_50 : x_dec m_X3_leave 50 (.iastore) 1 51 := ⟨by decide +kernel, rfl⟩
theorem d_X3_leave_51 : x_dec m_X3_leave 51 (.aload_n 0) 1 52 := ⟨by decide +kernel, rfl⟩
theorem d_X3_leave_52 : x_dec m_X3_leave 52 (.getfield 12) 3 55 := ⟨by decide +kernel, rfl⟩
theorem d_X3_leave_55 : x_dec m_X3_leave 55 (.getfield 99) 3 58 := ⟨by decide +kernel, rfl⟩
theorem d_X3_leave_58 : x_dec m_X3_leave 58 (.ireturn) 1 59 := ⟨by decide +kernel, rfl⟩
set_option maxHeartbeats 4000000 in
set_option maxRecDepth 100000 in
theorem c_X3_leave (l : Launch) (E : x_E) (μ : x_Mem) (g : x_SG) (hS : XS g μ) (hI : Inv g) (p : Int32) : x_Met l m_X3_leave E [.ref (E.1 + 0), .int p] μ (x_I (fun z m => z = (F_leave g p).1 ∧ XS (F_leave g p).2 m ∧ ∀ id, 41 ≤ id → m id = μ id)) := by
  obtain ⟨hL, hH, hX, hD⟩ := hS
  have hWF := hI.1.1
  have hn7 := hWF.2.1
  have hpn := hWF.1
  have hF : ∀ id, 41 ≤ id → μ id = μ id := fun _ _ => rfl
  refine x_enter (lv := [(0, .ref (E.1 + 0)), (1, .int p)]) (by decide +kernel) (Nat.le_of_ble_eq_true rfl) rfl ?_
  refine x_aload_n 0 d_X3_leave_0 rfl rfl ?_
  refine x_iload_n 1 d_X3_leave_1 rfl rfl ?_
  refine x_cvip (k := 0) (as := [.int p]) (c_X3_isPerson l E μ hL p) v_X3_isPerson w_X3_isPerson q234 o_X rfl ⟨Nat.le_of_ble_eq_true rfl, Nat.le_of_ble_eq_true rfl⟩ rfl (Nat.le_of_ble_eq_true rfl) d_X3_leave_2 ?_
  refine x_ifb_ne 15 d_X3_leave_5 (by decide) (fun c1 => ?_) (fun c1 => ?_)
  · skip
    obtain ⟨q, hq, rfl⟩ := isP_nat hWF c1
    refine x_aload_n 0 d_X3_leave_15 rfl rfl ?_
    refine x_getr (j := 0) 1 x_c3 rfl (Nat.le_of_ble_eq_true rfl) q147 rfl d_X3_leave_16 ?_
    refine x_getr (j := 2) (1 + 3) x_c0 (p_kd x_pr1) (Nat.le_of_ble_eq_true rfl) q37 (p_f2 x_pr1) d_X3_leave_19 ?_
    refine x_iload_n 1 d_X3_leave_22 rfl rfl ?_
    refine x_ialdN (z := (gA g) (24 + 3 * q + 1)) 8 q (p_k3 x_pr1) (p_l3 x_pr1) (by omega) (by decide) (PR.wh hL q (by omega)) d_X3_leave_23 ?_
    refine x_iconst (x := (-1)) d_X3_leave_24 (by decide) ?_
    refine x_icmp_eq 35 d_X3_leave_25 (by decide) (fun c2 => ?_) (fun c2 => ?_)
    · skip
      refine x_aload_n 0 d_X3_leave_35 rfl rfl ?_
      refine x_getr (j := 0) 1 x_c3 rfl (Nat.le_of_ble_eq_true rfl) q147 rfl d_X3_leave_36 ?_
      refine x_getr (j := 2) (1 + 3) x_c0 (p_kd x_pr1) (Nat.le_of_ble_eq_true rfl) q37 (p_f2 x_pr1) d_X3_leave_39 ?_
      refine x_iload_n 1 d_X3_leave_42 rfl rfl ?_
      refine x_aload_n 0 d_X3_leave_43 rfl rfl ?_
      refine x_getr (j := 0) 1 x_c3 rfl (Nat.le_of_ble_eq_true rfl) q147 rfl d_X3_leave_44 ?_
      refine x_getiV (j := 6) (z := (gA g) 1) x_c0 (p_kd x_pr1) (Nat.le_of_ble_eq_true rfl) q47 (p_n6 x_pr1) (PR.f6 hL) d_X3_leave_47 ?_
      refine x_iastNG 8 q (p_k3 x_pr1) (p_l3 x_pr1) (by omega) (by decide) d_X3_leave_50 (fun μ3 eμ3 => ?_)
      have hL4 : PR (upd (gA g) (24 + 3 * q + 1) ((gA g) 1)) 1 μ3 := PR.a3 hL eμ3 (by omega)
      have hLH5 := hH
      rw [← (show μ3 1 = μ 1 from (by rw [eμ3, upd2_ne _ _ _ (by omega)]))] at hLH5
      have hX6 := XR.cg hX (μ' := μ3) (fun id hid => (by rw [eμ3, upd2_ne _ _ _ (by omega)]))
      have hD7 := XD.cg hD (μ' := μ3) (fun id hid => (by rw [eμ3, upd2_ne _ _ _ (by omega)]))
      have hF8 : ∀ id, 41 ≤ id → μ3 id = μ id := fun id hid => (show μ3 id = μ id from (by rw [eμ3, upd2_ne _ _ _ (by omega)])).trans (hF id hid)
      refine x_aload_n 0 d_X3_leave_51 rfl rfl ?_
      refine x_getr (j := 0) 1 x_c3 rfl (Nat.le_of_ble_eq_true rfl) q147 rfl d_X3_leave_52 ?_
      refine x_getiV (j := 6) (z := (upd (gA g) (24 + 3 * q + 1) ((gA g) 1)) 1) x_c0 (p_kd x_pr1) (Nat.le_of_ble_eq_true rfl) q47 (p_n6 x_pr1) (PR.f6 hL4) d_X3_leave_55 ?_
      refine x_iret rfl d_X3_leave_58 ?_
      have e9 : F_leave g (nI q) = (gA g 1, sA g (upd (gA g) (24 + 3 * q + 1) ((gA g) 1))) := by simp [F_leave, x_b_f, x_b_t, c1, c2, nI_clamp (n := q) (by omega)]
      rw [e9]
      exact ⟨upd_n _ _ (by omega), XS.line hL4 (by (repeat rw [upd_n _ _ (by omega)]); exact hLH5) hX6 hD7, hF8⟩
    · skip
      refine x_aload_n 0 d_X3_leave_28 rfl rfl ?_
      refine x_ldc q254 d_X3_leave_29 ?_
      refine x_cvi (k := 0) (as := [.int (-1000005)]) (c_X3_finding l E μ (i := 4) hD (by decide) (w := (-1000005)) (by decide)) v_X3_finding w_X3_finding q183 o_X rfl ⟨Nat.le_of_ble_eq_true rfl, Nat.le_of_ble_eq_true rfl⟩ rfl (Nat.le_of_ble_eq_true rfl) d_X3_leave_31 ?_
      rintro _ μ9 ⟨rfl, hD10, hF11⟩
      have hL12 := PR.cg hL (μ' := μ9) (fun id hid => (hF11 _ (by omega)))
      have hLH13 := hH
      rw [← (show μ9 1 = μ 1 from (hF11 _ (by omega)))] at hLH13
      have hX14 := XR.cg hX (μ' := μ9) (fun id hid => (hF11 _ (by omega)))
      have hF15 : ∀ id, 41 ≤ id → μ9 id = μ id := fun id hid => (show μ9 id = μ id from (hF11 _ (by omega))).trans (hF id hid)
      refine x_iret rfl d_X3_leave_34 ?_
      have e9 : F_leave g (nI q) = fin g 4 := by simp [F_leave, x_b_f, x_b_t, c1, c2, nI_clamp (n := q) (by omega)]
      rw [e9]
      exact ⟨rfl, XS.fin hL12 hLH13 hX14 hD10, hF15⟩
  · skip
    refine x_aload_n 0 d_X3_leave_8 rfl rfl ?_
    refine x_ldc q182 d_X3_leave_9 ?_
    refine x_cvi (k := 0) (as := [.int (-1000001)]) (c_X3_finding l E μ (i := 0) hD (by decide) (w := (-1000001)) (by decide)) v_X3_finding w_X3_finding q183 o_X rfl ⟨Nat.le_of_ble_eq_true rfl, Nat.le_of_ble_eq_true rfl⟩ rfl (Nat.le_of_ble_eq_true rfl) d_X3_leave_11 ?_
    rintro _ μ16 ⟨rfl, hD17, hF18⟩
    have hL19 := PR.cg hL (μ' := μ16) (fun id hid => (hF18 _ (by omega)))
    have hLH20 := hH
    rw [← (show μ16 1 = μ 1 from (hF18 _ (by omega)))] at hLH20
    have hX21 := XR.cg hX (μ' := μ16) (fun id hid => (hF18 _ (by omega)))
    have hF22 : ∀ id, 41 ≤ id → μ16 id = μ id := fun id hid => (show μ16 id = μ id from (hF18 _ (by omega))).trans (hF id hid)
    refine x_iret rfl d_X3_leave_14 ?_
    have e9 : F_leave g p = fin g 0 := by simp [F_leave, x_b_f, x_b_t, c1]
    rw [e9]
    exact ⟨rfl, XS.fin hL19 hLH20 hX21 hD17, hF22⟩
def m_X3_now : x_M := (yX3_now, prog_1_method_11_code, 2, (some FieldType.int), 6, 140)
theorem v_X3_now : x_VM m_X3_now 1 := ⟨q291, q1, by decide +kernel, by decide +kernel, by decide +kernel⟩
theorem w_X3_now : x_VI m_X3_now := ⟨q289, q290⟩
theorem d_X3_now_0 : x_dec m_X3_now 0 (.iload_n 1) 1 1 := ⟨by decide +kernel, rfl⟩
theorem d_X3_now_1 : x_dec m_X3_now 1 (.tableswitch 99 0 6 #[43, 51, 59, 67, 75, 83, 91]) 43 44 := ⟨by decide +kernel, rfl⟩
theorem d_X3_now_44 : x_dec m_X3_now 44 (.aload_n 0) 1 45 := ⟨by decide +kernel, rfl⟩
theorem d_X3_now_45 : x_dec m_X3_now 45 (.getfield 12) 3 48 := ⟨by decide +kernel, rfl⟩
theorem d_X3_now_48 : x_dec m_X3_now 48 (.getfield 112) 3 51 := ⟨by decide +kernel, rfl⟩
theorem d_X3_now_51 : x_dec m_X3_now 51 (.ireturn) 1 52 := ⟨by decide +kernel, rfl⟩
theorem d_X3_now_52 : x_dec m_X3_now 52 (.aload_n 0) 1 53 := ⟨by decide +kernel, rfl⟩
theorem d_X3_now_53 : x_dec m_X3_now 53 (.getfield 12) 3 56 := ⟨by decide +kernel, rfl⟩
theorem d_X3_now_56 : x_dec m_X3_now 56 (.getfield 99) 3 59 := ⟨by decide +kernel, rfl⟩
theorem d_X3_now_59 : x_dec m_X3_now 59 (.ireturn) 1 60 := ⟨by decide +kernel, rfl⟩
theorem d_X3_now_60 : x_dec m_X3_now 60 (.aload_n 0) 1 61 := ⟨by decide +kernel, rfl⟩
theorem d_X3_now_61 : x_dec m_X3_now 61 (.getfield 12) 3 64 := ⟨by decide +kernel, rfl⟩
theorem d_X3_now_64 : x_dec m_X3_now 64 (.invokevirtual 120) 3 67 := ⟨by decide +kernel, rfl⟩
theorem d_X3_now_67 : x_dec m_X3_now 67 (.ireturn) 1 68 := ⟨by decide +kernel, rfl⟩
theorem d_X3_now_68 : x_dec m_X3_now 68 (.aload_n 0) 1 69 := ⟨by decide +kernel, rfl⟩
theorem d_X3_now_69 : x_dec m_X3_now 69 (.getfield 12) 3 72 := ⟨by decide +kernel, rfl⟩
theorem d_X3_now_72 : x_dec m_X3_now 72 (.invokevirtual 124) 3 75 := ⟨by decide +kernel, rfl⟩
theorem d_X3_now_75 : x_dec m_X3_now 75 (.ireturn) 1 76 := ⟨by decide +kernel, rfl⟩
theorem d_X3_now_76 : x_dec m_X3_now 76 (.aload_n 0) 1 77 := ⟨by decide +kernel, rfl⟩
theorem d_X3_now_77 : x_dec m_X3_now 77 (.getfield 12) 3 80 := ⟨by decide +kernel, rfl⟩
theorem d_X3_now_80 : x_dec m_X3_now 80 (.getfield 127) 3 83 := ⟨by decide +kernel, rfl⟩
theorem d_X3_now_83 : x_dec m_X3_now 83 (.ireturn) 1 84 := ⟨by decide +kernel, rfl⟩
theorem d_X3_now_84 : x_dec m_X3_now 84 (.aload_n 0) 1 85 := ⟨by decide +kernel, rfl⟩
theorem d_X3_now_85 : x_dec m_X3_now 85 (.getfield 12) 3 88 := ⟨by decide +kernel, rfl⟩
theorem d_X3_now_88 : x_dec m_X3_now 88 (.getfield 102) 3 91 := ⟨by decide +kernel, rfl⟩
theorem d_X3_now_91 : x_dec m_X3_now 91 (.ireturn) 1 92 := ⟨by decide +kernel, rfl⟩
theorem d_X3_now_92 : x_dec m_X3_now 92 (.aload_n 0) 1 93 := ⟨by decide +kernel, rfl⟩
theorem d_X3_now_93 : x_dec m_X3_now 93 (.getfield 12) 3 96 := ⟨by decide +kernel, rfl⟩
theorem d_X3_now_96 : x_dec m_X3_now 96 (.invokevirtual 130) 3 99 := ⟨by decide +kernel, rfl⟩
theorem d_X3_now_99 : x_dec m_X3_now 99 (.ireturn) 1 100 := ⟨by decide +kernel, rfl⟩
theorem d_X3_now_100 : x_dec m_X3_now 100 (.aload_n 0) 1 101 := ⟨by decide +kernel, rfl⟩
theorem d_X3_now_101 : x_dec m_X3_now 101 (.ldc 55) 2 103 := ⟨by decide +kernel, rfl⟩
theorem d_X3_now_103 : x_dec m_X3_now 103 (.invokevirtual 56) 3 106 := ⟨by decide +kernel, rfl⟩
theorem d_X3_now_106 : x_dec m_X3_now 106 (.ireturn) 1 107 := ⟨by decide +kernel, rfl⟩
set_option maxHeartbeats 4000000 in
set_option maxRecDepth 100000 in
theorem c_X3_now (l : Launch) (E : x_E) (μ : x_Mem) (g : x_SG) (hS : XS g μ) (hI : Inv g) (w : Int32) : x_Met l m_X3_now E [.ref (E.1 + 0), .int w] μ (x_I (fun z m => z = (F_now g w).1 ∧ XS (F_now g w).2 m ∧ ∀ id, 41 ≤ id → m id = μ id)) := by
  obtain ⟨hL, hH, hX, hD⟩ := hS
  have hWF := hI.1.1
  have hn7 := hWF.2.1
  have hpn := hWF.1
  have hF : ∀ id, 41 ≤ id → μ id = μ id := fun _ _ => rfl
  refine x_enter (lv := [(0, .ref (E.1 + 0)), (1, .int w)]) (by decide +kernel) (Nat.le_of_ble_eq_true rfl) rfl ?_
  refine x_iload_n 1 d_X3_now_0 rfl rfl ?_
  by_cases k1 : w = 0
  · have k1T : (w).toInt = 0 := by rw [k1]; decide
    refine x_tswIn 44 (off := 43) d_X3_now_1 (by rw [k1T]; decide) (by rw [k1T]; decide) (by rw [k1T]; decide) (by decide) ?_
    refine x_aload_n 0 d_X3_now_44 rfl rfl ?_
    refine x_getr (j := 0) 1 x_c3 rfl (Nat.le_of_ble_eq_true rfl) q147 rfl d_X3_now_45 ?_
    refine x_getiV (j := 11) (z := gA g 0) x_c0 (p_kd x_pr1) (Nat.le_of_ble_eq_true rfl) q60 (p_n11 x_pr1) hH d_X3_now_48 ?_
    refine x_iret rfl d_X3_now_51 ?_
    have e9 : F_now g w = (gA g 0, g) := by simp [F_now, x_b_f, x_b_t, k1]
    rw [e9]
    exact ⟨rfl, ⟨hL, hH, hX, hD⟩, hF⟩
  by_cases k2 : w = 1
  · have k2T : (w).toInt = 1 := by rw [k2]; decide
    refine x_tswIn 52 (off := 51) d_X3_now_1 (by rw [k2T]; decide) (by rw [k2T]; decide) (by rw [k2T]; decide) (by decide) ?_
    refine x_aload_n 0 d_X3_now_52 rfl rfl ?_
    refine x_getr (j := 0) 1 x_c3 rfl (Nat.le_of_ble_eq_true rfl) q147 rfl d_X3_now_53 ?_
    refine x_getiV (j := 6) (z := (gA g) 1) x_c0 (p_kd x_pr1) (Nat.le_of_ble_eq_true rfl) q47 (p_n6 x_pr1) (PR.f6 hL) d_X3_now_56 ?_
    refine x_iret rfl d_X3_now_59 ?_
    have e9 : F_now g w = ((gA g) 1, g) := by simp [F_now, x_b_f, x_b_t, k2]
    rw [e9]
    exact ⟨rfl, ⟨hL, hH, hX, hD⟩, hF⟩
  by_cases k3 : w = 2
  · have k3T : (w).toInt = 2 := by rw [k3]; decide
    refine x_tswIn 60 (off := 59) d_X3_now_1 (by rw [k3T]; decide) (by rw [k3T]; decide) (by rw [k3T]; decide) (by decide) ?_
    refine x_aload_n 0 d_X3_now_60 rfl rfl ?_
    refine x_getr (j := 0) 1 x_c3 rfl (Nat.le_of_ble_eq_true rfl) q147 rfl d_X3_now_61 ?_
    refine x_cvip (k := 1) (as := []) (c_X0_aboardSet l E μ x_pr1 hL hWF) v_X0_aboardSet w_X0_aboardSet q292 (p_ob x_pr1) rfl ⟨Nat.le_of_ble_eq_true rfl, Nat.le_of_ble_eq_true rfl⟩ rfl (Nat.le_of_ble_eq_true rfl) d_X3_now_64 ?_
    refine x_iret rfl d_X3_now_67 ?_
    have e9 : F_now g w = (aboardF (gA g), g) := by simp [F_now, x_b_f, x_b_t, k3]
    rw [e9]
    exact ⟨rfl, ⟨hL, hH, hX, hD⟩, hF⟩
  by_cases k4 : w = 3
  · have k4T : (w).toInt = 3 := by rw [k4]; decide
    refine x_tswIn 68 (off := 67) d_X3_now_1 (by rw [k4T]; decide) (by rw [k4T]; decide) (by rw [k4T]; decide) (by decide) ?_
    refine x_aload_n 0 d_X3_now_68 rfl rfl ?_
    refine x_getr (j := 0) 1 x_c3 rfl (Nat.le_of_ble_eq_true rfl) q147 rfl d_X3_now_69 ?_
    refine x_cvip (k := 1) (as := []) (c_X0_thereSet l E μ x_pr1 hL hWF) v_X0_thereSet w_X0_thereSet q296 (p_ob x_pr1) rfl ⟨Nat.le_of_ble_eq_true rfl, Nat.le_of_ble_eq_true rfl⟩ rfl (Nat.le_of_ble_eq_true rfl) d_X3_now_72 ?_
    refine x_iret rfl d_X3_now_75 ?_
    have e9 : F_now g w = (thereF (gA g), g) := by simp [F_now, x_b_f, x_b_t, k4]
    rw [e9]
    exact ⟨rfl, ⟨hL, hH, hX, hD⟩, hF⟩
  by_cases k5 : w = 4
  · have k5T : (w).toInt = 4 := by rw [k5]; decide
    refine x_tswIn 76 (off := 75) d_X3_now_1 (by rw [k5T]; decide) (by rw [k5T]; decide) (by rw [k5T]; decide) (by decide) ?_
    refine x_aload_n 0 d_X3_now_76 rfl rfl ?_
    refine x_getr (j := 0) 1 x_c3 rfl (Nat.le_of_ble_eq_true rfl) q147 rfl d_X3_now_77 ?_
    refine x_getiV (j := 10) (z := (gA g) 5) x_c0 (p_kd x_pr1) (Nat.le_of_ble_eq_true rfl) q58 (p_n10 x_pr1) (PR.f10 hL) d_X3_now_80 ?_
    refine x_iret rfl d_X3_now_83 ?_
    have e9 : F_now g w = ((gA g) 5, g) := by simp [F_now, x_b_f, x_b_t, k5]
    rw [e9]
    exact ⟨rfl, ⟨hL, hH, hX, hD⟩, hF⟩
  by_cases k6 : w = 5
  · have k6T : (w).toInt = 5 := by rw [k6]; decide
    refine x_tswIn 84 (off := 83) d_X3_now_1 (by rw [k6T]; decide) (by rw [k6T]; decide) (by rw [k6T]; decide) (by decide) ?_
    refine x_aload_n 0 d_X3_now_84 rfl rfl ?_
    refine x_getr (j := 0) 1 x_c3 rfl (Nat.le_of_ble_eq_true rfl) q147 rfl d_X3_now_85 ?_
    refine x_getiV (j := 7) (z := (gA g) 2) x_c0 (p_kd x_pr1) (Nat.le_of_ble_eq_true rfl) q50 (p_n7 x_pr1) (PR.f7 hL) d_X3_now_88 ?_
    refine x_iret rfl d_X3_now_91 ?_
    have e9 : F_now g w = ((gA g) 2, g) := by simp [F_now, x_b_f, x_b_t, k6]
    rw [e9]
    exact ⟨rfl, ⟨hL, hH, hX, hD⟩, hF⟩
  by_cases k7 : w = 6
  · have k7T : (w).toInt = 6 := by rw [k7]; decide
    refine x_tswIn 92 (off := 91) d_X3_now_1 (by rw [k7T]; decide) (by rw [k7T]; decide) (by rw [k7T]; decide) (by decide) ?_
    refine x_aload_n 0 d_X3_now_92 rfl rfl ?_
    refine x_getr (j := 0) 1 x_c3 rfl (Nat.le_of_ble_eq_true rfl) q147 rfl d_X3_now_93 ?_
    refine x_cvip (k := 1) (as := []) (c_X0_beliefOfAll l E μ x_pr1 hL hWF) v_X0_beliefOfAll w_X0_beliefOfAll q301 (p_ob x_pr1) rfl ⟨Nat.le_of_ble_eq_true rfl, Nat.le_of_ble_eq_true rfl⟩ rfl (Nat.le_of_ble_eq_true rfl) d_X3_now_96 ?_
    refine x_iret rfl d_X3_now_99 ?_
    have e9 : F_now g w = (beliefsF (gA g), g) := by simp [F_now, x_b_f, x_b_t, k7]
    rw [e9]
    exact ⟨rfl, ⟨hL, hH, hX, hD⟩, hF⟩
  have k1T : ¬ (w).toInt = 0 := lv_neT k1 (by decide)
  have k2T : ¬ (w).toInt = 1 := lv_neT k2 (by decide)
  have k3T : ¬ (w).toInt = 2 := lv_neT k3 (by decide)
  have k4T : ¬ (w).toInt = 3 := lv_neT k4 (by decide)
  have k5T : ¬ (w).toInt = 4 := lv_neT k5 (by decide)
  have k6T : ¬ (w).toInt = 5 := lv_neT k6 (by decide)
  have k7T : ¬ (w).toInt = 6 := lv_neT k7 (by decide)
  refine x_tswOut 100 d_X3_now_1 (by omega) (by decide) ?_
  refine x_aload_n 0 d_X3_now_100 rfl rfl ?_
  refine x_ldc q182 d_X3_now_101 ?_
  refine x_cvi (k := 0) (as := [.int (-1000001)]) (c_X3_finding l E μ (i := 0) hD (by decide) (w := (-1000001)) (by decide)) v_X3_finding w_X3_finding q183 o_X rfl ⟨Nat.le_of_ble_eq_true rfl, Nat.le_of_ble_eq_true rfl⟩ rfl (Nat.le_of_ble_eq_true rfl) d_X3_now_103 ?_
  rintro _ μ8 ⟨rfl, hD9, hF10⟩
  have hL11 := PR.cg hL (μ' := μ8) (fun id hid => (hF10 _ (by omega)))
  have hLH12 := hH
  rw [← (show μ8 1 = μ 1 from (hF10 _ (by omega)))] at hLH12
  have hX13 := XR.cg hX (μ' := μ8) (fun id hid => (hF10 _ (by omega)))
  have hF14 : ∀ id, 41 ≤ id → μ8 id = μ id := fun id hid => (show μ8 id = μ id from (hF10 _ (by omega))).trans (hF id hid)
  refine x_iret rfl d_X3_now_106 ?_
  have e9 : F_now g w = fin g 0 := by simp [F_now, x_b_f, x_b_t, k1, k2, k3, k4, k5, k6, k7]
  rw [e9]
  exact ⟨rfl, XS.fin hL11 hLH12 hX13 hD9, hF14⟩
