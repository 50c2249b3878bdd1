def m_X4_of : x_M := (yX4_of, prog_6_method_25_code, 3, (some FieldType.int), 3, 69)
theorem v_X4_of : x_VM m_X4_of 2 := ⟨q790, q6, by decide +kernel, by decide +kernel, by decide +kernel⟩
theorem w_X4_of : x_VI m_X4_of := ⟨q788, q789⟩
theorem d_X4_of_0 : x_dec m_X4_of 0 (.aload_n 0) 1 1 := ⟨by decide +kernel, rfl⟩
theorem d_X4_of_1 : x_dec m_X4_of 1 (.iload_n 1) 1 2 := ⟨by decide +kernel, rfl⟩
theorem d_X4_of_2 : x_dec m_X4_of 2 (.invokevirtual 92) 3 5 := ⟨by decide +kernel, rfl⟩
theorem d_X4_of_5 : x_dec m_X4_of 5 (.ifCond .eq 12) 3 8 := ⟨by decide +kernel, rfl⟩
theorem d_X4_of_8 : x_dec m_X4_of 8 (.iload_n 2) 1 9 := ⟨by decide +kernel, rfl⟩
theorem d_X4_of_9 : x_dec m_X4_of 9 (.iconst 0) 1 10 := ⟨by decide +kernel, rfl⟩
theorem d_X4_of_10 : x_dec m_X4_of 10 (.iconst 3) 1 11 := ⟨by decide +kernel, rfl⟩
theorem d_X4_of_11 : x_dec m_X4_of 11 (.invokestatic 46) 3 14 := ⟨by decide +kernel, rfl⟩
theorem d_X4_of_14 : x_dec m_X4_of 14 (.ifCond .ne 10) 3 17 := ⟨by decide +kernel, rfl⟩
theorem d_X4_of_17 : x_dec m_X4_of 17 (.aload_n 0) 1 18 := ⟨by decide +kernel, rfl⟩
theorem d_X4_of_18 : x_dec m_X4_of 18 (.ldc 40) 2 20 := ⟨by decide +kernel, rfl⟩
theorem d_X4_of_20 : x_dec m_X4_of 20 (.invokevirtual 42) 3 23 := ⟨by decide +kernel, rfl⟩
theorem d_X4_of_23 : x_dec m_X4_of 23 (.ireturn) 1 24 := ⟨by decide +kernel, rfl⟩
theorem d_X4_of_24 : x_dec m_X4_of 24 (.iload_n 2) 1 25 := ⟨by decide +kernel, rfl⟩
theorem d_X4_of_25 : x_dec m_X4_of 25 (.iconst 3) 1 26 := ⟨by decide +kernel, rfl⟩
theorem d_X4_of_26 : x_dec m_X4_of 26 (.if_icmp .ne 11) 3 29 := ⟨by decide +kernel, rfl⟩
theorem d_X4_of_29 : x_dec m_X4_of 29 (.aload_n 0) 1 30 := ⟨by decide +kernel, rfl⟩
theorem d_X4_of_30 : x_dec m_X4_of 30 (.iload_n 1) 1 31 := ⟨by decide +kernel, rfl⟩
theorem d_X4_of_31 : x_dec m_X4_of 31 (.invokevirtual 61) 3 34 := ⟨by decide +kernel, rfl⟩
theorem d_X4_of_34 : x_dec m_X4_of 34 (.goto 9) 3 37 := ⟨by decide +kernel, rfl⟩
theorem d_X4_of_37 : x_dec m_X4_of 37 (.aload_n 0) 1 38 := ⟨by decide +kernel, rfl⟩
theorem d_X4_of_38 : x_dec m_X4_of 38 (.iload_n 1) 1 39 := ⟨by decide +kernel, rfl⟩
theorem d_X4_of_39 : x_dec m_X4_of 39 (.iload_n 2) 1 40 := ⟨by decide +kernel, rfl⟩
theorem d_X4_of_40 : x_dec m_X4_of 40 (.invokevirtual 50) 3 43 := ⟨by decide +kernel, rfl⟩
theorem d_X4_of_43 : x_dec m_X4_of 43 (.ireturn) 1 44 := ⟨by decide +kernel, rfl⟩
set_option maxHeartbeats 4000000 in
set_option maxRecDepth 100000 in
theorem c_X4_of (l : Launch) (E : x_E) (μ : x_Mem) (g : x_SG) (hS : MS g μ) (hI : Inv g) (p w : Int32) : x_Met l m_X4_of E [.ref (E.1 + 41), .int p, .int w] μ (x_I (fun z m => z = (F_of g p w).1 ∧ MS (F_of g p w).2 m ∧ ∀ id, id < 41 → m id = μ id)) := by
  obtain ⟨hR, hX, hD⟩ := hS
  have hWF := hI.1.1
  have hn7 := hWF.2.1
  have hpn := hWF.1
  have hF : ∀ id, id < 41 → μ id = μ id := fun _ _ => rfl
  refine x_enter (lv := [(0, .ref (E.1 + 41)), (1, .int p), (2, .int w)]) (by decide +kernel) (Nat.le_of_ble_eq_true rfl) rfl ?_
  refine x_aload_n 0 d_X4_of_0 rfl rfl ?_
  refine x_iload_n 1 d_X4_of_1 rfl rfl ?_
  refine x_cvip (k := 41) (as := [.int p]) (c_X4_isOne l E μ hR hWF p) v_X4_isOne w_X4_isOne q791 o_M rfl ⟨Nat.le_of_ble_eq_true rfl, Nat.le_of_ble_eq_true rfl⟩ rfl (Nat.le_of_ble_eq_true rfl) d_X4_of_2 ?_
  refine x_ifb_eq 17 d_X4_of_5 (by decide) (fun c1 => ?_) (fun c1 => ?_)
  · skip
    refine x_aload_n 0 d_X4_of_17 rfl rfl ?_
    refine x_ldc q734 d_X4_of_18 ?_
    refine x_cvi (k := 41) (as := [.int (-1000001)]) (c_X4_finds l E μ (i := 0) hD (by decide) (w := (-1000001)) (by decide)) v_X4_finds w_X4_finds q735 o_M rfl ⟨Nat.le_of_ble_eq_true rfl, Nat.le_of_ble_eq_true rfl⟩ rfl (Nat.le_of_ble_eq_true rfl) d_X4_of_20 ?_
    rintro _ μ2 ⟨rfl, hD3, hF4⟩
    have hR5 := MR.cg hR (μ' := μ2) (fun id hid => (hF4 _ (by omega)))
    have hX6 := MX.cg hX (μ' := μ2) (fun id hid => (hF4 _ (by omega)))
    have hF7 : ∀ id, id < 41 → μ2 id = μ id := fun id hid => (show μ2 id = μ id from (hF4 _ (by omega))).trans (hF id hid)
    refine x_iret rfl d_X4_of_23 ?_
    have e9 : F_of g p w = fin g 0 := by rw [F_of_r]; simp [x_b_f, x_b_t, c1, show inR 3 0 3 = true from by decide]
    rw [e9]
    exact ⟨rfl, MS.fin hR5 hX6 hD3, hF7⟩
  · skip
    obtain ⟨q, hq, rfl⟩ := isP_nat hWF c1
    refine x_iload_n 2 d_X4_of_8 rfl rfl ?_
    refine x_iconst (x := 0) d_X4_of_9 (by decide) ?_
    refine x_iconst (x := 3) d_X4_of_10 (by decide) ?_
    refine x_csip (as := [.int w, .int 0, .int 3]) (c_X4_in l E μ w 0 3) v_X4_in q728 q727 rfl ⟨Nat.le_of_ble_eq_true rfl, Nat.le_of_ble_eq_true rfl⟩ rfl (Nat.le_of_ble_eq_true rfl) d_X4_of_11 ?_
    refine x_ifb_ne 24 d_X4_of_14 (by decide) (fun c8 => ?_) (fun c8 => ?_)
    · skip
      obtain ⟨m, hm, rfl⟩ := inR_nat (n := 3) (by decide) c8
      refine x_iload_n 2 d_X4_of_24 rfl rfl ?_
      refine x_iconst (x := 3) d_X4_of_25 (by decide) ?_
      refine x_icmp_ne 37 d_X4_of_26 (by decide) (fun c9 => ?_) (fun c9 => ?_)
      · skip
        have hm3 : m ≠ 3 := fun z => c9 (by rw [z]; rfl)
        refine x_aload_n 0 d_X4_of_37 rfl rfl ?_
        refine x_iload_n 1 d_X4_of_38 rfl rfl ?_
        refine x_iload_n 2 d_X4_of_39 rfl rfl ?_
        refine x_cvip (k := 41) (as := [.int (nI q), .int (nI m)]) (c_X4_told l E μ hR (p := q) (w := m) (j := 24 + 3 * q + m) rfl (by omega)) v_X4_told w_X4_told q755 o_M rfl ⟨Nat.le_of_ble_eq_true rfl, Nat.le_of_ble_eq_true rfl⟩ rfl (Nat.le_of_ble_eq_true rfl) d_X4_of_40 ?_
        refine x_iret rfl d_X4_of_43 ?_
        have e9 : F_of g (nI q) (nI m) = ((gA g) (24 + 3 * q + m), g) := by rw [F_of_r]; simp [x_b_f, x_b_t, c1, c8, c9, nI_clamp (n := q) (by omega), nI_clamp (n := m) (by omega), show inR 3 0 3 = true from by decide]
        rw [e9]
        exact ⟨rfl, ⟨hR, hX, hD⟩, hF⟩
      · skip
        refine x_aload_n 0 d_X4_of_29 rfl rfl ?_
        refine x_iload_n 1 d_X4_of_30 rfl rfl ?_
        refine x_cvip (k := 41) (as := [.int (nI q)]) (c_X4_faithOf l E μ hR hWF (p := q) (by omega)) v_X4_faithOf w_X4_faithOf q751 o_M rfl ⟨Nat.le_of_ble_eq_true rfl, Nat.le_of_ble_eq_true rfl⟩ rfl (Nat.le_of_ble_eq_true rfl) d_X4_of_31 ?_
        refine x_goto 43 d_X4_of_34 (by decide) ?_
        refine x_iret rfl d_X4_of_43 ?_
        have e9 : F_of g (nI q) (nI m) = (faithF (gA g) q, g) := by rw [F_of_r]; simp [x_b_f, x_b_t, c1, c8, c9, nI_clamp (n := q) (by omega), nI_clamp (n := m) (by omega), show inR 3 0 3 = true from by decide]
        rw [e9]
        exact ⟨rfl, ⟨hR, hX, hD⟩, hF⟩
    · skip
      refine x_aload_n 0 d_X4_of_17 rfl rfl ?_
      refine x_ldc q734 d_X4_of_18 ?_
      refine x_cvi (k := 41) (as := [.int (-1000001)]) (c_X4_finds l E μ (i := 0) hD (by decide) (w := (-1000001)) (by decide)) v_X4_finds w_X4_finds q735 o_M rfl ⟨Nat.le_of_ble_eq_true rfl, Nat.le_of_ble_eq_true rfl⟩ rfl (Nat.le_of_ble_eq_true rfl) d_X4_of_20 ?_
      rintro _ μ10 ⟨rfl, hD11, hF12⟩
      have hR13 := MR.cg hR (μ' := μ10) (fun id hid => (hF12 _ (by omega)))
      have hX14 := MX.cg hX (μ' := μ10) (fun id hid => (hF12 _ (by omega)))
      have hF15 : ∀ id, id < 41 → μ10 id = μ id := fun id hid => (show μ10 id = μ id from (hF12 _ (by omega))).trans (hF id hid)
      refine x_iret rfl d_X4_of_23 ?_
      have e9 : F_of g (nI q) w = fin g 0 := by rw [F_of_r]; simp [x_b_f, x_b_t, c1, c8, nI_clamp (n := q) (by omega), show inR 3 0 3 = true from by decide]
      rw [e9]
      exact ⟨rfl, MS.fin hR13 hX14 hD11, hF15⟩
def m_X4_mayBe : x_M := (yX4_mayBe, prog_6_method_26_code, 2, (some FieldType.boolean), 1, 22)
theorem v_X4_mayBe : x_VM m_X4_mayBe 2 := ⟨q801, q6, by decide +kernel, by decide +kernel, by decide +kernel⟩
theorem d_X4_mayBe_0 : x_dec m_X4_mayBe 0 (.iload_n 0) 1 1 := ⟨by decide +kernel, rfl⟩
theorem d_X4_mayBe_1 : x_dec m_X4_mayBe 1 (.ifCond .ne 13) 3 4 := ⟨by decide +kernel, rfl⟩
theorem d_X4_mayBe_4 : x_dec m_X4_mayBe 4 (.iload_n 1) 1 5 := ⟨by decide +kernel, rfl⟩
theorem d_X4_mayBe_5 : x_dec m_X4_mayBe 5 (.iconst 0) 1 6 := ⟨by decide +kernel, rfl⟩
theorem d_X4_mayBe_6 : x_dec m_X4_mayBe 6 (.bipush 6) 2 8 := ⟨by decide +kernel, rfl⟩
theorem d_X4_mayBe_8 : x_dec m_X4_mayBe 8 (.invokestatic 46) 3 11 := ⟨by decide +kernel, rfl⟩
theorem d_X4_mayBe_11 : x_dec m_X4_mayBe 11 (.goto 25) 3 14 := ⟨by decide +kernel, rfl⟩
theorem d_X4_mayBe_14 : x_dec m_X4_mayBe 14 (.iload_n 0) 1 15 := ⟨by decide +kernel, rfl⟩
theorem d_X4_mayBe_15 : x_dec m_X4_mayBe 15 (.iconst 1) 1 16 := ⟨by decide +kernel, rfl⟩
theorem d_X4_mayBe_16 : x_dec m_X4_mayBe 16 (.if_icmp .ne 13) 3 19 := ⟨by decide +kernel, rfl⟩
theorem d_X4_mayBe_19 : x_dec m_X4_mayBe 19 (.iload_n 1) 1 20 := ⟨by decide +kernel, rfl⟩
theorem d_X4_mayBe_20 : x_dec m_X4_mayBe 20 (.iconst (-1)) 1 21 := ⟨by decide +kernel, rfl⟩
theorem d_X4_mayBe_21 : x_dec m_X4_mayBe 21 (.bipush 16) 2 23 := ⟨by decide +kernel, rfl⟩
theorem d_X4_mayBe_23 : x_dec m_X4_mayBe 23 (.invokestatic 46) 3 26 := ⟨by decide +kernel, rfl⟩
theorem d_X4_mayBe_26 : x_dec m_X4_mayBe 26 (.goto 10) 3 29 := ⟨by decide +kernel, rfl⟩
theorem d_X4_mayBe_29 : x_dec m_X4_mayBe 29 (.iload_n 1) 1 30 := ⟨by decide +kernel, rfl⟩
theorem d_X4_mayBe_30 : x_dec m_X4_mayBe 30 (.iconst 0) 1 31 := ⟨by decide +kernel, rfl⟩
theorem d_X4_mayBe_31 : x_dec m_X4_mayBe 31 (.bipush 99) 2 33 := ⟨by decide +kernel, rfl⟩
theorem d_X4_mayBe_33 : x_dec m_X4_mayBe 33 (.invokestatic 46) 3 36 := ⟨by decide +kernel, rfl⟩
theorem d_X4_mayBe_36 : x_dec m_X4_mayBe 36 (.ireturn) 1 37 := ⟨by decide +kernel, rfl⟩
set_option maxHeartbeats 4000000 in
set_option maxRecDepth 100000 in
theorem c_X4_mayBe (l : Launch) (E : x_E) (μ : x_Mem) (w v : Int32) : x_Met l m_X4_mayBe E [.int w, .int v] μ (x_I (fun z m => z = x_b (mayF w v) ∧ m = μ)) := by
  refine x_enter (lv := [(0, .int w), (1, .int v)]) (by decide +kernel) (Nat.le_of_ble_eq_true rfl) rfl ?_
  refine x_iload_n 0 d_X4_mayBe_0 rfl rfl ?_
  refine x_if_ne 14 d_X4_mayBe_1 (by decide) (fun c1 => ?_) (fun c1 => ?_)
  · skip
    refine x_iload_n 0 d_X4_mayBe_14 rfl rfl ?_
    refine x_iconst (x := 1) d_X4_mayBe_15 (by decide) ?_
    refine x_icmp_ne 29 d_X4_mayBe_16 (by decide) (fun c2 => ?_) (fun c2 => ?_)
    · skip
      refine x_iload_n 1 d_X4_mayBe_29 rfl rfl ?_
      refine x_iconst (x := 0) d_X4_mayBe_30 (by decide) ?_
      refine x_bipush (x := 99) d_X4_mayBe_31 (by decide) ?_
      refine x_csip (as := [.int v, .int 0, .int 99]) (c_X4_in l E μ v 0 99) v_X4_in q728 q727 rfl ⟨Nat.le_of_ble_eq_true rfl, Nat.le_of_ble_eq_true rfl⟩ rfl (Nat.le_of_ble_eq_true rfl) d_X4_mayBe_33 ?_
      refine x_zret rfl d_X4_mayBe_36 ?_
      exact ⟨by unfold mayF; simp [c1, c2], rfl⟩
    · skip
      refine x_iload_n 1 d_X4_mayBe_19 rfl rfl ?_
      refine x_iconst (x := (-1)) d_X4_mayBe_20 (by decide) ?_
      refine x_bipush (x := 16) d_X4_mayBe_21 (by decide) ?_
      refine x_csip (as := [.int v, .int (-1), .int 16]) (c_X4_in l E μ v (-1) 16) v_X4_in q728 q727 rfl ⟨Nat.le_of_ble_eq_true rfl, Nat.le_of_ble_eq_true rfl⟩ rfl (Nat.le_of_ble_eq_true rfl) d_X4_mayBe_23 ?_
      refine x_goto 36 d_X4_mayBe_26 (by decide) ?_
      refine x_zret rfl d_X4_mayBe_36 ?_
      exact ⟨by unfold mayF; simp [c1, c2], rfl⟩
  · skip
    refine x_iload_n 1 d_X4_mayBe_4 rfl rfl ?_
    refine x_iconst (x := 0) d_X4_mayBe_5 (by decide) ?_
    refine x_bipush (x := 6) d_X4_mayBe_6 (by decide) ?_
    refine x_csip (as := [.int v, .int 0, .int 6]) (c_X4_in l E μ v 0 6) v_X4_in q728 q727 rfl ⟨Nat.le_of_ble_eq_true rfl, Nat.le_of_ble_eq_true rfl⟩ rfl (Nat.le_of_ble_eq_true rfl) d_X4_mayBe_8 ?_
    refine x_goto 36 d_X4_mayBe_11 (by decide) ?_
    refine x_zret rfl d_X4_mayBe_36 ?_
    exact ⟨by unfold mayF; simp [c1], rfl⟩
def m_X4_change : x_M := (yX4_change, prog_6_method_27_code, 4, (some FieldType.int), 2, 43)
theorem v_X4_change : x_VM m_X4_change 3 := ⟨q798, q6, by decide +kernel, by decide +kernel, by decide +kernel⟩
theorem w_X4_change : x_VI m_X4_change := ⟨q796, q797⟩
theorem d_X4_change_0 : x_dec m_X4_change 0 (.aload_n 0) 1 1 := ⟨by decide +kernel, rfl⟩
theorem d_X4_change_1 : x_dec m_X4_change 1 (.iload_n 1) 1 2 := ⟨by decide +kernel, rfl⟩
theorem d_X4_change_2 : x_dec m_X4_change 2 (.invokevirtual 92) 3 5 := ⟨by decide +kernel, rfl⟩
theorem d_X4_change_5 : x_dec m_X4_change 5 (.ifCond .eq 36) 3 8 := ⟨by decide +kernel, rfl⟩
theorem d_X4_change_8 : x_dec m_X4_change 8 (.iload_n 2) 1 9 := ⟨by decide +kernel, rfl⟩
theorem d_X4_change_9 : x_dec m_X4_change 9 (.iconst 0) 1 10 := ⟨by decide +kernel, rfl⟩
theorem d_X4_change_10 : x_dec m_X4_change 10 (.iconst 2) 1 11 := ⟨by decide +kernel, rfl⟩
theorem d_X4_change_11 : x_dec m_X4_change 11 (.invokestatic 46) 3 14 := ⟨by decide +kernel, rfl⟩
theorem d_X4_change_14 : x_dec m_X4_change 14 (.ifCond .eq 27) 3 17 := ⟨by decide +kernel, rfl⟩
theorem d_X4_change_17 : x_dec m_X4_change 17 (.iload_n 2) 1 18 := ⟨by decide +kernel, rfl⟩
theorem d_X4_change_18 : x_dec m_X4_change 18 (.iload_n 3) 1 19 := ⟨by decide +kernel, rfl⟩
theorem d_X4_change_19 : x_dec m_X4_change 19 (.invokestatic 95) 3 22 := ⟨by decide +kernel, rfl⟩
theorem d_X4_change_22 : x_dec m_X4_change 22 (.ifCond .eq 19) 3 25 := ⟨by decide +kernel, rfl⟩
theorem d_X4_change_25 : x_dec m_X4_change 25 (.aload_n 0) 1 26 := ⟨by decide +kernel, rfl⟩
theorem d_X4_change_26 : x_dec m_X4_change 26 (.bipush 24) 2 28 := ⟨by decide +kernel, rfl⟩
theorem d_X4_change_28 : x_dec m_X4_change 28 (.iconst 3) 1 29 := ⟨by decide +kernel, rfl⟩
theorem d_X4_change_29 : x_dec m_X4_change 29 (.iload_n 1) 1 30 := ⟨by decide +kernel, rfl⟩
theorem d_X4_change_30 : x_dec m_X4_change 30 (.imul) 1 31 := ⟨by decide +kernel, rfl⟩
theorem d_X4_change_31 : x_dec m_X4_change 31 (.iadd) 1 32 := ⟨by decide +kernel, rfl⟩
theorem d_X4_change_32 : x_dec m_X4_change 32 (.iload_n 2) 1 33 := ⟨by decide +kernel, rfl⟩
theorem d_X4_change_33 : x_dec m_X4_change 33 (.iadd) 1 34 := ⟨by decide +kernel, rfl⟩
theorem d_X4_change_34 : x_dec m_X4_change 34 (.iload_n 3) 1 35 := ⟨by decide +kernel, rfl⟩
theorem d_X4_change_35 : x_dec m_X4_change 35 (.invokevirtual 81) 3 38 := ⟨by decide +kernel, rfl⟩
theorem d_X4_change_38 : x_dec m_X4_change 38 (.goto 9) 3 41 := ⟨by decide +kernel, rfl⟩
theorem d_X4_change_41 : x_dec m_X4_change 41 (.aload_n 0) 1 42 := ⟨by decide +kernel, rfl⟩
theorem d_X4_change_42 : x_dec m_X4_change 42 (.ldc 40) 2 44 := ⟨by decide +kernel, rfl⟩
theorem d_X4_change_44 : x_dec m_X4_change 44 (.invokevirtual 42) 3 47 := ⟨by decide +kernel, rfl⟩
theorem d_X4_change_47 : x_dec m_X4_change 47 (.ireturn) 1 48 := ⟨by decide +kernel, rfl⟩
set_option maxHeartbeats 4000000 in
set_option maxRecDepth 100000 in
theorem c_X4_change (l : Launch) (E : x_E) (μ : x_Mem) (g : x_SG) (hS : MS g μ) (hI : Inv g) (p w v : Int32) : x_Met l m_X4_change E [.ref (E.1 + 41), .int p, .int w, .int v] μ (x_I (fun z m => z = (F_change g p w v).1 ∧ MS (F_change g p w v).2 m ∧ ∀ id, id < 41 → m id = μ id)) := by
  obtain ⟨hR, hX, hD⟩ := hS
  have hWF := hI.1.1
  have hn7 := hWF.2.1
  have hpn := hWF.1
  have hF : ∀ id, id < 41 → μ id = μ id := fun _ _ => rfl
  refine x_enter (lv := [(0, .ref (E.1 + 41)), (1, .int p), (2, .int w), (3, .int v)]) (by decide +kernel) (Nat.le_of_ble_eq_true rfl) rfl ?_
  refine x_aload_n 0 d_X4_change_0 rfl rfl ?_
  refine x_iload_n 1 d_X4_change_1 rfl rfl ?_
  refine x_cvip (k := 41) (as := [.int p]) (c_X4_isOne l E μ hR hWF p) v_X4_isOne w_X4_isOne q791 o_M rfl ⟨Nat.le_of_ble_eq_true rfl, Nat.le_of_ble_eq_true rfl⟩ rfl (Nat.le_of_ble_eq_true rfl) d_X4_change_2 ?_
  refine x_ifb_eq 41 d_X4_change_5 (by decide) (fun c1 => ?_) (fun c1 => ?_)
  · skip
    refine x_aload_n 0 d_X4_change_41 rfl rfl ?_
    refine x_ldc q734 d_X4_change_42 ?_
    refine x_cvi (k := 41) (as := [.int (-1000001)]) (c_X4_finds l E μ (i := 0) hD (by decide) (w := (-1000001)) (by decide)) v_X4_finds w_X4_finds q735 o_M rfl ⟨Nat.le_of_ble_eq_true rfl, Nat.le_of_ble_eq_true rfl⟩ rfl (Nat.le_of_ble_eq_true rfl) d_X4_change_44 ?_
    rintro _ μ2 ⟨rfl, hD3, hF4⟩
    have hR5 := MR.cg hR (μ' := μ2) (fun id hid => (hF4 _ (by omega)))
    have hX6 := MX.cg hX (μ' := μ2) (fun id hid => (hF4 _ (by omega)))
    have hF7 : ∀ id, id < 41 → μ2 id = μ id := fun id hid => (show μ2 id = μ id from (hF4 _ (by omega))).trans (hF id hid)
    refine x_iret rfl d_X4_change_47 ?_
    have e9 : F_change g p w v = fin g 0 := by rw [F_change_r]; simp [x_b_f, x_b_t, c1, setL]
    rw [e9]
    exact ⟨rfl, MS.fin hR5 hX6 hD3, hF7⟩
  · skip
    obtain ⟨q, hq, rfl⟩ := isP_nat hWF c1
    refine x_iload_n 2 d_X4_change_8 rfl rfl ?_
    refine x_iconst (x := 0) d_X4_change_9 (by decide) ?_
    refine x_iconst (x := 2) d_X4_change_10 (by decide) ?_
    refine x_csip (as := [.int w, .int 0, .int 2]) (c_X4_in l E μ w 0 2) v_X4_in q728 q727 rfl ⟨Nat.le_of_ble_eq_true rfl, Nat.le_of_ble_eq_true rfl⟩ rfl (Nat.le_of_ble_eq_true rfl) d_X4_change_11 ?_
    refine x_ifb_eq 41 d_X4_change_14 (by decide) (fun c8 => ?_) (fun c8 => ?_)
    · skip
      refine x_aload_n 0 d_X4_change_41 rfl rfl ?_
      refine x_ldc q734 d_X4_change_42 ?_
      refine x_cvi (k := 41) (as := [.int (-1000001)]) (c_X4_finds l E μ (i := 0) hD (by decide) (w := (-1000001)) (by decide)) v_X4_finds w_X4_finds q735 o_M rfl ⟨Nat.le_of_ble_eq_true rfl, Nat.le_of_ble_eq_true rfl⟩ rfl (Nat.le_of_ble_eq_true rfl) d_X4_change_44 ?_
      rintro _ μ9 ⟨rfl, hD10, hF11⟩
      have hR12 := MR.cg hR (μ' := μ9) (fun id hid => (hF11 _ (by omega)))
      have hX13 := MX.cg hX (μ' := μ9) (fun id hid => (hF11 _ (by omega)))
      have hF14 : ∀ id, id < 41 → μ9 id = μ id := fun id hid => (show μ9 id = μ id from (hF11 _ (by omega))).trans (hF id hid)
      refine x_iret rfl d_X4_change_47 ?_
      have e9 : F_change g (nI q) w v = fin g 0 := by rw [F_change_r]; simp [x_b_f, x_b_t, c1, c8, nI_clamp (n := q) (by omega), setL]
      rw [e9]
      exact ⟨rfl, MS.fin hR12 hX13 hD10, hF14⟩
    · skip
      obtain ⟨m, hm, rfl⟩ := inR_nat (n := 2) (by decide) c8
      refine x_iload_n 2 d_X4_change_17 rfl rfl ?_
      refine x_iload_n 3 d_X4_change_18 rfl rfl ?_
      refine x_csip (as := [.int (nI m), .int v]) (c_X4_mayBe l E μ (nI m) v) v_X4_mayBe q800 q799 rfl ⟨Nat.le_of_ble_eq_true rfl, Nat.le_of_ble_eq_true rfl⟩ rfl (Nat.le_of_ble_eq_true rfl) d_X4_change_19 ?_
      refine x_ifb_eq 41 d_X4_change_22 (by decide) (fun c15 => ?_) (fun c15 => ?_)
      · skip
        refine x_aload_n 0 d_X4_change_41 rfl rfl ?_
        refine x_ldc q734 d_X4_change_42 ?_
        refine x_cvi (k := 41) (as := [.int (-1000001)]) (c_X4_finds l E μ (i := 0) hD (by decide) (w := (-1000001)) (by decide)) v_X4_finds w_X4_finds q735 o_M rfl ⟨Nat.le_of_ble_eq_true rfl, Nat.le_of_ble_eq_true rfl⟩ rfl (Nat.le_of_ble_eq_true rfl) d_X4_change_44 ?_
        rintro _ μ16 ⟨rfl, hD17, hF18⟩
        have hR19 := MR.cg hR (μ' := μ16) (fun id hid => (hF18 _ (by omega)))
        have hX20 := MX.cg hX (μ' := μ16) (fun id hid => (hF18 _ (by omega)))
        have hF21 : ∀ id, id < 41 → μ16 id = μ id := fun id hid => (show μ16 id = μ id from (hF18 _ (by omega))).trans (hF id hid)
        refine x_iret rfl d_X4_change_47 ?_
        have e9 : F_change g (nI q) (nI m) v = fin g 0 := by rw [F_change_r]; simp [x_b_f, x_b_t, c1, c8, c15, nI_clamp (n := q) (by omega), nI_clamp (n := m) (by omega), setL]
        rw [e9]
        exact ⟨rfl, MS.fin hR19 hX20 hD17, hF21⟩
      · skip
        refine x_aload_n 0 d_X4_change_25 rfl rfl ?_
        refine x_bipush (x := 24) d_X4_change_26 (by decide) ?_
        refine x_iconst (x := 3) d_X4_change_28 (by decide) ?_
        refine x_iload_n 1 d_X4_change_29 rfl rfl ?_
        refine x_imul d_X4_change_30 ?_
        rw [show (3 : Int32) * (nI q) = nI (3 * q) from nI_mulN 3 q]
        refine x_iadd d_X4_change_31 ?_
        rw [show (24 : Int32) + (nI (3 * q)) = nI (24 + (3 * q)) from nI_add 24 (3 * q)]
        refine x_iload_n 2 d_X4_change_32 rfl rfl ?_
        refine x_iadd d_X4_change_33 ?_
        rw [show (nI (24 + (3 * q))) + (nI m) = nI ((24 + (3 * q)) + m) from nI_add (24 + (3 * q)) m]
        refine x_iload_n 3 d_X4_change_34 rfl rfl ?_
        refine x_cvi (k := 41) (as := [.int (nI ((24 + (3 * q)) + m)), .int v]) (c_X4_becomes l E μ hR (j := ((24 + (3 * q)) + m)) (by omega) v) v_X4_becomes w_X4_becomes q730 o_M rfl ⟨Nat.le_of_ble_eq_true rfl, Nat.le_of_ble_eq_true rfl⟩ rfl (Nat.le_of_ble_eq_true rfl) d_X4_change_35 ?_
        rintro _ μ22 ⟨rfl, eμ22⟩
        have hR23 : MR (upd (gA g) (((24 + (3 * q)) + m)) v) μ22 := MR.w hR eμ22
        have hX24 := MX.cg hX (μ' := μ22) (fun id hid => (by rw [eμ22, upd2_ne _ _ _ (by omega)]))
        have hD25 := MD.cg hD (μ' := μ22) (fun id hid => (by rw [eμ22, upd2_ne _ _ _ (by omega)]))
        have hF26 : ∀ id, id < 41 → μ22 id = μ id := fun id hid => (show μ22 id = μ id from (by rw [eμ22, upd2_ne _ _ _ (by omega)])).trans (hF id hid)
        refine x_goto 47 d_X4_change_38 (by decide) ?_
        refine x_iret rfl d_X4_change_47 ?_
        have e9 : F_change g (nI q) (nI m) v = ((gA g) (((24 + (3 * q)) + m)), sA g (upd (gA g) (((24 + (3 * q)) + m)) v)) := by rw [F_change_r]; simp [x_b_f, x_b_t, c1, c8, c15, nI_clamp (n := q) (by omega), nI_clamp (n := m) (by omega), setL]
        rw [e9]
        exact ⟨rfl, MS.line hR23 hX24 hD25, hF26⟩
def m_X4_set : x_M := (yX4_set, prog_6_method_28_code, 4, (some FieldType.int), 1, 23)
theorem v_X4_set : x_VM m_X4_set 2 := ⟨q805, q6, by decide +kernel, by decide +kernel, by decide +kernel⟩
theorem w_X4_set : x_VI m_X4_set := ⟨q803, q804⟩
theorem d_X4_set_0 : x_dec m_X4_set 0 (.iload_n 1) 1 1 := ⟨by decide +kernel, rfl⟩
theorem d_X4_set_1 : x_dec m_X4_set 1 (.iconst 0) 1 2 := ⟨by decide +kernel, rfl⟩
theorem d_X4_set_2 : x_dec m_X4_set 2 (.iconst 3) 1 3 := ⟨by decide +kernel, rfl⟩
theorem d_X4_set_3 : x_dec m_X4_set 3 (.invokestatic 46) 3 6 := ⟨by decide +kernel, rfl⟩
theorem d_X4_set_6 : x_dec m_X4_set 6 (.ifCond .eq 35) 3 9 := ⟨by decide +kernel, rfl⟩
theorem d_X4_set_9 : x_dec m_X4_set 9 (.iload_n 2) 1 10 := ⟨by decide +kernel, rfl⟩
theorem d_X4_set_10 : x_dec m_X4_set 10 (.iconst 0) 1 11 := ⟨by decide +kernel, rfl⟩
theorem d_X4_set_11 : x_dec m_X4_set 11 (.iload_n 1) 1 12 := ⟨by decide +kernel, rfl⟩
theorem d_X4_set_12 : x_dec m_X4_set 12 (.ifCond .ne 8) 3 15 := ⟨by decide +kernel, rfl⟩
theorem d_X4_set_15 : x_dec m_X4_set 15 (.bipush 16) 2 17 := ⟨by decide +kernel, rfl⟩
theorem d_X4_set_17 : x_dec m_X4_set 17 (.goto 14) 3 20 := ⟨by decide +kernel, rfl⟩
theorem d_X4_set_20 : x_dec m_X4_set 20 (.iload_n 1) 1 21 := ⟨by decide +kernel, rfl⟩
theorem d_X4_set_21 : x_dec m_X4_set 21 (.iconst 1) 1 22 := ⟨by decide +kernel, rfl⟩
theorem d_X4_set_22 : x_dec m_X4_set 22 (.if_icmp .ne 7) 3 25 := ⟨by decide +kernel, rfl⟩
theorem d_X4_set_25 : x_dec m_X4_set 25 (.iconst 1) 1 26 := ⟨by decide +kernel, rfl⟩
theorem d_X4_set_26 : x_dec m_X4_set 26 (.goto 5) 3 29 := ⟨by decide +kernel, rfl⟩
theorem d_X4_set_29 : x_dec m_X4_set 29 (.bipush 20) 2 31 := ⟨by decide +kernel, rfl⟩
theorem d_X4_set_31 : x_dec m_X4_set 31 (.invokestatic 46) 3 34 := ⟨by decide +kernel, rfl⟩
theorem d_X4_set_34 : x_dec m_X4_set 34 (.ifCond .eq 7) 3 37 := ⟨by decide +kernel, rfl⟩
theorem d_X4_set_37 : x_dec m_X4_set 37 (.iconst 1) 1 38 := ⟨by decide +kernel, rfl⟩
theorem d_X4_set_38 : x_dec m_X4_set 38 (.goto 4) 3 41 := ⟨by decide +kernel, rfl⟩
theorem d_X4_set_41 : x_dec m_X4_set 41 (.iconst 0) 1 42 := ⟨by decide +kernel, rfl⟩
theorem d_X4_set_42 : x_dec m_X4_set 42 (.istore_n 3) 1 43 := ⟨by decide +kernel, rfl⟩
theorem d_X4_set_43 : x_dec m_X4_set 43 (.iload_n 3) 1 44 := ⟨by decide +kernel, rfl⟩
theorem d_X4_set_44 : x_dec m_X4_set 44 (.ifCond .eq 14) 3 47 := ⟨by decide +kernel, rfl⟩
theorem d_X4_set_47 : x_dec m_X4_set 47 (.aload_n 0) 1 48 := ⟨by decide +kernel, rfl⟩
theorem d_X4_set_48 : x_dec m_X4_set 48 (.iconst 1) 1 49 := ⟨by decide +kernel, rfl⟩
theorem d_X4_set_49 : x_dec m_X4_set 49 (.iload_n 1) 1 50 := ⟨by decide +kernel, rfl⟩
theorem d_X4_set_50 : x_dec m_X4_set 50 (.iadd) 1 51 := ⟨by decide +kernel, rfl⟩
theorem d_X4_set_51 : x_dec m_X4_set 51 (.iload_n 2) 1 52 := ⟨by decide +kernel, rfl⟩
theorem d_X4_set_52 : x_dec m_X4_set 52 (.invokevirtual 81) 3 55 := ⟨by decide +kernel, rfl⟩
theorem d_X4_set_55 : x_dec m_X4_set 55 (.goto 9) 3 58 := ⟨by decide +kernel, rfl⟩
theorem d_X4_set_58 : x_dec m_X4_set 58 (.aload_n 0) 1 59 := ⟨by decide +kernel, rfl⟩
theorem d_X4_set_59 : x_dec m_X4_set 59 (.ldc 40) 2 61 := ⟨by decide +kernel, rfl⟩
theorem d_X4_set_61 : x_dec m_X4_set 61 (.invokevirtual 42) 3 64 := ⟨by decide +kernel, rfl⟩
theorem d_X4_set_64 : x_dec m_X4_set 64 (.ireturn) 1 65 := ⟨by decide +kernel, rfl⟩
set_option maxHeartbeats 4000000 in
set_option maxRecDepth 100000 in
theorem c_X4_set (l : Launch) (E : x_E) (μ : x_Mem) (g : x_SG) (hS : MS g μ) (hI : Inv g) (w v : Int32) : x_Met l m_X4_set E [.ref (E.1 + 41), .int w, .int v] μ (x_I (fun z m => z = (F_set g w v).1 ∧ MS (F_set g w v).2 m ∧ ∀ id, id < 41 → m id = μ id)) := by
  obtain ⟨hR, hX, hD⟩ := hS
  have hWF := hI.1.1
  have hn7 := hWF.2.1
  have hpn := hWF.1
  have hF : ∀ id, id < 41 → μ id = μ id := fun _ _ => rfl
  refine x_enter (lv := [(0, .ref (E.1 + 41)), (1, .int w), (2, .int v)]) (by decide +kernel) (Nat.le_of_ble_eq_true rfl) rfl ?_
  refine x_iload_n 1 d_X4_set_0 rfl rfl ?_
  refine x_iconst (x := 0) d_X4_set_1 (by decide) ?_
  refine x_iconst (x := 3) d_X4_set_2 (by decide) ?_
  refine x_csip (as := [.int w, .int 0, .int 3]) (c_X4_in l E μ w 0 3) v_X4_in q728 q727 rfl ⟨Nat.le_of_ble_eq_true rfl, Nat.le_of_ble_eq_true rfl⟩ rfl (Nat.le_of_ble_eq_true rfl) d_X4_set_3 ?_
  refine x_ifb_eq 41 d_X4_set_6 (by decide) (fun c1 => ?_) (fun c1 => ?_)
  · skip
    refine x_iconst (x := 0) d_X4_set_41 (by decide) ?_
    refine x_istore_n [(3, .int 0), (0, .ref (E.1 + 41)), (1, .int w), (2, .int v)] d_X4_set_42 rfl (Nat.le_of_ble_eq_true rfl) rfl ?_
    refine x_iload_n 0 d_X4_set_43 rfl rfl ?_
    refine x_if_eq 58 d_X4_set_44 (by decide) (fun c2 => ?_) (fun c2 => ?_)
    rotate_left
    · exact absurd c2 (by decide)
    refine x_aload_n 1 d_X4_set_58 rfl rfl ?_
    refine x_ldc q734 d_X4_set_59 ?_
    refine x_cvi (k := 41) (as := [.int (-1000001)]) (c_X4_finds l E μ (i := 0) hD (by decide) (w := (-1000001)) (by decide)) v_X4_finds w_X4_finds q735 o_M rfl ⟨Nat.le_of_ble_eq_true rfl, Nat.le_of_ble_eq_true rfl⟩ rfl (Nat.le_of_ble_eq_true rfl) d_X4_set_61 ?_
    rintro _ μ3 ⟨rfl, hD4, hF5⟩
    have hR6 := MR.cg hR (μ' := μ3) (fun id hid => (hF5 _ (by omega)))
    have hX7 := MX.cg hX (μ' := μ3) (fun id hid => (hF5 _ (by omega)))
    have hF8 : ∀ id, id < 41 → μ3 id = μ id := fun id hid => (show μ3 id = μ id from (hF5 _ (by omega))).trans (hF id hid)
    refine x_iret rfl d_X4_set_64 ?_
    have e9 : F_set g w v = fin g 0 := by rw [F_set_r]; simp [x_b_f, x_b_t, c1, setL]
    rw [e9]
    exact ⟨rfl, MS.fin hR6 hX7 hD4, hF8⟩
  · skip
    obtain ⟨m, hm, rfl⟩ := inR_nat (n := 3) (by decide) c1
    refine x_iload_n 2 d_X4_set_9 rfl rfl ?_
    refine x_iconst (x := 0) d_X4_set_10 (by decide) ?_
    refine x_iload_n 1 d_X4_set_11 rfl rfl ?_
    refine x_if_ne 20 d_X4_set_12 (by decide) (fun c9 => ?_) (fun c9 => ?_)
    · skip
      refine x_iload_n 1 d_X4_set_20 rfl rfl ?_
      refine x_iconst (x := 1) d_X4_set_21 (by decide) ?_
      refine x_icmp_ne 29 d_X4_set_22 (by decide) (fun c10 => ?_) (fun c10 => ?_)
      · skip
        refine x_bipush (x := 20) d_X4_set_29 (by decide) ?_
        have hsh : setHi (nI m) = 20 := by unfold setHi; rw [if_neg c9, if_neg c10]
        refine x_csip (as := [.int v, .int 0, .int 20]) (c_X4_in l E μ v 0 20) v_X4_in q728 q727 rfl ⟨Nat.le_of_ble_eq_true rfl, Nat.le_of_ble_eq_true rfl⟩ rfl (Nat.le_of_ble_eq_true rfl) d_X4_set_31 ?_
        rw [show inR v 0 20 = inR v 0 (setHi (nI m)) from by rw [hsh]]
        refine x_ifb_eq 41 d_X4_set_34 (by decide) (fun c11 => ?_) (fun c11 => ?_)
        · skip
          refine x_iconst (x := 0) d_X4_set_41 (by decide) ?_
          refine x_istore_n [(3, .int 0), (0, .ref (E.1 + 41)), (1, .int (nI m)), (2, .int v)] d_X4_set_42 rfl (Nat.le_of_ble_eq_true rfl) rfl ?_
          refine x_iload_n 0 d_X4_set_43 rfl rfl ?_
          refine x_if_eq 58 d_X4_set_44 (by decide) (fun c12 => ?_) (fun c12 => ?_)
          rotate_left
          · exact absurd c12 (by decide)
          refine x_aload_n 1 d_X4_set_58 rfl rfl ?_
          refine x_ldc q734 d_X4_set_59 ?_
          refine x_cvi (k := 41) (as := [.int (-1000001)]) (c_X4_finds l E μ (i := 0) hD (by decide) (w := (-1000001)) (by decide)) v_X4_finds w_X4_finds q735 o_M rfl ⟨Nat.le_of_ble_eq_true rfl, Nat.le_of_ble_eq_true rfl⟩ rfl (Nat.le_of_ble_eq_true rfl) d_X4_set_61 ?_
          rintro _ μ13 ⟨rfl, hD14, hF15⟩
          have hR16 := MR.cg hR (μ' := μ13) (fun id hid => (hF15 _ (by omega)))
          have hX17 := MX.cg hX (μ' := μ13) (fun id hid => (hF15 _ (by omega)))
          have hF18 : ∀ id, id < 41 → μ13 id = μ id := fun id hid => (show μ13 id = μ id from (hF15 _ (by omega))).trans (hF id hid)
          refine x_iret rfl d_X4_set_64 ?_
          have e9 : F_set g (nI m) v = fin g 0 := by rw [F_set_r]; simp [x_b_f, x_b_t, c1, c11, nI_clamp (n := m) (by omega), setL]
          rw [e9]
          exact ⟨rfl, MS.fin hR16 hX17 hD14, hF18⟩
        · skip
          refine x_iconst (x := 1) d_X4_set_37 (by decide) ?_
          refine x_goto 42 d_X4_set_38 (by decide) ?_
          refine x_istore_n [(3, .int 1), (0, .ref (E.1 + 41)), (1, .int (nI m)), (2, .int v)] d_X4_set_42 rfl (Nat.le_of_ble_eq_true rfl) rfl ?_
          refine x_iload_n 0 d_X4_set_43 rfl rfl ?_
          refine x_if_eq 58 d_X4_set_44 (by decide) (fun c19 => ?_) (fun c19 => ?_)
          · exact absurd c19 (by decide)
          refine x_aload_n 1 d_X4_set_47 rfl rfl ?_
          refine x_iconst (x := 1) d_X4_set_48 (by decide) ?_
          refine x_iload_n 2 d_X4_set_49 rfl rfl ?_
          refine x_iadd d_X4_set_50 ?_
          rw [show (1 : Int32) + (nI m) = nI (1 + m) from nI_add 1 m]
          refine x_iload_n 3 d_X4_set_51 rfl rfl ?_
          refine x_cvi (k := 41) (as := [.int (nI (1 + m)), .int v]) (c_X4_becomes l E μ hR (j := (1 + m)) (by omega) v) v_X4_becomes w_X4_becomes q730 o_M rfl ⟨Nat.le_of_ble_eq_true rfl, Nat.le_of_ble_eq_true rfl⟩ rfl (Nat.le_of_ble_eq_true rfl) d_X4_set_52 ?_
          rintro _ μ20 ⟨rfl, eμ20⟩
          have hR21 : MR (upd (gA g) ((1 + m)) v) μ20 := MR.w hR eμ20
          have hX22 := MX.cg hX (μ' := μ20) (fun id hid => (by rw [eμ20, upd2_ne _ _ _ (by omega)]))
          have hD23 := MD.cg hD (μ' := μ20) (fun id hid => (by rw [eμ20, upd2_ne _ _ _ (by omega)]))
          have hF24 : ∀ id, id < 41 → μ20 id = μ id := fun id hid => (show μ20 id = μ id from (by rw [eμ20, upd2_ne _ _ _ (by omega)])).trans (hF id hid)
          refine x_goto 64 d_X4_set_55 (by decide) ?_
          refine x_iret rfl d_X4_set_64 ?_
          have e9 : F_set g (nI m) v = ((gA g) ((1 + m)), sA g (upd (gA g) ((1 + m)) v)) := by rw [F_set_r]; simp [x_b_f, x_b_t, c1, c11, nI_clamp (n := m) (by omega), setL]
          rw [e9]
          exact ⟨rfl, MS.line hR21 hX22 hD23, hF24⟩
      · skip
        refine x_iconst (x := 1) d_X4_set_25 (by decide) ?_
        refine x_goto 31 d_X4_set_26 (by decide) ?_
        have hsh : setHi (nI m) = 1 := by unfold setHi; rw [if_neg c9, if_pos c10]
        refine x_csip (as := [.int v, .int 0, .int 1]) (c_X4_in l E μ v 0 1) v_X4_in q728 q727 rfl ⟨Nat.le_of_ble_eq_true rfl, Nat.le_of_ble_eq_true rfl⟩ rfl (Nat.le_of_ble_eq_true rfl) d_X4_set_31 ?_
        rw [show inR v 0 1 = inR v 0 (setHi (nI m)) from by rw [hsh]]
        refine x_ifb_eq 41 d_X4_set_34 (by decide) (fun c25 => ?_) (fun c25 => ?_)
        · skip
          refine x_iconst (x := 0) d_X4_set_41 (by decide) ?_
          refine x_istore_n [(3, .int 0), (0, .ref (E.1 + 41)), (1, .int (nI m)), (2, .int v)] d_X4_set_42 rfl (Nat.le_of_ble_eq_true rfl) rfl ?_
          refine x_iload_n 0 d_X4_set_43 rfl rfl ?_
          refine x_if_eq 58 d_X4_set_44 (by decide) (fun c26 => ?_) (fun c26 => ?_)
          rotate_left
          · exact absurd c26 (by decide)
          refine x_aload_n 1 d_X4_set_58 rfl rfl ?_
          refine x_ldc q734 d_X4_set_59 ?_
          refine x_cvi (k := 41) (as := [.int (-1000001)]) (c_X4_finds l E μ (i := 0) hD (by decide) (w := (-1000001)) (by decide)) v_X4_finds w_X4_finds q735 o_M rfl ⟨Nat.le_of_ble_eq_true rfl, Nat.le_of_ble_eq_true rfl⟩ rfl (Nat.le_of_ble_eq_true rfl) d_X4_set_61 ?_
          rintro _ μ27 ⟨rfl, hD28, hF29⟩
          have hR30 := MR.cg hR (μ' := μ27) (fun id hid => (hF29 _ (by omega)))
          have hX31 := MX.cg hX (μ' := μ27) (fun id hid => (hF29 _ (by omega)))
          have hF32 : ∀ id, id < 41 → μ27 id = μ id := fun id hid => (show μ27 id = μ id from (hF29 _ (by omega))).trans (hF id hid)
          refine x_iret rfl d_X4_set_64 ?_
          have e9 : F_set g (nI m) v = fin g 0 := by rw [F_set_r]; simp [x_b_f, x_b_t, c1, c25, nI_clamp (n := m) (by omega), setL]
          rw [e9]
          exact ⟨rfl, MS.fin hR30 hX31 hD28, hF32⟩
        · skip
          refine x_iconst (x := 1) d_X4_set_37 (by decide) ?_
          refine x_goto 42 d_X4_set_38 (by decide) ?_
          refine x_istore_n [(3, .int 1), (0, .ref (E.1 + 41)), (1, .int (nI m)), (2, .int v)] d_X4_set_42 rfl (Nat.le_of_ble_eq_true rfl) rfl ?_
          refine x_iload_n 0 d_X4_set_43 rfl rfl ?_
          refine x_if_eq 58 d_X4_set_44 (by decide) (fun c33 => ?_) (fun c33 => ?_)
          · exact absurd c33 (by decide)
          refine x_aload_n 1 d_X4_set_47 rfl rfl ?_
          refine x_iconst (x := 1) d_X4_set_48 (by decide) ?_
          refine x_iload_n 2 d_X4_set_49 rfl rfl ?_
          refine x_iadd d_X4_set_50 ?_
          rw [show (1 : Int32) + (nI m) = nI (1 + m) from nI_add 1 m]
          refine x_iload_n 3 d_X4_set_51 rfl rfl ?_
          refine x_cvi (k := 41) (as := [.int (nI (1 + m)), .int v]) (c_X4_becomes l E μ hR (j := (1 + m)) (by omega) v) v_X4_becomes w_X4_becomes q730 o_M rfl ⟨Nat.le_of_ble_eq_true rfl, Nat.le_of_ble_eq_true rfl⟩ rfl (Nat.le_of_ble_eq_true rfl) d_X4_set_52 ?_
          rintro _ μ34 ⟨rfl, eμ34⟩
          have hR35 : MR (upd (gA g) ((1 + m)) v) μ34 := MR.w hR eμ34
          have hX36 := MX.cg hX (μ' := μ34) (fun id hid => (by rw [eμ34, upd2_ne _ _ _ (by omega)]))
          have hD37 := MD.cg hD (μ' := μ34) (fun id hid => (by rw [eμ34, upd2_ne _ _ _ (by omega)]))
          have hF38 : ∀ id, id < 41 → μ34 id = μ id := fun id hid => (show μ34 id = μ id from (by rw [eμ34, upd2_ne _ _ _ (by omega)])).trans (hF id hid)
          refine x_goto 64 d_X4_set_55 (by decide) ?_
          refine x_iret rfl d_X4_set_64 ?_
          have e9 : F_set g (nI m) v = ((gA g) ((1 + m)), sA g (upd (gA g) ((1 + m)) v)) := by rw [F_set_r]; simp [x_b_f, x_b_t, c1, c25, nI_clamp (n := m) (by omega), setL]
          rw [e9]
          exact ⟨rfl, MS.line hR35 hX36 hD37, hF38⟩
    · skip
      refine x_bipush (x := 16) d_X4_set_15 (by decide) ?_
      refine x_goto 31 d_X4_set_17 (by decide) ?_
      have hsh : setHi (nI m) = 16 := by unfold setHi; rw [if_pos c9]
      refine x_csip (as := [.int v, .int 0, .int 16]) (c_X4_in l E μ v 0 16) v_X4_in q728 q727 rfl ⟨Nat.le_of_ble_eq_true rfl, Nat.le_of_ble_eq_true rfl⟩ rfl (Nat.le_of_ble_eq_true rfl) d_X4_set_31 ?_
      rw [show inR v 0 16 = inR v 0 (setHi (nI m)) from by rw [hsh]]
      refine x_ifb_eq 41 d_X4_set_34 (by decide) (fun c39 => ?_) (fun c39 => ?_)
      · skip
        refine x_iconst (x := 0) d_X4_set_41 (by decide) ?_
        refine x_istore_n [(3, .int 0), (0, .ref (E.1 + 41)), (1, .int (nI m)), (2, .int v)] d_X4_set_42 rfl (Nat.le_of_ble_eq_true rfl) rfl ?_
        refine x_iload_n 0 d_X4_set_43 rfl rfl ?_
        refine x_if_eq 58 d_X4_set_44 (by decide) (fun c40 => ?_) (fun c40 => ?_)
        rotate_left
        · exact absurd c40 (by decide)
        refine x_aload_n 1 d_X4_set_58 rfl rfl ?_
        refine x_ldc q734 d_X4_set_59 ?_
        refine x_cvi (k := 41) (as := [.int (-1000001)]) (c_X4_finds l E μ (i := 0) hD (by decide) (w := (-1000001)) (by decide)) v_X4_finds w_X4_finds q735 o_M rfl ⟨Nat.le_of_ble_eq_true rfl, Nat.le_of_ble_eq_true rfl⟩ rfl (Nat.le_of_ble_eq_true rfl) d_X4_set_61 ?_
        rintro _ μ41 ⟨rfl, hD42, hF43⟩
        have hR44 := MR.cg hR (μ' := μ41) (fun id hid => (hF43 _ (by omega)))
        have hX45 := MX.cg hX (μ' := μ41) (fun id hid => (hF43 _ (by omega)))
        have hF46 : ∀ id, id < 41 → μ41 id = μ id := fun id hid => (show μ41 id = μ id from (hF43 _ (by omega))).trans (hF id hid)
        refine x_iret rfl d_X4_set_64 ?_
        have e9 : F_set g (nI m) v = fin g 0 := by rw [F_set_r]; simp [x_b_f, x_b_t, c1, c39, nI_clamp (n := m) (by omega), setL]
        rw [e9]
        exact ⟨rfl, MS.fin hR44 hX45 hD42, hF46⟩
      · skip
        refine x_iconst (x := 1) d_X4_set_37 (by decide) ?_
        refine x_goto 42 d_X4_set_38 (by decide) ?_
        refine x_istore_n [(3, .int 1), (0, .ref (E.1 + 41)), (1, .int (nI m)), (2, .int v)] d_X4_set_42 rfl (Nat.le_of_ble_eq_true rfl) rfl ?_
        refine x_iload_n 0 d_X4_set_43 rfl rfl ?_
        refine x_if_eq 58 d_X4_set_44 (by decide) (fun c47 => ?_) (fun c47 => ?_)
        · exact absurd c47 (by decide)
        refine x_aload_n 1 d_X4_set_47 rfl rfl ?_
        refine x_iconst (x := 1) d_X4_set_48 (by decide) ?_
        refine x_iload_n 2 d_X4_set_49 rfl rfl ?_
        refine x_iadd d_X4_set_50 ?_
        rw [show (1 : Int32) + (nI m) = nI (1 + m) from nI_add 1 m]
        refine x_iload_n 3 d_X4_set_51 rfl rfl ?_
        refine x_cvi (k := 41) (as := [.int (nI (1 + m)), .int v]) (c_X4_becomes l E μ hR (j := (1 + m)) (by omega) v) v_X4_becomes w_X4_becomes q730 o_M rfl ⟨Nat.le_of_ble_eq_true rfl, Nat.le_of_ble_eq_true rfl⟩ rfl (Nat.le_of_ble_eq_true rfl) d_X4_set_52 ?_
        rintro _ μ48 ⟨rfl, eμ48⟩
        have hR49 : MR (upd (gA g) ((1 + m)) v) μ48 := MR.w hR eμ48
        have hX50 := MX.cg hX (μ' := μ48) (fun id hid => (by rw [eμ48, upd2_ne _ _ _ (by omega)]))
        have hD51 := MD.cg hD (μ' := μ48) (fun id hid => (by rw [eμ48, upd2_ne _ _ _ (by omega)]))
        have hF52 : ∀ id, id < 41 → μ48 id = μ id := fun id hid => (show μ48 id = μ id from (by rw [eμ48, upd2_ne _ _ _ (by omega)])).trans (hF id hid)
        refine x_goto 64 d_X4_set_55 (by decide) ?_
        refine x_iret rfl d_X4_set_64 ?_
        have e9 : F_set g (nI m) v = ((gA g) ((1 + m)), sA g (upd (gA g) ((1 + m)) v)) := by rw [F_set_r]; simp [x_b_f, x_b_t, c1, c39, nI_clamp (n := m) (by omega), setL]
        rw [e9]
        exact ⟨rfl, MS.line hR49 hX50 hD51, hF52⟩
def m_X4_getsWith : x_M := (yX4_getsWith, prog_6_method_52_code, 4, (some FieldType.int), 10, 223)
theorem v_X4_getsWith : x_VM m_X4_getsWith 2 := ⟨q917, q6, by decide +kernel, by decide +kernel, by decide +kernel⟩
theorem w_X4_getsWith : x_VI m_X4_getsWith := ⟨q916, qs44⟩
theorem d_X4_getsWith_0 : x_dec m_X4_getsWith 0 (.iconst 0) 1 1 := ⟨by decide +kernel, rfl⟩
theorem d_X4_getsWith_1 : x_dec m_X4_getsWith 1 (.istore_n 3) 1 2 := ⟨by decide +kernel, rfl⟩
theorem d_X4_getsWith_2 : x_dec m_X4_getsWith 2 (.iload_n 3) 1 3 := ⟨by decide +kernel, rfl⟩
theorem d_X4_getsWith_3 : x_dec m_X4_getsWith 3 (.aload_n 0) 1 4 := ⟨by decide +kernel, rfl⟩
theorem d_X4_getsWith_4 : x_dec m_X4_getsWith 4 (.getfield 9) 3 7 := ⟨by decide +kernel, rfl⟩
theorem d_X4_getsWith_7 : x_dec m_X4_getsWith 7 (.bipush 7) 2 9 := ⟨by decide +kernel, rfl⟩
theorem d_X4_getsWith_9 : x_dec m_X4_getsWith 9 (.iaload) 1 10 := ⟨by decide +kernel, rfl⟩
theorem d_X4_getsWith_10 : x_dec m_X4_getsWith 10 (.if_icmp .ge 34) 3 13 := ⟨by decide +kernel, rfl⟩
theorem d_X4_getsWith_13 : x_dec m_X4_getsWith 13 (.aload_n 0) 1 14 := ⟨by decide +kernel, rfl⟩
theorem d_X4_getsWith_14 : x_dec m_X4_getsWith 14 (.iload_n 3) 1 15 := ⟨by decide +kernel, rfl⟩
theorem d_X4_getsWith_15 : x_dec m_X4_getsWith 15 (.iconst 1) 1 16 := ⟨by decide +kernel, rfl⟩
theorem d_X4_getsWith_16 : x_dec m_X4_getsWith 16 (.iload_n 1) 1 17 := ⟨by decide +kernel, rfl⟩
theorem d_X4_getsWith_17 : x_dec m_X4_getsWith 17 (.iload_n 3) 1 18 := ⟨by decide +kernel, rfl⟩
theorem d_X4_getsWith_18 : x_dec m_X4_getsWith 18 (.ishr) 1 19 := ⟨by decide +kernel, rfl⟩
theorem d_X4_getsWith_19 : x_dec m_X4_getsWith 19 (.iconst 1) 1 20 := ⟨by decide +kernel, rfl⟩
theorem d_X4_getsWith_20 : x_dec m_X4_getsWith 20 (.iand) 1 21 := ⟨by decide +kernel, rfl⟩
theorem d_X4_getsWith_21 : x_dec m_X4_getsWith 21 (.iconst 1) 1 22 := ⟨by decide +kernel, rfl⟩
theorem d_X4_getsWith_22 : x_dec m_X4_getsWith 22 (.if_icmp .ne 7) 3 25 := ⟨by decide +kernel, rfl⟩
theorem d_X4_getsWith_25 : x_dec m_X4_getsWith 25 (.iconst (-1)) 1 26 := ⟨by decide +kernel, rfl⟩
theorem d_X4_getsWith_26 : x_dec m_X4_getsWith 26 (.goto 9) 3 29 := ⟨by decide +kernel, rfl⟩
theorem d_X4_getsWith_29 : x_dec m_X4_getsWith 29 (.aload_n 0) 1 30 := ⟨by decide +kernel, rfl⟩
theorem d_X4_getsWith_30 : x_dec m_X4_getsWith 30 (.getfield 9) 3 33 := ⟨by decide +kernel, rfl⟩
theorem d_X4_getsWith_33 : x_dec m_X4_getsWith 33 (.iconst 1) 1 34 := ⟨by decide +kernel, rfl⟩
theorem d_X4_getsWith_34 : x_dec m_X4_getsWith 34 (.iaload) 1 35 := ⟨by decide +kernel, rfl⟩
theorem d_X4_getsWith_35 : x_dec m_X4_getsWith 35 (.invokevirtual 84) 3 38 := ⟨by decide +kernel, rfl⟩
theorem d_X4_getsWith_38 : x_dec m_X4_getsWith 38 (.iinc 3 1) 3 41 := ⟨by decide +kernel, rfl⟩
theorem d_X4_getsWith_41 : x_dec m_X4_getsWith 41 (.goto (-39)) 3 44 := ⟨by decide +kernel, rfl⟩
theorem d_X4_getsWith_44 : x_dec m_X4_getsWith 44 (.aload_n 0) 1 45 := ⟨by decide +kernel, rfl⟩
theorem d_X4_getsWith_45 : x_dec m_X4_getsWith 45 (.iload_n 2) 1 46 := ⟨by decide +kernel, rfl⟩
theorem d_X4_getsWith_46 : x_dec m_X4_getsWith 46 (.invokevirtual 137) 3 49 := ⟨by decide +kernel, rfl⟩
theorem d_X4_getsWith_49 : x_dec m_X4_getsWith 49 (.ireturn) 1 50 := ⟨by decide +kernel, rfl⟩
set_option maxHeartbeats 4000000 in
set_option maxRecDepth 100000 in
theorem c_X4_getsWith (l : Launch) (E : x_E) (μ : x_Mem) {a : x_St} (hR : MR a μ) (hI : WF a) {b : x_St} (hW : MW b μ) {j h : Nat} (hj : j < 65536) (hh : h < 1000) : x_Met l m_X4_getsWith E [.ref (E.1 + 41), .int (nI j), .int (nI h)] μ (x_I (fun z m => z = rideY a h j ∧ MR b m ∧ MW b m ∧ ∀ id, (id ≠ 42 ∧ id ≠ 46) → m id = μ id)) := by
  have hn7 := hI.2.1
  have hpn := hI.1
  have hF : ∀ id, (id ≠ 42 ∧ id ≠ 46) → μ id = μ id := fun _ _ => rfl
  refine x_enter (lv := [(0, .ref (E.1 + 41)), (1, .int (nI j)), (2, .int (nI h))]) (by decide +kernel) (Nat.le_of_ble_eq_true rfl) rfl ?_
  refine x_iconst (x := 0) d_X4_getsWith_0 (by decide) ?_
  refine x_istore_n [(3, .int 0), (0, .ref (E.1 + 41)), (1, .int (nI j)), (2, .int (nI h))] d_X4_getsWith_1 rfl (Nat.le_of_ble_eq_true rfl) rfl ?_
  have L1 : ∀ i : Nat, i ≤ pn a → ∀ μ4 : x_Mem, (MR (rideTo a j.testBit i) μ4) → (MW b μ4) → (∀ id, (id ≠ 42 ∧ id ≠ 46) → μ4 id = μ id) → x_G l E m_X4_getsWith (x_mv E m_X4_getsWith (x_I (fun z m => z = rideY a h j ∧ MR b m ∧ MW b m ∧ ∀ id, (id ≠ 42 ∧ id ≠ 46) → m id = μ id))) μ4 2 [(3, .int (nI i)), (0, .ref (E.1 + 41)), (1, .int (nI j)), (2, .int (nI h))] [] := by
    refine x_down _ (pn a) (fun i hi3 ih2 => ?_)
    intro μ4 hR1 hW1 hF1
    refine x_iload_n 0 d_X4_getsWith_2 rfl rfl ?_
    refine x_aload_n 1 d_X4_getsWith_3 rfl rfl ?_
    refine x_getr (j := 0) 42 x_c4 rfl (Nat.le_of_ble_eq_true rfl) q668 rfl d_X4_getsWith_4 ?_
    refine x_bipush (x := 7) d_X4_getsWith_7 (by decide) ?_
    refine x_ialdN (z := nI (pn a)) 58 7 rfl rfl (by omega) (by decide) ((hR1 7 (by decide)).trans ((rideTo_same a _ i 7 (by omega) (by omega)).trans hn7)) d_X4_getsWith_9 ?_
    refine x_icmp_ge 44 d_X4_getsWith_10 (by decide) (fun c5 => ?_) (fun c5 => ?_)
    · skip
      have hN := x_ge (N := pn a) c5 rfl rfl (by omega) (by omega)
      have e7 : i = pn a := by omega
      subst e7
      refine x_aload_n 1 d_X4_getsWith_44 rfl rfl ?_
      refine x_iload_n 3 d_X4_getsWith_45 rfl rfl ?_
      refine x_cvi (k := 41) (as := [.int (nI h)]) (c_X4_getsTo l E μ4 hR1 (hI.rideTo _ _ (by omega)) hW1 (h := h) (by omega)) v_X4_getsTo w_X4_getsTo q866 o_M rfl ⟨Nat.le_of_ble_eq_true rfl, Nat.le_of_ble_eq_true rfl⟩ rfl (Nat.le_of_ble_eq_true rfl) d_X4_getsWith_46 ?_
      rintro _ μ6 ⟨rfl, hR7, hW8, hF9⟩
      have hF10 : ∀ id, (id ≠ 42 ∧ id ≠ 46) → μ6 id = μ id := fun id hid => (show μ6 id = μ4 id from (hF9 _ (by omega))).trans (hF1 id hid)
      refine x_iret rfl d_X4_getsWith_49 ?_
      exact ⟨rfl, hR7, hW8, hF10⟩
    · skip
      have hN := x_lt (N := pn a) c5 rfl rfl (by omega) (by omega)
      refine x_aload_n 1 d_X4_getsWith_13 rfl rfl ?_
      refine x_iload_n 0 d_X4_getsWith_14 rfl rfl ?_
      refine x_iconst (x := 1) d_X4_getsWith_15 (by decide) ?_
      refine x_iload_n 2 d_X4_getsWith_16 rfl rfl ?_
      refine x_iload_n 0 d_X4_getsWith_17 rfl rfl ?_
      refine x_ishr d_X4_getsWith_18 ?_
      refine x_iconst (x := 1) d_X4_getsWith_19 (by decide) ?_
      refine x_iand d_X4_getsWith_20 ?_
      refine x_iconst (x := 1) d_X4_getsWith_21 (by decide) ?_
      refine x_icmp_ne 29 d_X4_getsWith_22 (by decide) (fun c11 => ?_) (fun c11 => ?_)
      · skip
        refine x_aload_n 1 d_X4_getsWith_29 rfl rfl ?_
        refine x_getr (j := 0) 42 x_c4 rfl (Nat.le_of_ble_eq_true rfl) q668 rfl d_X4_getsWith_30 ?_
        refine x_iconst (x := 1) d_X4_getsWith_33 (by decide) ?_
        refine x_ialdN (z := a 1) 58 1 rfl rfl (by omega) (by decide) ((hR1 1 (by decide)).trans (rideTo_same a _ i 1 (by omega) (by omega))) d_X4_getsWith_34 ?_
        refine x_cvv (k := 41) (as := [.int (nI i), .int 1, .int (a 1)]) (c_X4_put l E μ4 (p := i) (w := 1) (j := 24 + 3 * i + 1) rfl (by omega) (a 1)) v_X4_put w_X4_put q783 o_M rfl ⟨Nat.le_of_ble_eq_true rfl, Nat.le_of_ble_eq_true rfl⟩ rfl (Nat.le_of_ble_eq_true rfl) d_X4_getsWith_35 ?_
        intro μ12 eμ12
        have hR13 : MR (upd (rideTo a j.testBit i) (24 + 3 * i + 1) (a 1)) μ12 := MR.w hR1 eμ12
        have hW14 := MW.cg hW1 (μ' := μ12) (fun id hid => (by rw [eμ12, upd2_ne _ _ _ (by omega)]))
        have hF15 : ∀ id, (id ≠ 42 ∧ id ≠ 46) → μ12 id = μ id := fun id hid => (show μ12 id = μ4 id from (by rw [eμ12, upd2_ne _ _ _ (by omega)])).trans (hF1 id hid)
        refine x_iinc [(3, .int (nI (i + 1))), (0, .ref (E.1 + 41)), (1, .int (nI j)), (2, .int (nI h))] 0 d_X4_getsWith_38 rfl (x_inc _) (Nat.le_of_ble_eq_true rfl) rfl ?_
        refine x_goto 2 d_X4_getsWith_41 (by decide) ?_
        exact ih2 (i + 1) (by omega) (by omega) μ12 (by rw [rideTo_f (fun z => c11 ((hasS hj (by omega)).mpr z))]; exact hR13) hW14 hF15
      · skip
        refine x_iconst (x := (-1)) d_X4_getsWith_25 (by decide) ?_
        refine x_goto 35 d_X4_getsWith_26 (by decide) ?_
        refine x_cvv (k := 41) (as := [.int (nI i), .int 1, .int (-1)]) (c_X4_put l E μ4 (p := i) (w := 1) (j := 24 + 3 * i + 1) rfl (by omega) (-1)) v_X4_put w_X4_put q783 o_M rfl ⟨Nat.le_of_ble_eq_true rfl, Nat.le_of_ble_eq_true rfl⟩ rfl (Nat.le_of_ble_eq_true rfl) d_X4_getsWith_35 ?_
        intro μ16 eμ16
        have hR17 : MR (upd (rideTo a j.testBit i) (24 + 3 * i + 1) (-1)) μ16 := MR.w hR1 eμ16
        have hW18 := MW.cg hW1 (μ' := μ16) (fun id hid => (by rw [eμ16, upd2_ne _ _ _ (by omega)]))
        have hF19 : ∀ id, (id ≠ 42 ∧ id ≠ 46) → μ16 id = μ id := fun id hid => (show μ16 id = μ4 id from (by rw [eμ16, upd2_ne _ _ _ (by omega)])).trans (hF1 id hid)
        refine x_iinc [(3, .int (nI (i + 1))), (0, .ref (E.1 + 41)), (1, .int (nI j)), (2, .int (nI h))] 0 d_X4_getsWith_38 rfl (x_inc _) (Nat.le_of_ble_eq_true rfl) rfl ?_
        refine x_goto 2 d_X4_getsWith_41 (by decide) ?_
        exact ih2 (i + 1) (by omega) (by omega) μ16 (by rw [rideTo_t ((hasS hj (by omega)).mp c11)]; exact hR17) hW18 hF19
  exact L1 0 (by omega) μ hR hW hF
def m_X4_with : x_M := (yX4_with, prog_6_method_53_code, 3, (some FieldType.int), 11, 246)
theorem v_X4_with : x_VM m_X4_with 2 := ⟨q913, q6, by decide +kernel, by decide +kernel, by decide +kernel⟩
theorem w_X4_with : x_VI m_X4_with := ⟨q911, q912⟩
theorem d_X4_with_0 : x_dec m_X4_with 0 (.iload_n 1) 1 1 := ⟨by decide +kernel, rfl⟩
theorem d_X4_with_1 : x_dec m_X4_with 1 (.iconst 0) 1 2 := ⟨by decide +kernel, rfl⟩
theorem d_X4_with_2 : x_dec m_X4_with 2 (.iconst 1) 1 3 := ⟨by decide +kernel, rfl⟩
theorem d_X4_with_3 : x_dec m_X4_with 3 (.aload_n 0) 1 4 := ⟨by decide +kernel, rfl⟩
theorem d_X4_with_4 : x_dec m_X4_with 4 (.getfield 9) 3 7 := ⟨by decide +kernel, rfl⟩
theorem d_X4_with_7 : x_dec m_X4_with 7 (.bipush 7) 2 9 := ⟨by decide +kernel, rfl⟩
theorem d_X4_with_9 : x_dec m_X4_with 9 (.iaload) 1 10 := ⟨by decide +kernel, rfl⟩
theorem d_X4_with_10 : x_dec m_X4_with 10 (.ishl) 1 11 := ⟨by decide +kernel, rfl⟩
theorem d_X4_with_11 : x_dec m_X4_with 11 (.iconst 1) 1 12 := ⟨by decide +kernel, rfl⟩
theorem d_X4_with_12 : x_dec m_X4_with 12 (.isub) 1 13 := ⟨by decide +kernel, rfl⟩
theorem d_X4_with_13 : x_dec m_X4_with 13 (.invokestatic 46) 3 16 := ⟨by decide +kernel, rfl⟩
theorem d_X4_with_16 : x_dec m_X4_with 16 (.ifCond .eq 13) 3 19 := ⟨by decide +kernel, rfl⟩
theorem d_X4_with_19 : x_dec m_X4_with 19 (.iload_n 2) 1 20 := ⟨by decide +kernel, rfl⟩
theorem d_X4_with_20 : x_dec m_X4_with 20 (.iconst 0) 1 21 := ⟨by decide +kernel, rfl⟩
theorem d_X4_with_21 : x_dec m_X4_with 21 (.bipush 60) 2 23 := ⟨by decide +kernel, rfl⟩
theorem d_X4_with_23 : x_dec m_X4_with 23 (.invokestatic 46) 3 26 := ⟨by decide +kernel, rfl⟩
theorem d_X4_with_26 : x_dec m_X4_with 26 (.ifCond .ne 10) 3 29 := ⟨by decide +kernel, rfl⟩
theorem d_X4_with_29 : x_dec m_X4_with 29 (.aload_n 0) 1 30 := ⟨by decide +kernel, rfl⟩
theorem d_X4_with_30 : x_dec m_X4_with 30 (.ldc 40) 2 32 := ⟨by decide +kernel, rfl⟩
theorem d_X4_with_32 : x_dec m_X4_with 32 (.invokevirtual 42) 3 35 := ⟨by decide +kernel, rfl⟩
theorem d_X4_with_35 : x_dec m_X4_with 35 (.ireturn) 1 36 := ⟨by decide +kernel, rfl⟩
theorem d_X4_with_36 : x_dec m_X4_with 36 (.aload_n 0) 1 37 := ⟨by decide +kernel, rfl⟩
theorem d_X4_with_37 : x_dec m_X4_with 37 (.invokevirtual 134) 3 40 := ⟨by decide +kernel, rfl⟩
theorem d_X4_with_40 : x_dec m_X4_with 40 (.aload_n 0) 1 41 := ⟨by decide +kernel, rfl⟩
theorem d_X4_with_41 : x_dec m_X4_with 41 (.iload_n 1) 1 42 := ⟨by decide +kernel, rfl⟩
theorem d_X4_with_42 : x_dec m_X4_with 42 (.iload_n 2) 1 43 := ⟨by decide +kernel, rfl⟩
theorem d_X4_with_43 : x_dec m_X4_with 43 (.invokevirtual 149) 3 46 := ⟨by decide +kernel, rfl⟩
theorem d_X4_with_46 : x_dec m_X4_with 46 (.ireturn) 1 47 := ⟨by decide +kernel, rfl⟩
set_option maxHeartbeats 4000000 in
set_option maxRecDepth 100000 in
theorem c_X4_with (l : Launch) (E : x_E) (μ : x_Mem) (g : x_SG) (hS : MS g μ) (hI : Inv g) (s n : Int32) : x_Met l m_X4_with E [.ref (E.1 + 41), .int s, .int n] μ (x_I (fun z m => z = (F_with g s n).1 ∧ MS (F_with g s n).2 m ∧ ∀ id, id < 41 → m id = μ id)) := by
  obtain ⟨hR, hX, hD⟩ := hS
  have hWF := hI.1.1
  have hn7 := hWF.2.1
  have hpn := hWF.1
  have hF : ∀ id, id < 41 → μ id = μ id := fun _ _ => rfl
  have h2p := pow8 hpn
  have h2q := Nat.one_le_two_pow (n := pn (gA g))
  refine x_enter (lv := [(0, .ref (E.1 + 41)), (1, .int s), (2, .int n)]) (by decide +kernel) (Nat.le_of_ble_eq_true rfl) rfl ?_
  refine x_iload_n 1 d_X4_with_0 rfl rfl ?_
  refine x_iconst (x := 0) d_X4_with_1 (by decide) ?_
  refine x_iconst (x := 1) d_X4_with_2 (by decide) ?_
  refine x_aload_n 0 d_X4_with_3 rfl rfl ?_
  refine x_getr (j := 0) 42 x_c4 rfl (Nat.le_of_ble_eq_true rfl) q668 rfl d_X4_with_4 ?_
  refine x_bipush (x := 7) d_X4_with_7 (by decide) ?_
  refine x_ialdN (z := nI (pn (gA g))) 58 7 rfl rfl (by omega) (by decide) ((hR 7 (by decide)).trans hn7) d_X4_with_9 ?_
  refine x_ishl d_X4_with_10 ?_
  rw [shl1 (by omega)]
  refine x_iconst (x := 1) d_X4_with_11 (by decide) ?_
  refine x_isub d_X4_with_12 ?_
  refine x_csip (as := [.int s, .int 0, .int ((nI (2 ^ pn (gA g))) - 1)]) (c_X4_in l E μ s 0 ((nI (2 ^ pn (gA g))) - 1)) v_X4_in q728 q727 rfl ⟨Nat.le_of_ble_eq_true rfl, Nat.le_of_ble_eq_true rfl⟩ rfl (Nat.le_of_ble_eq_true rfl) d_X4_with_13 ?_
  rw [isSet_in hpn]
  refine x_ifb_eq 29 d_X4_with_16 (by decide) (fun c1 => ?_) (fun c1 => ?_)
  · skip
    refine x_aload_n 0 d_X4_with_29 rfl rfl ?_
    refine x_ldc q734 d_X4_with_30 ?_
    refine x_cvi (k := 41) (as := [.int (-1000001)]) (c_X4_finds l E μ (i := 0) hD (by decide) (w := (-1000001)) (by decide)) v_X4_finds w_X4_finds q735 o_M rfl ⟨Nat.le_of_ble_eq_true rfl, Nat.le_of_ble_eq_true rfl⟩ rfl (Nat.le_of_ble_eq_true rfl) d_X4_with_32 ?_
    rintro _ μ2 ⟨rfl, hD3, hF4⟩
    have hR5 := MR.cg hR (μ' := μ2) (fun id hid => (hF4 _ (by omega)))
    have hX6 := MX.cg hX (μ' := μ2) (fun id hid => (hF4 _ (by omega)))
    have hF7 : ∀ id, id < 41 → μ2 id = μ id := fun id hid => (show μ2 id = μ id from (hF4 _ (by omega))).trans (hF id hid)
    refine x_iret rfl d_X4_with_35 ?_
    have e9 : F_with g s n = fin g 0 := by simp [F_with, x_b_f, x_b_t, c1]
    rw [e9]
    exact ⟨rfl, MS.fin hR5 hX6 hD3, hF7⟩
  · skip
    obtain ⟨j, hj, rfl⟩ := isSet_n hpn c1
    refine x_iload_n 2 d_X4_with_19 rfl rfl ?_
    refine x_iconst (x := 0) d_X4_with_20 (by decide) ?_
    refine x_bipush (x := 60) d_X4_with_21 (by decide) ?_
    refine x_csip (as := [.int n, .int 0, .int 60]) (c_X4_in l E μ n 0 60) v_X4_in q728 q727 rfl ⟨Nat.le_of_ble_eq_true rfl, Nat.le_of_ble_eq_true rfl⟩ rfl (Nat.le_of_ble_eq_true rfl) d_X4_with_23 ?_
    refine x_ifb_ne 36 d_X4_with_26 (by decide) (fun c8 => ?_) (fun c8 => ?_)
    · skip
      obtain ⟨h, hh, rfl⟩ := inR_nat (n := 60) (by decide) c8
      refine x_aload_n 0 d_X4_with_36 rfl rfl ?_
      refine x_cvv (k := 41) (as := []) (c_X4_thinks l E μ hR) v_X4_thinks w_X4_thinks q859 o_M rfl ⟨Nat.le_of_ble_eq_true rfl, Nat.le_of_ble_eq_true rfl⟩ rfl (Nat.le_of_ble_eq_true rfl) d_X4_with_37 ?_
      rintro μ9 ⟨hW10, hF11⟩
      have hR12 := MR.cg hR (μ' := μ9) (fun id hid => (hF11 _ (by omega)))
      have hX13 := MX.cg hX (μ' := μ9) (fun id hid => (hF11 _ (by omega)))
      have hD14 := MD.cg hD (μ' := μ9) (fun id hid => (hF11 _ (by omega)))
      have hF15 : ∀ id, id < 41 → μ9 id = μ id := fun id hid => (show μ9 id = μ id from (hF11 _ (by omega))).trans (hF id hid)
      refine x_aload_n 0 d_X4_with_40 rfl rfl ?_
      refine x_iload_n 1 d_X4_with_41 rfl rfl ?_
      refine x_iload_n 2 d_X4_with_42 rfl rfl ?_
      refine x_cvi (k := 41) (as := [.int (nI j), .int (nI h)]) (c_X4_getsWith l E μ9 hR12 hWF hW10 (j := j) (h := h) (by omega) (by omega)) v_X4_getsWith w_X4_getsWith q914 o_M rfl ⟨Nat.le_of_ble_eq_true rfl, Nat.le_of_ble_eq_true rfl⟩ rfl (Nat.le_of_ble_eq_true rfl) d_X4_with_43 ?_
      rintro _ μ16 ⟨rfl, hR17, hW18, hF19⟩
      have hX20 := MX.cg hX13 (μ' := μ16) (fun id hid => (hF19 _ (by omega)))
      have hD21 := MD.cg hD14 (μ' := μ16) (fun id hid => (hF19 _ (by omega)))
      have hF22 : ∀ id, id < 41 → μ16 id = μ id := fun id hid => (show μ16 id = μ9 id from (hF19 _ (by omega))).trans (hF15 id hid)
      refine x_iret rfl d_X4_with_46 ?_
      have e9 : F_with g (nI j) (nI h) = (rideY (gA g) h j, g) := by simp [F_with, x_b_f, x_b_t, c1, c8, nI_clamp (n := j) (by omega), nI_clamp (n := h) (by omega)]
      rw [e9]
      exact ⟨rfl, ⟨hR17, hX20, hD21⟩, hF22⟩
    · skip
      refine x_aload_n 0 d_X4_with_29 rfl rfl ?_
      refine x_ldc q734 d_X4_with_30 ?_
      refine x_cvi (k := 41) (as := [.int (-1000001)]) (c_X4_finds l E μ (i := 0) hD (by decide) (w := (-1000001)) (by decide)) v_X4_finds w_X4_finds q735 o_M rfl ⟨Nat.le_of_ble_eq_true rfl, Nat.le_of_ble_eq_true rfl⟩ rfl (Nat.le_of_ble_eq_true rfl) d_X4_with_32 ?_
      rintro _ μ23 ⟨rfl, hD24, hF25⟩
      have hR26 := MR.cg hR (μ' := μ23) (fun id hid => (hF25 _ (by omega)))
      have hX27 := MX.cg hX (μ' := μ23) (fun id hid => (hF25 _ (by omega)))
      have hF28 : ∀ id, id < 41 → μ23 id = μ id := fun id hid => (show μ23 id = μ id from (hF25 _ (by omega))).trans (hF id hid)
      refine x_iret rfl d_X4_with_35 ?_
      have e9 : F_with g (nI j) n = fin g 0 := by simp [F_with, x_b_f, x_b_t, c1, c8, nI_clamp (n := j) (by omega)]
      rw [e9]
      exact ⟨rfl, MS.fin hR26 hX27 hD24, hF28⟩
def m_X4_farthest : x_M := (yX4_farthest, prog_6_method_55_code, 6, (some FieldType.int), 11, 246)
theorem v_X4_farthest : x_VM m_X4_farthest 1 := ⟨q932, q6, by decide +kernel, by decide +kernel, by decide +kernel⟩
theorem w_X4_farthest : x_VI m_X4_farthest := ⟨q930, q931⟩
theorem d_X4_farthest_0 : x_dec m_X4_farthest 0 (.iload_n 1) 1 1 := ⟨by decide +kernel, rfl⟩
theorem d_X4_farthest_1 : x_dec m_X4_farthest 1 (.iconst 0) 1 2 := ⟨by decide +kernel, rfl⟩
theorem d_X4_farthest_2 : x_dec m_X4_farthest 2 (.bipush 60) 2 4 := ⟨by decide +kernel, rfl⟩
theorem d_X4_farthest_4 : x_dec m_X4_farthest 4 (.invokestatic 46) 3 7 := ⟨by decide +kernel, rfl⟩
theorem d_X4_farthest_7 : x_dec m_X4_farthest 7 (.ifCond .ne 10) 3 10 := ⟨by decide +kernel, rfl⟩
theorem d_X4_farthest_10 : x_dec m_X4_farthest 10 (.aload_n 0) 1 11 := ⟨by decide +kernel, rfl⟩
theorem d_X4_farthest_11 : x_dec m_X4_farthest 11 (.ldc 40) 2 13 := ⟨by decide +kernel, rfl⟩
theorem d_X4_farthest_13 : x_dec m_X4_farthest 13 (.invokevirtual 42) 3 16 := ⟨by decide +kernel, rfl⟩
theorem d_X4_farthest_16 : x_dec m_X4_farthest 16 (.ireturn) 1 17 := ⟨by decide +kernel, rfl⟩
theorem d_X4_farthest_17 : x_dec m_X4_farthest 17 (.aload_n 0) 1 18 := ⟨by decide +kernel, rfl⟩
theorem d_X4_farthest_18 : x_dec m_X4_farthest 18 (.invokevirtual 134) 3 21 := ⟨by decide +kernel, rfl⟩
theorem d_X4_farthest_21 : x_dec m_X4_farthest 21 (.iconst 0) 1 22 := ⟨by decide +kernel, rfl⟩
theorem d_X4_farthest_22 : x_dec m_X4_farthest 22 (.istore_n 2) 1 23 := ⟨by decide +kernel, rfl⟩
theorem d_X4_farthest_23 : x_dec m_X4_farthest 23 (.iconst (-1)) 1 24 := ⟨by decide +kernel, rfl⟩
theorem d_X4_farthest_24 : x_dec m_X4_farthest 24 (.istore_n 3) 1 25 := ⟨by decide +kernel, rfl⟩
theorem d_X4_farthest_25 : x_dec m_X4_farthest 25 (.iconst 0) 1 26 := ⟨by decide +kernel, rfl⟩
theorem d_X4_farthest_26 : x_dec m_X4_farthest 26 (.istore 4) 2 28 := ⟨by decide +kernel, rfl⟩
theorem d_X4_farthest_28 : x_dec m_X4_farthest 28 (.iload 4) 2 30 := ⟨by decide +kernel, rfl⟩
theorem d_X4_farthest_30 : x_dec m_X4_farthest 30 (.iconst 1) 1 31 := ⟨by decide +kernel, rfl⟩
theorem d_X4_farthest_31 : x_dec m_X4_farthest 31 (.aload_n 0) 1 32 := ⟨by decide +kernel, rfl⟩
theorem d_X4_farthest_32 : x_dec m_X4_farthest 32 (.getfield 9) 3 35 := ⟨by decide +kernel, rfl⟩
theorem d_X4_farthest_35 : x_dec m_X4_farthest 35 (.bipush 7) 2 37 := ⟨by decide +kernel, rfl⟩
theorem d_X4_farthest_37 : x_dec m_X4_farthest 37 (.iaload) 1 38 := ⟨by decide +kernel, rfl⟩
theorem d_X4_farthest_38 : x_dec m_X4_farthest 38 (.ishl) 1 39 := ⟨by decide +kernel, rfl⟩
theorem d_X4_farthest_39 : x_dec m_X4_farthest 39 (.if_icmp .ge 44) 3 42 := ⟨by decide +kernel, rfl⟩
theorem d_X4_farthest_42 : x_dec m_X4_farthest 42 (.aload_n 0) 1 43 := ⟨by decide +kernel, rfl⟩
theorem d_X4_farthest_43 : x_dec m_X4_farthest 43 (.iload 4) 2 45 := ⟨by decide +kernel, rfl⟩
theorem d_X4_farthest_45 : x_dec m_X4_farthest 45 (.iload_n 1) 1 46 := ⟨by decide +kernel, rfl⟩
theorem d_X4_farthest_46 : x_dec m_X4_farthest 46 (.invokevirtual 149) 3 49 := ⟨by decide +kernel, rfl⟩
theorem d_X4_farthest_49 : x_dec m_X4_farthest 49 (.istore 5) 2 51 := ⟨by decide +kernel, rfl⟩
theorem d_X4_farthest_51 : x_dec m_X4_farthest 51 (.iload 5) 2 53 := ⟨by decide +kernel, rfl⟩
theorem d_X4_farthest_53 : x_dec m_X4_farthest 53 (.iload_n 3) 1 54 := ⟨by decide +kernel, rfl⟩
theorem d_X4_farthest_54 : x_dec m_X4_farthest 54 (.if_icmp .le 8) 3 57 := ⟨by decide +kernel, rfl⟩
theorem d_X4_farthest_57 : x_dec m_X4_farthest 57 (.iload 4) 2 59 := ⟨by decide +kernel, rfl⟩
theorem d_X4_farthest_59 : x_dec m_X4_farthest 59 (.goto 4) 3 62 := ⟨by decide +kernel, rfl⟩
theorem d_X4_farthest_62 : x_dec m_X4_farthest 62 (.iload_n 2) 1 63 := ⟨by decide +kernel, rfl⟩
theorem d_X4_farthest_63 : x_dec m_X4_farthest 63 (.istore_n 2) 1 64 := ⟨by decide +kernel, rfl⟩
theorem d_X4_farthest_64 : x_dec m_X4_farthest 64 (.iload 5) 2 66 := ⟨by decide +kernel, rfl⟩
theorem d_X4_farthest_66 : x_dec m_X4_farthest 66 (.iload_n 3) 1 67 := ⟨by decide +kernel, rfl⟩
theorem d_X4_farthest_67 : x_dec m_X4_farthest 67 (.if_icmp .le 8) 3 70 := ⟨by decide +kernel, rfl⟩
theorem d_X4_farthest_70 : x_dec m_X4_farthest 70 (.iload 5) 2 72 := ⟨by decide +kernel, rfl⟩
theorem d_X4_farthest_72 : x_dec m_X4_farthest 72 (.goto 4) 3 75 := ⟨by decide +kernel, rfl⟩
theorem d_X4_farthest_75 : x_dec m_X4_farthest 75 (.iload_n 3) 1 76 := ⟨by decide +kernel, rfl⟩
theorem d_X4_farthest_76 : x_dec m_X4_farthest 76 (.istore_n 3) 1 77 := ⟨by decide +kernel, rfl⟩
theorem d_X4_farthest_77 : x_dec m_X4_farthest 77 (.iinc 4 1) 3 80 := ⟨by decide +kernel, rfl⟩
theorem d_X4_farthest_80 : x_dec m_X4_farthest 80 (.goto (-52)) 3 83 := ⟨by decide +kernel, rfl⟩
theorem d_X4_farthest_83 : x_dec m_X4_farthest 83 (.iload_n 2) 1 84 := ⟨by decide +kernel, rfl⟩
theorem d_X4_farthest_84 : x_dec m_X4_farthest 84 (.ireturn) 1 85 := ⟨by decide +kernel, rfl⟩
set_option maxHeartbeats 4000000 in
set_option maxRecDepth 100000 in
theorem c_X4_farthest (l : Launch) (E : x_E) (μ : x_Mem) (g : x_SG) (hS : MS g μ) (hI : Inv g) (n : Int32) : x_Met l m_X4_farthest E [.ref (E.1 + 41), .int n] μ (x_I (fun z m => z = (F_farthest g n).1 ∧ MS (F_farthest g n).2 m ∧ ∀ id, id < 41 → m id = μ id)) := by
  obtain ⟨hR, hX, hD⟩ := hS
  have hWF := hI.1.1
  have hn7 := hWF.2.1
  have hpn := hWF.1
  have hF : ∀ id, id < 41 → μ id = μ id := fun _ _ => rfl
  have h2p := pow8 hpn
  have h2q := Nat.one_le_two_pow (n := pn (gA g))
  refine x_enter (lv := [(0, .ref (E.1 + 41)), (1, .int n)]) (by decide +kernel) (Nat.le_of_ble_eq_true rfl) rfl ?_
  refine x_iload_n 1 d_X4_farthest_0 rfl rfl ?_
  refine x_iconst (x := 0) d_X4_farthest_1 (by decide) ?_
  refine x_bipush (x := 60) d_X4_farthest_2 (by decide) ?_
  refine x_csip (as := [.int n, .int 0, .int 60]) (c_X4_in l E μ n 0 60) v_X4_in q728 q727 rfl ⟨Nat.le_of_ble_eq_true rfl, Nat.le_of_ble_eq_true rfl⟩ rfl (Nat.le_of_ble_eq_true rfl) d_X4_farthest_4 ?_
  refine x_ifb_ne 17 d_X4_farthest_7 (by decide) (fun c1 => ?_) (fun c1 => ?_)
  · skip
    obtain ⟨h, hh, rfl⟩ := inR_nat (n := 60) (by decide) c1
    refine x_aload_n 0 d_X4_farthest_17 rfl rfl ?_
    refine x_cvv (k := 41) (as := []) (c_X4_thinks l E μ hR) v_X4_thinks w_X4_thinks q859 o_M rfl ⟨Nat.le_of_ble_eq_true rfl, Nat.le_of_ble_eq_true rfl⟩ rfl (Nat.le_of_ble_eq_true rfl) d_X4_farthest_18 ?_
    rintro μ2 ⟨hW3, hF4⟩
    have hR5 := MR.cg hR (μ' := μ2) (fun id hid => (hF4 _ (by omega)))
    have hX6 := MX.cg hX (μ' := μ2) (fun id hid => (hF4 _ (by omega)))
    have hD7 := MD.cg hD (μ' := μ2) (fun id hid => (hF4 _ (by omega)))
    have hF8 : ∀ id, id < 41 → μ2 id = μ id := fun id hid => (show μ2 id = μ id from (hF4 _ (by omega))).trans (hF id hid)
    refine x_iconst (x := 0) d_X4_farthest_21 (by decide) ?_
    refine x_istore_n [(2, .int 0), (0, .ref (E.1 + 41)), (1, .int (nI h))] d_X4_farthest_22 rfl (Nat.le_of_ble_eq_true rfl) rfl ?_
    refine x_iconst (x := (-1)) d_X4_farthest_23 (by decide) ?_
    refine x_istore_n [(3, .int (-1)), (2, .int 0), (0, .ref (E.1 + 41)), (1, .int (nI h))] d_X4_farthest_24 rfl (Nat.le_of_ble_eq_true rfl) rfl ?_
    refine x_iconst (x := 0) d_X4_farthest_25 (by decide) ?_
    refine x_istore [(4, .int 0), (3, .int (-1)), (2, .int 0), (0, .ref (E.1 + 41)), (1, .int (nI h))] d_X4_farthest_26 (Nat.le_of_ble_eq_true rfl) rfl ?_
    have L9 : ∀ i : Nat, i ≤ 2 ^ pn (gA g) → ∀ b : Int32, ∀ m : Int32, ∀ μ12 : x_Mem, (b = (bestTo (rideY (gA g) h) i).1) → (m = (bestTo (rideY (gA g) h) i).2) → (MR (gA g) μ12) → (MW (gA g) μ12) → (MX g μ12) → (MD (gF g) μ12) → (∀ id, id < 41 → μ12 id = μ id) → x_G l E m_X4_farthest (x_mv E m_X4_farthest (x_I (fun z m => z = (F_farthest g (nI h)).1 ∧ MS (F_farthest g (nI h)).2 m ∧ ∀ id, id < 41 → m id = μ id))) μ12 28 [(4, .int (nI i)), (3, .int m), (2, .int b), (0, .ref (E.1 + 41)), (1, .int (nI h))] [] := by
      refine x_down _ (2 ^ pn (gA g)) (fun i hi11 ih10 => ?_)
      intro b m μ12 hb hm hR1 hW1 hX1 hD1 hF1
      refine x_iload 0 d_X4_farthest_28 rfl ?_
      refine x_iconst (x := 1) d_X4_farthest_30 (by decide) ?_
      refine x_aload_n 3 d_X4_farthest_31 rfl rfl ?_
      refine x_getr (j := 0) 42 x_c4 rfl (Nat.le_of_ble_eq_true rfl) q668 rfl d_X4_farthest_32 ?_
      refine x_bipush (x := 7) d_X4_farthest_35 (by decide) ?_
      refine x_ialdN (z := nI (pn (gA g))) 58 7 rfl rfl (by omega) (by decide) ((hR1 7 (by decide)).trans hn7) d_X4_farthest_37 ?_
      refine x_ishl d_X4_farthest_38 ?_
      rw [shl1 (by omega)]
      refine x_icmp_ge 83 d_X4_farthest_39 (by decide) (fun c13 => ?_) (fun c13 => ?_)
      · skip
        have hN := x_ge (N := 2 ^ pn (gA g)) c13 rfl rfl (by omega) (by omega)
        refine x_iload_n 2 d_X4_farthest_83 rfl rfl ?_
        refine x_iret rfl d_X4_farthest_84 ?_
        have e7 : i = 2 ^ pn (gA g) := by omega
        subst e7
        subst hb
        have e9 : F_farthest g (nI h) = ((bestTo (rideY (gA g) h) (2 ^ pn (gA g))).1, g) := by simp [F_farthest, x_b_f, x_b_t, c1, nI_clamp (n := h) (by omega)]
        rw [e9]
        exact ⟨rfl, ⟨hR1, hX1, hD1⟩, hF1⟩
      · skip
        have hN := x_lt (N := 2 ^ pn (gA g)) c13 rfl rfl (by omega) (by omega)
        refine x_aload_n 3 d_X4_farthest_42 rfl rfl ?_
        refine x_iload 0 d_X4_farthest_43 rfl ?_
        refine x_iload_n 4 d_X4_farthest_45 rfl rfl ?_
        refine x_cvi (k := 41) (as := [.int (nI i), .int (nI h)]) (c_X4_getsWith l E μ12 hR1 hWF hW1 (j := i) (h := h) (by omega) (by omega)) v_X4_getsWith w_X4_getsWith q914 o_M rfl ⟨Nat.le_of_ble_eq_true rfl, Nat.le_of_ble_eq_true rfl⟩ rfl (Nat.le_of_ble_eq_true rfl) d_X4_farthest_46 ?_
        rintro _ μ14 ⟨rfl, hR15, hW16, hF17⟩
        have hX18 := MX.cg hX1 (μ' := μ14) (fun id hid => (hF17 _ (by omega)))
        have hD19 := MD.cg hD1 (μ' := μ14) (fun id hid => (hF17 _ (by omega)))
        have hF20 : ∀ id, id < 41 → μ14 id = μ id := fun id hid => (show μ14 id = μ12 id from (hF17 _ (by omega))).trans (hF1 id hid)
        refine x_istore [(5, .int (rideY (gA g) h i)), (4, .int (nI i)), (3, .int m), (2, .int b), (0, .ref (E.1 + 41)), (1, .int (nI h))] d_X4_farthest_49 (Nat.le_of_ble_eq_true rfl) rfl ?_
        refine x_iload 0 d_X4_farthest_51 rfl ?_
        refine x_iload_n 2 d_X4_farthest_53 rfl rfl ?_
        refine x_icmp_le 62 d_X4_farthest_54 (by decide) (fun c21 => ?_) (fun c21 => ?_)
        · skip
          refine x_iload_n 3 d_X4_farthest_62 rfl rfl ?_
          refine x_istore_n [(2, .int b), (5, .int (rideY (gA g) h i)), (4, .int (nI i)), (3, .int m), (0, .ref (E.1 + 41)), (1, .int (nI h))] d_X4_farthest_63 rfl (Nat.le_of_ble_eq_true rfl) rfl ?_
          refine x_iload 1 d_X4_farthest_64 rfl ?_
          refine x_iload_n 3 d_X4_farthest_66 rfl rfl ?_
          refine x_icmp_le 75 d_X4_farthest_67 (by decide) (fun c22 => ?_) (fun c22 => ?_)
          · skip
            refine x_iload_n 3 d_X4_farthest_75 rfl rfl ?_
            refine x_istore_n [(3, .int m), (2, .int b), (5, .int (rideY (gA g) h i)), (4, .int (nI i)), (0, .ref (E.1 + 41)), (1, .int (nI h))] d_X4_farthest_76 rfl (Nat.le_of_ble_eq_true rfl) rfl ?_
            refine x_iinc [(4, .int (nI (i + 1))), (3, .int m), (2, .int b), (5, .int (rideY (gA g) h i)), (0, .ref (E.1 + 41)), (1, .int (nI h))] 3 d_X4_farthest_77 rfl (x_inc _) (Nat.le_of_ble_eq_true rfl) rfl ?_
            refine x_goto 28 d_X4_farthest_80 (by decide) ?_
            refine x_lv [0, 1, 2, 4, 5] rfl ?_
            exact ih10 (i + 1) (by omega) (by omega) b m μ14 (by rw [bestTo_f (f := (rideY (gA g) h)) (by rw [← hm]; exact c21)]; exact hb) (by rw [bestTo_f (f := (rideY (gA g) h)) (by rw [← hm]; exact c21)]; exact hm) hR15 hW16 hX18 hD19 hF20
          · skip
            refine x_iload 1 d_X4_farthest_70 rfl ?_
            refine x_goto 76 d_X4_farthest_72 (by decide) ?_
            refine x_istore_n [(3, .int (rideY (gA g) h i)), (2, .int b), (5, .int (rideY (gA g) h i)), (4, .int (nI i)), (0, .ref (E.1 + 41)), (1, .int (nI h))] d_X4_farthest_76 rfl (Nat.le_of_ble_eq_true rfl) rfl ?_
            refine x_iinc [(4, .int (nI (i + 1))), (3, .int (rideY (gA g) h i)), (2, .int b), (5, .int (rideY (gA g) h i)), (0, .ref (E.1 + 41)), (1, .int (nI h))] 3 d_X4_farthest_77 rfl (x_inc _) (Nat.le_of_ble_eq_true rfl) rfl ?_
            refine x_goto 28 d_X4_farthest_80 (by decide) ?_
            refine x_lv [0, 1, 2, 4, 5] rfl ?_
            exact ih10 (i + 1) (by omega) (by omega) b (rideY (gA g) h i) μ14 (absurd c21 c22) (absurd c21 c22) hR15 hW16 hX18 hD19 hF20
        · skip
          refine x_iload 1 d_X4_farthest_57 rfl ?_
          refine x_goto 63 d_X4_farthest_59 (by decide) ?_
          refine x_istore_n [(2, .int (nI i)), (5, .int (rideY (gA g) h i)), (4, .int (nI i)), (3, .int m), (0, .ref (E.1 + 41)), (1, .int (nI h))] d_X4_farthest_63 rfl (Nat.le_of_ble_eq_true rfl) rfl ?_
          refine x_iload 1 d_X4_farthest_64 rfl ?_
          refine x_iload_n 3 d_X4_farthest_66 rfl rfl ?_
          refine x_icmp_le 75 d_X4_farthest_67 (by decide) (fun c23 => ?_) (fun c23 => ?_)
          · skip
            refine x_iload_n 3 d_X4_farthest_75 rfl rfl ?_
            refine x_istore_n [(3, .int m), (2, .int (nI i)), (5, .int (rideY (gA g) h i)), (4, .int (nI i)), (0, .ref (E.1 + 41)), (1, .int (nI h))] d_X4_farthest_76 rfl (Nat.le_of_ble_eq_true rfl) rfl ?_
            refine x_iinc [(4, .int (nI (i + 1))), (3, .int m), (2, .int (nI i)), (5, .int (rideY (gA g) h i)), (0, .ref (E.1 + 41)), (1, .int (nI h))] 3 d_X4_farthest_77 rfl (x_inc _) (Nat.le_of_ble_eq_true rfl) rfl ?_
            refine x_goto 28 d_X4_farthest_80 (by decide) ?_
            refine x_lv [0, 1, 2, 4, 5] rfl ?_
            exact ih10 (i + 1) (by omega) (by omega) (nI i) m μ14 (absurd c23 c21) (absurd c23 c21) hR15 hW16 hX18 hD19 hF20
          · skip
            refine x_iload 1 d_X4_farthest_70 rfl ?_
            refine x_goto 76 d_X4_farthest_72 (by decide) ?_
            refine x_istore_n [(3, .int (rideY (gA g) h i)), (2, .int (nI i)), (5, .int (rideY (gA g) h i)), (4, .int (nI i)), (0, .ref (E.1 + 41)), (1, .int (nI h))] d_X4_farthest_76 rfl (Nat.le_of_ble_eq_true rfl) rfl ?_
            refine x_iinc [(4, .int (nI (i + 1))), (3, .int (rideY (gA g) h i)), (2, .int (nI i)), (5, .int (rideY (gA g) h i)), (0, .ref (E.1 + 41)), (1, .int (nI h))] 3 d_X4_farthest_77 rfl (x_inc _) (Nat.le_of_ble_eq_true rfl) rfl ?_
            refine x_goto 28 d_X4_farthest_80 (by decide) ?_
            refine x_lv [0, 1, 2, 4, 5] rfl ?_
            exact ih10 (i + 1) (by omega) (by omega) (nI i) (rideY (gA g) h i) μ14 (by rw [bestTo_t (f := (rideY (gA g) h)) (by rw [← hm]; exact c21)] <;> rfl) (by rw [bestTo_t (f := (rideY (gA g) h)) (by rw [← hm]; exact c21)] <;> rfl) hR15 hW16 hX18 hD19 hF20
    exact L9 0 (by omega) 0 (-1) μ2 (by rfl) (by rfl) hR5 hW3 hX6 hD7 hF8
  · skip
    refine x_aload_n 0 d_X4_farthest_10 rfl rfl ?_
    refine x_ldc q734 d_X4_farthest_11 ?_
    refine x_cvi (k := 41) (as := [.int (-1000001)]) (c_X4_finds l E μ (i := 0) hD (by decide) (w := (-1000001)) (by decide)) v_X4_finds w_X4_finds q735 o_M rfl ⟨Nat.le_of_ble_eq_true rfl, Nat.le_of_ble_eq_true rfl⟩ rfl (Nat.le_of_ble_eq_true rfl) d_X4_farthest_13 ?_
    rintro _ μ24 ⟨rfl, hD25, hF26⟩
    have hR27 := MR.cg hR (μ' := μ24) (fun id hid => (hF26 _ (by omega)))
    have hX28 := MX.cg hX (μ' := μ24) (fun id hid => (hF26 _ (by omega)))
    have hF29 : ∀ id, id < 41 → μ24 id = μ id := fun id hid => (show μ24 id = μ id from (hF26 _ (by omega))).trans (hF id hid)
    refine x_iret rfl d_X4_farthest_16 ?_
    have e9 : F_farthest g n = fin g 0 := by simp [F_farthest, x_b_f, x_b_t, c1]
    rw [e9]
    exact ⟨rfl, MS.fin hR27 hX28 hD25, hF29⟩
def m_X4_orNone : x_M := (yX4_orNone, prog_6_method_3_code, 2, (some FieldType.int), 1, 21)
theorem v_X4_orNone : x_VM m_X4_orNone 1 := ⟨q928, q6, by decide +kernel, by decide +kernel, by decide +kernel⟩
theorem w_X4_orNone : x_VI m_X4_orNone := ⟨q927, qs45⟩
theorem d_X4_orNone_0 : x_dec m_X4_orNone 0 (.iload_n 1) 1 1 := ⟨by decide +kernel, rfl⟩
theorem d_X4_orNone_1 : x_dec m_X4_orNone 1 (.ifCond .ge 12) 3 4 := ⟨by decide +kernel, rfl⟩
theorem d_X4_orNone_4 : x_dec m_X4_orNone 4 (.aload_n 0) 1 5 := ⟨by decide +kernel, rfl⟩
theorem d_X4_orNone_5 : x_dec m_X4_orNone 5 (.ldc 41) 2 7 := ⟨by decide +kernel, rfl⟩
theorem d_X4_orNone_7 : x_dec m_X4_orNone 7 (.invokevirtual 42) 3 10 := ⟨by decide +kernel, rfl⟩
theorem d_X4_orNone_10 : x_dec m_X4_orNone 10 (.goto 4) 3 13 := ⟨by decide +kernel, rfl⟩
theorem d_X4_orNone_13 : x_dec m_X4_orNone 13 (.iload_n 1) 1 14 := ⟨by decide +kernel, rfl⟩
theorem d_X4_orNone_14 : x_dec m_X4_orNone 14 (.ireturn) 1 15 := ⟨by decide +kernel, rfl⟩
set_option maxHeartbeats 4000000 in
set_option maxRecDepth 100000 in
theorem c_X4_orNone (l : Launch) (E : x_E) (μ : x_Mem) {f : Nat → Int32} (hD : MD f μ) (v : Int32) : x_Met l m_X4_orNone E [.ref (E.1 + 41), .int v] μ (x_I (fun z m => (v < 0 → z = -1000004 ∧ MD (upd f 3 (f 3 + 1)) m) ∧ (¬ v < 0 → z = v ∧ MD f m) ∧ ∀ id, id ≠ 45 → m id = μ id)) := by
  have hF : ∀ id, id ≠ 45 → μ id = μ id := fun _ _ => rfl
  refine x_enter (lv := [(0, .ref (E.1 + 41)), (1, .int v)]) (by decide +kernel) (Nat.le_of_ble_eq_true rfl) rfl ?_
  refine x_iload_n 1 d_X4_orNone_0 rfl rfl ?_
  refine x_if_ge 13 d_X4_orNone_1 (by decide) (fun c1 => ?_) (fun c1 => ?_)
  · skip
    refine x_iload_n 1 d_X4_orNone_13 rfl rfl ?_
    refine x_iret rfl d_X4_orNone_14 ?_
    exact ⟨fun z => absurd c1 (Int32.not_le.mpr z), fun _ => ⟨rfl, hD⟩, hF⟩
  · skip
    refine x_aload_n 0 d_X4_orNone_4 rfl rfl ?_
    refine x_ldc q885 d_X4_orNone_5 ?_
    refine x_cvi (k := 41) (as := [.int (-1000004)]) (c_X4_finds l E μ (i := 3) hD (by decide) (w := (-1000004)) (by decide)) v_X4_finds w_X4_finds q735 o_M rfl ⟨Nat.le_of_ble_eq_true rfl, Nat.le_of_ble_eq_true rfl⟩ rfl (Nat.le_of_ble_eq_true rfl) d_X4_orNone_7 ?_
    rintro _ μ2 ⟨rfl, hD3, hF4⟩
    have hF5 : ∀ id, id ≠ 45 → μ2 id = μ id := fun id hid => (show μ2 id = μ id from (hF4 _ (by omega))).trans (hF id hid)
    refine x_goto 14 d_X4_orNone_10 (by decide) ?_
    refine x_iret rfl d_X4_orNone_14 ?_
    exact ⟨fun _ => ⟨rfl, hD3⟩, fun z => absurd (Int32.not_le.mp c1) z, hF5⟩
def m_X4_fewest : x_M := (yX4_fewest, prog_6_method_54_code, 5, (some FieldType.int), 11, 246)
theorem v_X4_fewest : x_VM m_X4_fewest 2 := ⟨q921, q6, by decide +kernel, by decide +kernel, by decide +kernel⟩
theorem w_X4_fewest : x_VI m_X4_fewest := ⟨q919, q920⟩
theorem d_X4_fewest_0 : x_dec m_X4_fewest 0 (.iload_n 1) 1 1 := ⟨by decide +kernel, rfl⟩
theorem d_X4_fewest_1 : x_dec m_X4_fewest 1 (.invokestatic 140) 3 4 := ⟨by decide +kernel, rfl⟩
theorem d_X4_fewest_4 : x_dec m_X4_fewest 4 (.ifCond .eq 13) 3 7 := ⟨by decide +kernel, rfl⟩
theorem d_X4_fewest_7 : x_dec m_X4_fewest 7 (.iload_n 2) 1 8 := ⟨by decide +kernel, rfl⟩
theorem d_X4_fewest_8 : x_dec m_X4_fewest 8 (.iconst 0) 1 9 := ⟨by decide +kernel, rfl⟩
theorem d_X4_fewest_9 : x_dec m_X4_fewest 9 (.bipush 60) 2 11 := ⟨by decide +kernel, rfl⟩
theorem d_X4_fewest_11 : x_dec m_X4_fewest 11 (.invokestatic 46) 3 14 := ⟨by decide +kernel, rfl⟩
theorem d_X4_fewest_14 : x_dec m_X4_fewest 14 (.ifCond .ne 10) 3 17 := ⟨by decide +kernel, rfl⟩
theorem d_X4_fewest_17 : x_dec m_X4_fewest 17 (.aload_n 0) 1 18 := ⟨by decide +kernel, rfl⟩
theorem d_X4_fewest_18 : x_dec m_X4_fewest 18 (.ldc 40) 2 20 := ⟨by decide +kernel, rfl⟩
theorem d_X4_fewest_20 : x_dec m_X4_fewest 20 (.invokevirtual 42) 3 23 := ⟨by decide +kernel, rfl⟩
theorem d_X4_fewest_23 : x_dec m_X4_fewest 23 (.ireturn) 1 24 := ⟨by decide +kernel, rfl⟩
theorem d_X4_fewest_24 : x_dec m_X4_fewest 24 (.aload_n 0) 1 25 := ⟨by decide +kernel, rfl⟩
theorem d_X4_fewest_25 : x_dec m_X4_fewest 25 (.invokevirtual 134) 3 28 := ⟨by decide +kernel, rfl⟩
theorem d_X4_fewest_28 : x_dec m_X4_fewest 28 (.iconst (-1)) 1 29 := ⟨by decide +kernel, rfl⟩
theorem d_X4_fewest_29 : x_dec m_X4_fewest 29 (.istore_n 3) 1 30 := ⟨by decide +kernel, rfl⟩
theorem d_X4_fewest_30 : x_dec m_X4_fewest 30 (.iconst 0) 1 31 := ⟨by decide +kernel, rfl⟩
theorem d_X4_fewest_31 : x_dec m_X4_fewest 31 (.istore 4) 2 33 := ⟨by decide +kernel, rfl⟩
theorem d_X4_fewest_33 : x_dec m_X4_fewest 33 (.iload 4) 2 35 := ⟨by decide +kernel, rfl⟩
theorem d_X4_fewest_35 : x_dec m_X4_fewest 35 (.iconst 1) 1 36 := ⟨by decide +kernel, rfl⟩
theorem d_X4_fewest_36 : x_dec m_X4_fewest 36 (.aload_n 0) 1 37 := ⟨by decide +kernel, rfl⟩
theorem d_X4_fewest_37 : x_dec m_X4_fewest 37 (.getfield 9) 3 40 := ⟨by decide +kernel, rfl⟩
theorem d_X4_fewest_40 : x_dec m_X4_fewest 40 (.bipush 7) 2 42 := ⟨by decide +kernel, rfl⟩
theorem d_X4_fewest_42 : x_dec m_X4_fewest 42 (.iaload) 1 43 := ⟨by decide +kernel, rfl⟩
theorem d_X4_fewest_43 : x_dec m_X4_fewest 43 (.ishl) 1 44 := ⟨by decide +kernel, rfl⟩
theorem d_X4_fewest_44 : x_dec m_X4_fewest 44 (.if_icmp .ge 43) 3 47 := ⟨by decide +kernel, rfl⟩
theorem d_X4_fewest_47 : x_dec m_X4_fewest 47 (.iload_n 3) 1 48 := ⟨by decide +kernel, rfl⟩
theorem d_X4_fewest_48 : x_dec m_X4_fewest 48 (.ifCond .lt 15) 3 51 := ⟨by decide +kernel, rfl⟩
theorem d_X4_fewest_51 : x_dec m_X4_fewest 51 (.iload 4) 2 53 := ⟨by decide +kernel, rfl⟩
theorem d_X4_fewest_53 : x_dec m_X4_fewest 53 (.invokestatic 152) 3 56 := ⟨by decide +kernel, rfl⟩
theorem d_X4_fewest_56 : x_dec m_X4_fewest 56 (.iload_n 3) 1 57 := ⟨by decide +kernel, rfl⟩
theorem d_X4_fewest_57 : x_dec m_X4_fewest 57 (.invokestatic 152) 3 60 := ⟨by decide +kernel, rfl⟩
theorem d_X4_fewest_60 : x_dec m_X4_fewest 60 (.if_icmp .ge 21) 3 63 := ⟨by decide +kernel, rfl⟩
theorem d_X4_fewest_63 : x_dec m_X4_fewest 63 (.aload_n 0) 1 64 := ⟨by decide +kernel, rfl⟩
theorem d_X4_fewest_64 : x_dec m_X4_fewest 64 (.iload 4) 2 66 := ⟨by decide +kernel, rfl⟩
theorem d_X4_fewest_66 : x_dec m_X4_fewest 66 (.iload_n 2) 1 67 := ⟨by decide +kernel, rfl⟩
theorem d_X4_fewest_67 : x_dec m_X4_fewest 67 (.invokevirtual 149) 3 70 := ⟨by decide +kernel, rfl⟩
theorem d_X4_fewest_70 : x_dec m_X4_fewest 70 (.iload_n 1) 1 71 := ⟨by decide +kernel, rfl⟩
theorem d_X4_fewest_71 : x_dec m_X4_fewest 71 (.if_icmp .lt 8) 3 74 := ⟨by decide +kernel, rfl⟩
theorem d_X4_fewest_74 : x_dec m_X4_fewest 74 (.iload 4) 2 76 := ⟨by decide +kernel, rfl⟩
theorem d_X4_fewest_76 : x_dec m_X4_fewest 76 (.goto 4) 3 79 := ⟨by decide +kernel, rfl⟩
theorem d_X4_fewest_79 : x_dec m_X4_fewest 79 (.iload_n 3) 1 80 := ⟨by decide +kernel, rfl⟩
theorem d_X4_fewest_80 : x_dec m_X4_fewest 80 (.istore_n 3) 1 81 := ⟨by decide +kernel, rfl⟩
theorem d_X4_fewest_81 : x_dec m_X4_fewest 81 (.iinc 4 1) 3 84 := ⟨by decide +kernel, rfl⟩
theorem d_X4_fewest_84 : x_dec m_X4_fewest 84 (.goto (-51)) 3 87 := ⟨by decide +kernel, rfl⟩
theorem d_X4_fewest_87 : x_dec m_X4_fewest 87 (.aload_n 0) 1 88 := ⟨by decide +kernel, rfl⟩
theorem d_X4_fewest_88 : x_dec m_X4_fewest 88 (.iload_n 3) 1 89 := ⟨by decide +kernel, rfl⟩
theorem d_X4_fewest_89 : x_dec m_X4_fewest 89 (.invokevirtual 155) 3 92 := ⟨by decide +kernel, rfl⟩
theorem d_X4_fewest_92 : x_dec m_X4_fewest 92 (.ireturn) 1 93 := ⟨by decide +kernel, rfl⟩
set_option maxHeartbeats 4000000 in
set_option maxRecDepth 100000 in
theorem c_X4_fewest (l : Launch) (E : x_E) (μ : x_Mem) (g : x_SG) (hS : MS g μ) (hI : Inv g) (y n : Int32) : x_Met l m_X4_fewest E [.ref (E.1 + 41), .int y, .int n] μ (x_I (fun z m => z = (F_fewest g y n).1 ∧ MS (F_fewest g y n).2 m ∧ ∀ id, id < 41 → m id = μ id)) := by
  obtain ⟨hR, hX, hD⟩ := hS
  have hWF := hI.1.1
  have hn7 := hWF.2.1
  have hpn := hWF.1
  have hF : ∀ id, id < 41 → μ id = μ id := fun _ _ => rfl
  have h2p := pow8 hpn
  have h2q := Nat.one_le_two_pow (n := pn (gA g))
  refine x_enter (lv := [(0, .ref (E.1 + 41)), (1, .int y), (2, .int n)]) (by decide +kernel) (Nat.le_of_ble_eq_true rfl) rfl ?_
  refine x_iload_n 1 d_X4_fewest_0 rfl rfl ?_
  refine x_csip (as := [.int y]) (c_X4_isYard l E μ y) v_X4_isYard q883 q882 rfl ⟨Nat.le_of_ble_eq_true rfl, Nat.le_of_ble_eq_true rfl⟩ rfl (Nat.le_of_ble_eq_true rfl) d_X4_fewest_1 ?_
  refine x_ifb_eq 17 d_X4_fewest_4 (by decide) (fun c1 => ?_) (fun c1 => ?_)
  · skip
    refine x_aload_n 0 d_X4_fewest_17 rfl rfl ?_
    refine x_ldc q734 d_X4_fewest_18 ?_
    refine x_cvi (k := 41) (as := [.int (-1000001)]) (c_X4_finds l E μ (i := 0) hD (by decide) (w := (-1000001)) (by decide)) v_X4_finds w_X4_finds q735 o_M rfl ⟨Nat.le_of_ble_eq_true rfl, Nat.le_of_ble_eq_true rfl⟩ rfl (Nat.le_of_ble_eq_true rfl) d_X4_fewest_20 ?_
    rintro _ μ2 ⟨rfl, hD3, hF4⟩
    have hR5 := MR.cg hR (μ' := μ2) (fun id hid => (hF4 _ (by omega)))
    have hX6 := MX.cg hX (μ' := μ2) (fun id hid => (hF4 _ (by omega)))
    have hF7 : ∀ id, id < 41 → μ2 id = μ id := fun id hid => (show μ2 id = μ id from (hF4 _ (by omega))).trans (hF id hid)
    refine x_iret rfl d_X4_fewest_23 ?_
    have e9 : F_fewest g y n = fin g 0 := by simp [F_fewest, x_b_f, x_b_t, c1]
    rw [e9]
    exact ⟨rfl, MS.fin hR5 hX6 hD3, hF7⟩
  · skip
    refine x_iload_n 2 d_X4_fewest_7 rfl rfl ?_
    refine x_iconst (x := 0) d_X4_fewest_8 (by decide) ?_
    refine x_bipush (x := 60) d_X4_fewest_9 (by decide) ?_
    refine x_csip (as := [.int n, .int 0, .int 60]) (c_X4_in l E μ n 0 60) v_X4_in q728 q727 rfl ⟨Nat.le_of_ble_eq_true rfl, Nat.le_of_ble_eq_true rfl⟩ rfl (Nat.le_of_ble_eq_true rfl) d_X4_fewest_11 ?_
    refine x_ifb_ne 24 d_X4_fewest_14 (by decide) (fun c8 => ?_) (fun c8 => ?_)
    · skip
      obtain ⟨h, hh, rfl⟩ := inR_nat (n := 60) (by decide) c8
      refine x_aload_n 0 d_X4_fewest_24 rfl rfl ?_
      refine x_cvv (k := 41) (as := []) (c_X4_thinks l E μ hR) v_X4_thinks w_X4_thinks q859 o_M rfl ⟨Nat.le_of_ble_eq_true rfl, Nat.le_of_ble_eq_true rfl⟩ rfl (Nat.le_of_ble_eq_true rfl) d_X4_fewest_25 ?_
      rintro μ9 ⟨hW10, hF11⟩
      have hR12 := MR.cg hR (μ' := μ9) (fun id hid => (hF11 _ (by omega)))
      have hX13 := MX.cg hX (μ' := μ9) (fun id hid => (hF11 _ (by omega)))
      have hD14 := MD.cg hD (μ' := μ9) (fun id hid => (hF11 _ (by omega)))
      have hF15 : ∀ id, id < 41 → μ9 id = μ id := fun id hid => (show μ9 id = μ id from (hF11 _ (by omega))).trans (hF id hid)
      refine x_iconst (x := (-1)) d_X4_fewest_28 (by decide) ?_
      refine x_istore_n [(3, .int (-1)), (0, .ref (E.1 + 41)), (1, .int y), (2, .int (nI h))] d_X4_fewest_29 rfl (Nat.le_of_ble_eq_true rfl) rfl ?_
      refine x_iconst (x := 0) d_X4_fewest_30 (by decide) ?_
      refine x_istore [(4, .int 0), (3, .int (-1)), (0, .ref (E.1 + 41)), (1, .int y), (2, .int (nI h))] d_X4_fewest_31 (Nat.le_of_ble_eq_true rfl) rfl ?_
      have L16 : ∀ i : Nat, i ≤ 2 ^ pn (gA g) → ∀ b : Int32, ∀ μ19 : x_Mem, (b = optI (fewTo (fun s => decide (y ≤ rideY (gA g) h s)) i)) → (MR (gA g) μ19) → (MW (gA g) μ19) → (MX g μ19) → (MD (gF g) μ19) → (∀ id, id < 41 → μ19 id = μ id) → x_G l E m_X4_fewest (x_mv E m_X4_fewest (x_I (fun z m => z = (F_fewest g y (nI h)).1 ∧ MS (F_fewest g y (nI h)).2 m ∧ ∀ id, id < 41 → m id = μ id))) μ19 33 [(4, .int (nI i)), (3, .int b), (0, .ref (E.1 + 41)), (1, .int y), (2, .int (nI h))] [] := by
        refine x_down _ (2 ^ pn (gA g)) (fun i hi18 ih17 => ?_)
        intro b μ19 hb hR1 hW1 hX1 hD1 hF1
        refine x_iload 0 d_X4_fewest_33 rfl ?_
        refine x_iconst (x := 1) d_X4_fewest_35 (by decide) ?_
        refine x_aload_n 2 d_X4_fewest_36 rfl rfl ?_
        refine x_getr (j := 0) 42 x_c4 rfl (Nat.le_of_ble_eq_true rfl) q668 rfl d_X4_fewest_37 ?_
        refine x_bipush (x := 7) d_X4_fewest_40 (by decide) ?_
        refine x_ialdN (z := nI (pn (gA g))) 58 7 rfl rfl (by omega) (by decide) ((hR1 7 (by decide)).trans hn7) d_X4_fewest_42 ?_
        refine x_ishl d_X4_fewest_43 ?_
        rw [shl1 (by omega)]
        refine x_icmp_ge 87 d_X4_fewest_44 (by decide) (fun c20 => ?_) (fun c20 => ?_)
        · skip
          have hN := x_ge (N := 2 ^ pn (gA g)) c20 rfl rfl (by omega) (by omega)
          refine x_aload_n 2 d_X4_fewest_87 rfl rfl ?_
          refine x_iload_n 1 d_X4_fewest_88 rfl rfl ?_
          refine x_cvi (k := 41) (as := [.int b]) (c_X4_orNone l E μ19 hD1 b) v_X4_orNone w_X4_orNone q925 o_M rfl ⟨Nat.le_of_ble_eq_true rfl, Nat.le_of_ble_eq_true rfl⟩ rfl (Nat.le_of_ble_eq_true rfl) d_X4_fewest_89 ?_
          rintro z9 μ21 ⟨hng, hps, hF22⟩
          have hR23 := MR.cg hR1 (μ' := μ21) (fun id hid => (hF22 _ (by omega)))
          have hX24 := MX.cg hX1 (μ' := μ21) (fun id hid => (hF22 _ (by omega)))
          have hF25 : ∀ id, id < 41 → μ21 id = μ id := fun id hid => (show μ21 id = μ19 id from (hF22 _ (by omega))).trans (hF1 id hid)
          have hW26 := MW.cg hW1 (μ' := μ21) (fun id hid => (hF22 _ (by omega)))
          by_cases cON : b < 0
          · obtain ⟨rfl, hDn⟩ := hng cON
            refine x_iret rfl d_X4_fewest_92 ?_
            have e7 : i = 2 ^ pn (gA g) := by omega
            subst e7
            have e8 := few_neg hb (by omega) cON
            have e9 : F_fewest g y (nI h) = fin g 3 := by simp [F_fewest, x_b_f, x_b_t, c1, c8, nI_clamp (n := h) (by omega), e8, orO]
            rw [e9]
            exact ⟨rfl, MS.fin hR23 hX24 hDn, hF25⟩
          · obtain ⟨hz9, hDn⟩ := hps cON
            rw [hz9]
            refine x_iret rfl d_X4_fewest_92 ?_
            have e7 : i = 2 ^ pn (gA g) := by omega
            subst e7
            obtain ⟨k, hk, e8, rfl⟩ := few_pos hb cON
            have e9 : F_fewest g y (nI h) = (nI k, g) := by simp [F_fewest, x_b_f, x_b_t, c1, c8, nI_clamp (n := h) (by omega), e8, orO]
            rw [e9]
            exact ⟨rfl, ⟨hR23, hX24, hDn⟩, hF25⟩
        · skip
          have hN := x_lt (N := 2 ^ pn (gA g)) c20 rfl rfl (by omega) (by omega)
          refine x_iload_n 1 d_X4_fewest_47 rfl rfl ?_
          refine x_if_lt 63 d_X4_fewest_48 (by decide) (fun c27 => ?_) (fun c27 => ?_)
          · skip
            refine x_aload_n 2 d_X4_fewest_63 rfl rfl ?_
            refine x_iload 0 d_X4_fewest_64 rfl ?_
            refine x_iload_n 4 d_X4_fewest_66 rfl rfl ?_
            refine x_cvi (k := 41) (as := [.int (nI i), .int (nI h)]) (c_X4_getsWith l E μ19 hR1 hWF hW1 (j := i) (h := h) (by omega) (by omega)) v_X4_getsWith w_X4_getsWith q914 o_M rfl ⟨Nat.le_of_ble_eq_true rfl, Nat.le_of_ble_eq_true rfl⟩ rfl (Nat.le_of_ble_eq_true rfl) d_X4_fewest_67 ?_
            rintro _ μ28 ⟨rfl, hR29, hW30, hF31⟩
            have hX32 := MX.cg hX1 (μ' := μ28) (fun id hid => (hF31 _ (by omega)))
            have hD33 := MD.cg hD1 (μ' := μ28) (fun id hid => (hF31 _ (by omega)))
            have hF34 : ∀ id, id < 41 → μ28 id = μ id := fun id hid => (show μ28 id = μ19 id from (hF31 _ (by omega))).trans (hF1 id hid)
            refine x_iload_n 3 d_X4_fewest_70 rfl rfl ?_
            refine x_icmp_lt 79 d_X4_fewest_71 (by decide) (fun c35 => ?_) (fun c35 => ?_)
            · skip
              refine x_iload_n 1 d_X4_fewest_79 rfl rfl ?_
              refine x_istore_n [(3, .int b), (4, .int (nI i)), (0, .ref (E.1 + 41)), (1, .int y), (2, .int (nI h))] d_X4_fewest_80 rfl (Nat.le_of_ble_eq_true rfl) rfl ?_
              refine x_iinc [(4, .int (nI (i + 1))), (3, .int b), (0, .ref (E.1 + 41)), (1, .int y), (2, .int (nI h))] 1 d_X4_fewest_81 rfl (x_inc _) (Nat.le_of_ble_eq_true rfl) rfl ?_
              refine x_goto 33 d_X4_fewest_84 (by decide) ?_
              exact ih17 (i + 1) (by omega) (by omega) b μ28 (by rw [few_n1 (few_neg hb (by omega) c27) (decide_eq_false (Int32.not_le.mpr c35)), hb, few_neg hb (by omega) c27]) hR29 hW30 hX32 hD33 hF34
            · skip
              refine x_iload 0 d_X4_fewest_74 rfl ?_
              refine x_goto 80 d_X4_fewest_76 (by decide) ?_
              refine x_istore_n [(3, .int (nI i)), (4, .int (nI i)), (0, .ref (E.1 + 41)), (1, .int y), (2, .int (nI h))] d_X4_fewest_80 rfl (Nat.le_of_ble_eq_true rfl) rfl ?_
              refine x_iinc [(4, .int (nI (i + 1))), (3, .int (nI i)), (0, .ref (E.1 + 41)), (1, .int y), (2, .int (nI h))] 1 d_X4_fewest_81 rfl (x_inc _) (Nat.le_of_ble_eq_true rfl) rfl ?_
              refine x_goto 33 d_X4_fewest_84 (by decide) ?_
              exact ih17 (i + 1) (by omega) (by omega) (nI i) μ28 (by rw [few_n2 (few_neg hb (by omega) c27) (decide_eq_true (Int32.not_lt.mp c35))]; rfl) hR29 hW30 hX32 hD33 hF34
          · skip
            obtain ⟨k, hk, ek, rfl⟩ := few_pos hb c27
            refine x_iload 0 d_X4_fewest_51 rfl ?_
            refine x_csip (as := [.int (nI i)]) (c_X4_bits l E μ19 (s := i) (by omega)) v_X4_bits q923 q922 rfl ⟨Nat.le_of_ble_eq_true rfl, Nat.le_of_ble_eq_true rfl⟩ rfl (Nat.le_of_ble_eq_true rfl) d_X4_fewest_53 ?_
            refine x_iload_n 1 d_X4_fewest_56 rfl rfl ?_
            refine x_csip (as := [.int (nI k)]) (c_X4_bits l E μ19 (s := k) (by omega)) v_X4_bits q923 q922 rfl ⟨Nat.le_of_ble_eq_true rfl, Nat.le_of_ble_eq_true rfl⟩ rfl (Nat.le_of_ble_eq_true rfl) d_X4_fewest_57 ?_
            refine x_icmp_ge 81 d_X4_fewest_60 (by decide) (fun c36 => ?_) (fun c36 => ?_)
            · skip
              refine x_iinc [(4, .int (nI (i + 1))), (3, .int (nI k)), (0, .ref (E.1 + 41)), (1, .int y), (2, .int (nI h))] 0 d_X4_fewest_81 rfl (x_inc _) (Nat.le_of_ble_eq_true rfl) rfl ?_
              refine x_goto 33 d_X4_fewest_84 (by decide) ?_
              exact ih17 (i + 1) (by omega) (by omega) (nI k) μ19 (by rw [few_s1 ek (fun z => pop_ge (by omega) (by omega) c36 z.1)]; rfl) hR1 hW1 hX1 hD1 hF1
            · skip
              refine x_aload_n 2 d_X4_fewest_63 rfl rfl ?_
              refine x_iload 0 d_X4_fewest_64 rfl ?_
              refine x_iload_n 4 d_X4_fewest_66 rfl rfl ?_
              refine x_cvi (k := 41) (as := [.int (nI i), .int (nI h)]) (c_X4_getsWith l E μ19 hR1 hWF hW1 (j := i) (h := h) (by omega) (by omega)) v_X4_getsWith w_X4_getsWith q914 o_M rfl ⟨Nat.le_of_ble_eq_true rfl, Nat.le_of_ble_eq_true rfl⟩ rfl (Nat.le_of_ble_eq_true rfl) d_X4_fewest_67 ?_
              rintro _ μ37 ⟨rfl, hR38, hW39, hF40⟩
              have hX41 := MX.cg hX1 (μ' := μ37) (fun id hid => (hF40 _ (by omega)))
              have hD42 := MD.cg hD1 (μ' := μ37) (fun id hid => (hF40 _ (by omega)))
              have hF43 : ∀ id, id < 41 → μ37 id = μ id := fun id hid => (show μ37 id = μ19 id from (hF40 _ (by omega))).trans (hF1 id hid)
              refine x_iload_n 3 d_X4_fewest_70 rfl rfl ?_
              refine x_icmp_lt 79 d_X4_fewest_71 (by decide) (fun c44 => ?_) (fun c44 => ?_)
              · skip
                refine x_iload_n 1 d_X4_fewest_79 rfl rfl ?_
                refine x_istore_n [(3, .int (nI k)), (4, .int (nI i)), (0, .ref (E.1 + 41)), (1, .int y), (2, .int (nI h))] d_X4_fewest_80 rfl (Nat.le_of_ble_eq_true rfl) rfl ?_
                refine x_iinc [(4, .int (nI (i + 1))), (3, .int (nI k)), (0, .ref (E.1 + 41)), (1, .int y), (2, .int (nI h))] 1 d_X4_fewest_81 rfl (x_inc _) (Nat.le_of_ble_eq_true rfl) rfl ?_
                refine x_goto 33 d_X4_fewest_84 (by decide) ?_
                exact ih17 (i + 1) (by omega) (by omega) (nI k) μ37 (by rw [few_s1 ek (fun z => absurd (z.2.symm.trans (decide_eq_false (Int32.not_le.mpr c44))) (by decide))]; rfl) hR38 hW39 hX41 hD42 hF43
              · skip
                refine x_iload 0 d_X4_fewest_74 rfl ?_
                refine x_goto 80 d_X4_fewest_76 (by decide) ?_
                refine x_istore_n [(3, .int (nI i)), (4, .int (nI i)), (0, .ref (E.1 + 41)), (1, .int y), (2, .int (nI h))] d_X4_fewest_80 rfl (Nat.le_of_ble_eq_true rfl) rfl ?_
                refine x_iinc [(4, .int (nI (i + 1))), (3, .int (nI i)), (0, .ref (E.1 + 41)), (1, .int y), (2, .int (nI h))] 1 d_X4_fewest_81 rfl (x_inc _) (Nat.le_of_ble_eq_true rfl) rfl ?_
                refine x_goto 33 d_X4_fewest_84 (by decide) ?_
                exact ih17 (i + 1) (by omega) (by omega) (nI i) μ37 (by rw [few_s2 ek (pop_lt (by omega) (by omega) c36) (decide_eq_true (Int32.not_lt.mp c44))]; rfl) hR38 hW39 hX41 hD42 hF43
      exact L16 0 (by omega) (-1) μ9 (by rfl) hR12 hW10 hX13 hD14 hF15
    · skip
      refine x_aload_n 0 d_X4_fewest_17 rfl rfl ?_
      refine x_ldc q734 d_X4_fewest_18 ?_
      refine x_cvi (k := 41) (as := [.int (-1000001)]) (c_X4_finds l E μ (i := 0) hD (by decide) (w := (-1000001)) (by decide)) v_X4_finds w_X4_finds q735 o_M rfl ⟨Nat.le_of_ble_eq_true rfl, Nat.le_of_ble_eq_true rfl⟩ rfl (Nat.le_of_ble_eq_true rfl) d_X4_fewest_20 ?_
      rintro _ μ45 ⟨rfl, hD46, hF47⟩
      have hR48 := MR.cg hR (μ' := μ45) (fun id hid => (hF47 _ (by omega)))
      have hX49 := MX.cg hX (μ' := μ45) (fun id hid => (hF47 _ (by omega)))
      have hF50 : ∀ id, id < 41 → μ45 id = μ id := fun id hid => (show μ45 id = μ id from (hF47 _ (by omega))).trans (hF id hid)
      refine x_iret rfl d_X4_fewest_23 ?_
      have e9 : F_fewest g y n = fin g 0 := by simp [F_fewest, x_b_f, x_b_t, c1, c8]
      rw [e9]
      exact ⟨rfl, MS.fin hR48 hX49 hD46, hF50⟩
def m_X4_without : x_M := (yX4_without, prog_6_method_56_code, 6, (some FieldType.int), 10, 223)
theorem v_X4_without : x_VM m_X4_without 1 := ⟨q936, q6, by decide +kernel, by decide +kernel, by decide +kernel⟩
theorem w_X4_without : x_VI m_X4_without := ⟨q934, q935⟩
theorem d_X4_without_0 : x_dec m_X4_without 0 (.iload_n 1) 1 1 := ⟨by decide +kernel, rfl⟩
theorem d_X4_without_1 : x_dec m_X4_without 1 (.iconst 0) 1 2 := ⟨by decide +kernel, rfl⟩
theorem d_X4_without_2 : x_dec m_X4_without 2 (.bipush 60) 2 4 := ⟨by decide +kernel, rfl⟩
theorem d_X4_without_4 : x_dec m_X4_without 4 (.invokestatic 46) 3 7 := ⟨by decide +kernel, rfl⟩
theorem d_X4_without_7 : x_dec m_X4_without 7 (.ifCond .ne 10) 3 10 := ⟨by decide +kernel, rfl⟩
theorem d_X4_without_10 : x_dec m_X4_without 10 (.aload_n 0) 1 11 := ⟨by decide +kernel, rfl⟩
theorem d_X4_without_11 : x_dec m_X4_without 11 (.ldc 40) 2 13 := ⟨by decide +kernel, rfl⟩
theorem d_X4_without_13 : x_dec m_X4_without 13 (.invokevirtual 42) 3 16 := ⟨by decide +kernel, rfl⟩
theorem d_X4_without_16 : x_dec m_X4_without 16 (.ireturn) 1 17 := ⟨by decide +kernel, rfl⟩
theorem d_X4_without_17 : x_dec m_X4_without 17 (.aload_n 0) 1 18 := ⟨by decide +kernel, rfl⟩
theorem d_X4_without_18 : x_dec m_X4_without 18 (.invokevirtual 134) 3 21 := ⟨by decide +kernel, rfl⟩
theorem d_X4_without_21 : x_dec m_X4_without 21 (.iconst (-1)) 1 22 := ⟨by decide +kernel, rfl⟩
theorem d_X4_without_22 : x_dec m_X4_without 22 (.istore_n 2) 1 23 := ⟨by decide +kernel, rfl⟩
theorem d_X4_without_23 : x_dec m_X4_without 23 (.iconst (-1)) 1 24 := ⟨by decide +kernel, rfl⟩
theorem d_X4_without_24 : x_dec m_X4_without 24 (.istore_n 3) 1 25 := ⟨by decide +kernel, rfl⟩
theorem d_X4_without_25 : x_dec m_X4_without 25 (.iconst 0) 1 26 := ⟨by decide +kernel, rfl⟩
theorem d_X4_without_26 : x_dec m_X4_without 26 (.istore 4) 2 28 := ⟨by decide +kernel, rfl⟩
theorem d_X4_without_28 : x_dec m_X4_without 28 (.iload 4) 2 30 := ⟨by decide +kernel, rfl⟩
theorem d_X4_without_30 : x_dec m_X4_without 30 (.aload_n 0) 1 31 := ⟨by decide +kernel, rfl⟩
theorem d_X4_without_31 : x_dec m_X4_without 31 (.getfield 9) 3 34 := ⟨by decide +kernel, rfl⟩
theorem d_X4_without_34 : x_dec m_X4_without 34 (.bipush 7) 2 36 := ⟨by decide +kernel, rfl⟩
theorem d_X4_without_36 : x_dec m_X4_without 36 (.iaload) 1 37 := ⟨by decide +kernel, rfl⟩
theorem d_X4_without_37 : x_dec m_X4_without 37 (.if_icmp .ge 66) 3 40 := ⟨by decide +kernel, rfl⟩
theorem d_X4_without_40 : x_dec m_X4_without 40 (.aload_n 0) 1 41 := ⟨by decide +kernel, rfl⟩
theorem d_X4_without_41 : x_dec m_X4_without 41 (.iload 4) 2 43 := ⟨by decide +kernel, rfl⟩
theorem d_X4_without_43 : x_dec m_X4_without 43 (.iconst 1) 1 44 := ⟨by decide +kernel, rfl⟩
theorem d_X4_without_44 : x_dec m_X4_without 44 (.invokevirtual 50) 3 47 := ⟨by decide +kernel, rfl⟩
theorem d_X4_without_47 : x_dec m_X4_without 47 (.iconst (-1)) 1 48 := ⟨by decide +kernel, rfl⟩
theorem d_X4_without_48 : x_dec m_X4_without 48 (.if_icmp .ne 49) 3 51 := ⟨by decide +kernel, rfl⟩
theorem d_X4_without_51 : x_dec m_X4_without 51 (.aload_n 0) 1 52 := ⟨by decide +kernel, rfl⟩
theorem d_X4_without_52 : x_dec m_X4_without 52 (.iload 4) 2 54 := ⟨by decide +kernel, rfl⟩
theorem d_X4_without_54 : x_dec m_X4_without 54 (.iconst 1) 1 55 := ⟨by decide +kernel, rfl⟩
theorem d_X4_without_55 : x_dec m_X4_without 55 (.aload_n 0) 1 56 := ⟨by decide +kernel, rfl⟩
theorem d_X4_without_56 : x_dec m_X4_without 56 (.getfield 9) 3 59 := ⟨by decide +kernel, rfl⟩
theorem d_X4_without_59 : x_dec m_X4_without 59 (.iconst 1) 1 60 := ⟨by decide +kernel, rfl⟩
theorem d_X4_without_60 : x_dec m_X4_without 60 (.iaload) 1 61 := ⟨by decide +kernel, rfl⟩
theorem d_X4_without_61 : x_dec m_X4_without 61 (.invokevirtual 84) 3 64 := ⟨by decide +kernel, rfl⟩
theorem d_X4_without_64 : x_dec m_X4_without 64 (.aload_n 0) 1 65 := ⟨by decide +kernel, rfl⟩
theorem d_X4_without_65 : x_dec m_X4_without 65 (.iload_n 1) 1 66 := ⟨by decide +kernel, rfl⟩
theorem d_X4_without_66 : x_dec m_X4_without 66 (.invokevirtual 137) 3 69 := ⟨by decide +kernel, rfl⟩
theorem d_X4_without_69 : x_dec m_X4_without 69 (.istore 5) 2 71 := ⟨by decide +kernel, rfl⟩
theorem d_X4_without_71 : x_dec m_X4_without 71 (.iload 5) 2 73 := ⟨by decide +kernel, rfl⟩
theorem d_X4_without_73 : x_dec m_X4_without 73 (.iload_n 3) 1 74 := ⟨by decide +kernel, rfl⟩
theorem d_X4_without_74 : x_dec m_X4_without 74 (.if_icmp .le 8) 3 77 := ⟨by decide +kernel, rfl⟩
theorem d_X4_without_77 : x_dec m_X4_without 77 (.iload 4) 2 79 := ⟨by decide +kernel, rfl⟩
theorem d_X4_without_79 : x_dec m_X4_without 79 (.goto 4) 3 82 := ⟨by decide +kernel, rfl⟩
theorem d_X4_without_82 : x_dec m_X4_without 82 (.iload_n 2) 1 83 := ⟨by decide +kernel, rfl⟩
theorem d_X4_without_83 : x_dec m_X4_without 83 (.istore_n 2) 1 84 := ⟨by decide +kernel, rfl⟩
theorem d_X4_without_84 : x_dec m_X4_without 84 (.iload 5) 2 86 := ⟨by decide +kernel, rfl⟩
theorem d_X4_without_86 : x_dec m_X4_without 86 (.iload_n 3) 1 87 := ⟨by decide +kernel, rfl⟩
theorem d_X4_without_87 : x_dec m_X4_without 87 (.if_icmp .le 8) 3 90 := ⟨by decide +kernel, rfl⟩
theorem d_X4_without_90 : x_dec m_X4_without 90 (.iload 5) 2 92 := ⟨by decide +kernel, rfl⟩
theorem d_X4_without_92 : x_dec m_X4_without 92 (.goto 4) 3 95 := ⟨by decide +kernel, rfl⟩
theorem d_X4_without_95 : x_dec m_X4_without 95 (.iload_n 3) 1 96 := ⟨by decide +kernel, rfl⟩
theorem d_X4_without_96 : x_dec m_X4_without 96 (.istore_n 3) 1 97 := ⟨by decide +kernel, rfl⟩
theorem d_X4_without_97 : x_dec m_X4_without 97 (.iinc 4 1) 3 100 := ⟨by decide +kernel, rfl⟩
theorem d_X4_without_100 : x_dec m_X4_without 100 (.goto (-72)) 3 103 := ⟨by decide +kernel, rfl⟩
theorem d_X4_without_103 : x_dec m_X4_without 103 (.aload_n 0) 1 104 := ⟨by decide +kernel, rfl⟩
theorem d_X4_without_104 : x_dec m_X4_without 104 (.iload_n 2) 1 105 := ⟨by decide +kernel, rfl⟩
theorem d_X4_without_105 : x_dec m_X4_without 105 (.invokevirtual 155) 3 108 := ⟨by decide +kernel, rfl⟩
theorem d_X4_without_108 : x_dec m_X4_without 108 (.ireturn) 1 109 := ⟨by decide +kernel, rfl⟩
set_option maxHeartbeats 4000000 in
set_option maxRecDepth 100000 in
theorem c_X4_without (l : Launch) (E : x_E) (μ : x_Mem) (g : x_SG) (hS : MS g μ) (hI : Inv g) (n : Int32) : x_Met l m_X4_without E [.ref (E.1 + 41), .int n] μ (x_I (fun z m => z = (F_without g n).1 ∧ MS (F_without g n).2 m ∧ ∀ id, id < 41 → m id = μ id)) := by
  obtain ⟨hR, hX, hD⟩ := hS
  have hWF := hI.1.1
  have hn7 := hWF.2.1
  have hpn := hWF.1
  have hF : ∀ id, id < 41 → μ id = μ id := fun _ _ => rfl
  refine x_enter (lv := [(0, .ref (E.1 + 41)), (1, .int n)]) (by decide +kernel) (Nat.le_of_ble_eq_true rfl) rfl ?_
  refine x_iload_n 1 d_X4_without_0 rfl rfl ?_
  refine x_iconst (x := 0) d_X4_without_1 (by decide) ?_
  refine x_bipush (x := 60) d_X4_without_2 (by decide) ?_
  refine x_csip (as := [.int n, .int 0, .int 60]) (c_X4_in l E μ n 0 60) v_X4_in q728 q727 rfl ⟨Nat.le_of_ble_eq_true rfl, Nat.le_of_ble_eq_true rfl⟩ rfl (Nat.le_of_ble_eq_true rfl) d_X4_without_4 ?_
  refine x_ifb_ne 17 d_X4_without_7 (by decide) (fun c1 => ?_) (fun c1 => ?_)
  · skip
    obtain ⟨h, hh, rfl⟩ := inR_nat (n := 60) (by decide) c1
    refine x_aload_n 0 d_X4_without_17 rfl rfl ?_
    refine x_cvv (k := 41) (as := []) (c_X4_thinks l E μ hR) v_X4_thinks w_X4_thinks q859 o_M rfl ⟨Nat.le_of_ble_eq_true rfl, Nat.le_of_ble_eq_true rfl⟩ rfl (Nat.le_of_ble_eq_true rfl) d_X4_without_18 ?_
    rintro μ2 ⟨hW3, hF4⟩
    have hR5 := MR.cg hR (μ' := μ2) (fun id hid => (hF4 _ (by omega)))
    have hX6 := MX.cg hX (μ' := μ2) (fun id hid => (hF4 _ (by omega)))
    have hD7 := MD.cg hD (μ' := μ2) (fun id hid => (hF4 _ (by omega)))
    have hF8 : ∀ id, id < 41 → μ2 id = μ id := fun id hid => (show μ2 id = μ id from (hF4 _ (by omega))).trans (hF id hid)
    refine x_iconst (x := (-1)) d_X4_without_21 (by decide) ?_
    refine x_istore_n [(2, .int (-1)), (0, .ref (E.1 + 41)), (1, .int (nI h))] d_X4_without_22 rfl (Nat.le_of_ble_eq_true rfl) rfl ?_
    refine x_iconst (x := (-1)) d_X4_without_23 (by decide) ?_
    refine x_istore_n [(3, .int (-1)), (2, .int (-1)), (0, .ref (E.1 + 41)), (1, .int (nI h))] d_X4_without_24 rfl (Nat.le_of_ble_eq_true rfl) rfl ?_
    refine x_iconst (x := 0) d_X4_without_25 (by decide) ?_
    refine x_istore [(4, .int 0), (3, .int (-1)), (2, .int (-1)), (0, .ref (E.1 + 41)), (1, .int (nI h))] d_X4_without_26 (Nat.le_of_ble_eq_true rfl) rfl ?_
    have L9 : ∀ i : Nat, i ≤ pn (gA g) → ∀ b : Int32, ∀ m : Int32, ∀ μ12 : x_Mem, (b = optI (outTo (gA g) h i).1) → (m = (outTo (gA g) h i).2) → (MR (gA g) μ12) → (MW (gA g) μ12) → (MX g μ12) → (MD (gF g) μ12) → (∀ id, id < 41 → μ12 id = μ id) → x_G l E m_X4_without (x_mv E m_X4_without (x_I (fun z m => z = (F_without g (nI h)).1 ∧ MS (F_without g (nI h)).2 m ∧ ∀ id, id < 41 → m id = μ id))) μ12 28 [(4, .int (nI i)), (3, .int m), (2, .int b), (0, .ref (E.1 + 41)), (1, .int (nI h))] [] := by
      refine x_down _ (pn (gA g)) (fun i hi11 ih10 => ?_)
      intro b m μ12 hb hm hR1 hW1 hX1 hD1 hF1
      refine x_iload 0 d_X4_without_28 rfl ?_
      refine x_aload_n 3 d_X4_without_30 rfl rfl ?_
      refine x_getr (j := 0) 42 x_c4 rfl (Nat.le_of_ble_eq_true rfl) q668 rfl d_X4_without_31 ?_
      refine x_bipush (x := 7) d_X4_without_34 (by decide) ?_
      refine x_ialdN (z := nI (pn (gA g))) 58 7 rfl rfl (by omega) (by decide) ((hR1 7 (by decide)).trans hn7) d_X4_without_36 ?_
      refine x_icmp_ge 103 d_X4_without_37 (by decide) (fun c13 => ?_) (fun c13 => ?_)
      · skip
        have hN := x_ge (N := pn (gA g)) c13 rfl rfl (by omega) (by omega)
        refine x_aload_n 3 d_X4_without_103 rfl rfl ?_
        refine x_iload_n 2 d_X4_without_104 rfl rfl ?_
        refine x_cvi (k := 41) (as := [.int b]) (c_X4_orNone l E μ12 hD1 b) v_X4_orNone w_X4_orNone q925 o_M rfl ⟨Nat.le_of_ble_eq_true rfl, Nat.le_of_ble_eq_true rfl⟩ rfl (Nat.le_of_ble_eq_true rfl) d_X4_without_105 ?_
        rintro z9 μ14 ⟨hng, hps, hF15⟩
        have hR16 := MR.cg hR1 (μ' := μ14) (fun id hid => (hF15 _ (by omega)))
        have hX17 := MX.cg hX1 (μ' := μ14) (fun id hid => (hF15 _ (by omega)))
        have hF18 : ∀ id, id < 41 → μ14 id = μ id := fun id hid => (show μ14 id = μ12 id from (hF15 _ (by omega))).trans (hF1 id hid)
        have hW19 := MW.cg hW1 (μ' := μ14) (fun id hid => (hF15 _ (by omega)))
        by_cases cON : b < 0
        · obtain ⟨rfl, hDn⟩ := hng cON
          refine x_iret rfl d_X4_without_108 ?_
          have e7 : i = pn (gA g) := by omega
          subst e7
          have e6 : ∀ q, (outTo (gA g) h (pn (gA g))).1 = some q → q < 2 ^ 31 := fun q hq => by have := outTo_lt hq; omega
          have hq : (outTo (gA g) h (pn (gA g))).1 = none := by
            cases e : (outTo (gA g) h (pn (gA g))).1 with
            | none => rfl
            | some q => exact absurd (by rw [← show b = nI q by rw [hb, e]; rfl]; exact cON) (nI_pos (e6 q e))
          have e9 : F_without g (nI h) = fin g 3 := by simp [F_without, x_b_f, x_b_t, c1, nI_clamp (n := h) (by omega), hq, orO]
          rw [e9]
          exact ⟨rfl, MS.fin hR16 hX17 hDn, hF18⟩
        · obtain ⟨hz9, hDn⟩ := hps cON
          rw [hz9]
          refine x_iret rfl d_X4_without_108 ?_
          have e7 : i = pn (gA g) := by omega
          subst e7
          have e6 : ∀ q, (outTo (gA g) h (pn (gA g))).1 = some q → q < 2 ^ 31 := fun q hq => by have := outTo_lt hq; omega
          obtain ⟨q, hq⟩ : ∃ q, (outTo (gA g) h (pn (gA g))).1 = some q := by
            cases e : (outTo (gA g) h (pn (gA g))).1 with
            | none => exact absurd (by rw [hb, e]; decide) cON
            | some q => exact ⟨q, rfl⟩
          have e5 : b = nI q := by rw [hb, hq]; rfl
          have e9 : F_without g (nI h) = (b, g) := by simp [F_without, x_b_f, x_b_t, c1, nI_clamp (n := h) (by omega), hq, orO, e5]
          rw [e9]
          exact ⟨rfl, ⟨hR16, hX17, hDn⟩, hF18⟩
      · skip
        have hN := x_lt (N := pn (gA g)) c13 rfl rfl (by omega) (by omega)
        refine x_aload_n 3 d_X4_without_40 rfl rfl ?_
        refine x_iload 0 d_X4_without_41 rfl ?_
        refine x_iconst (x := 1) d_X4_without_43 (by decide) ?_
        refine x_cvip (k := 41) (as := [.int (nI i), .int 1]) (c_X4_told l E μ12 hR1 (p := i) (w := 1) (j := 24 + 3 * i + 1) rfl (by omega)) v_X4_told w_X4_told q755 o_M rfl ⟨Nat.le_of_ble_eq_true rfl, Nat.le_of_ble_eq_true rfl⟩ rfl (Nat.le_of_ble_eq_true rfl) d_X4_without_44 ?_
        refine x_iconst (x := (-1)) d_X4_without_47 (by decide) ?_
        refine x_icmp_ne 97 d_X4_without_48 (by decide) (fun c20 => ?_) (fun c20 => ?_)
        · skip
          refine x_iinc [(4, .int (nI (i + 1))), (3, .int m), (2, .int b), (0, .ref (E.1 + 41)), (1, .int (nI h))] 0 d_X4_without_97 rfl (x_inc _) (Nat.le_of_ble_eq_true rfl) rfl ?_
          refine x_goto 28 d_X4_without_100 (by decide) ?_
          exact ih10 (i + 1) (by omega) (by omega) b m μ12 (by rw [outTo_f hm (Or.inl c20)]; exact hb) (by rw [outTo_f hm (Or.inl c20)]; exact hm) hR1 hW1 hX1 hD1 hF1
        · skip
          refine x_aload_n 3 d_X4_without_51 rfl rfl ?_
          refine x_iload 0 d_X4_without_52 rfl ?_
          refine x_iconst (x := 1) d_X4_without_54 (by decide) ?_
          refine x_aload_n 3 d_X4_without_55 rfl rfl ?_
          refine x_getr (j := 0) 42 x_c4 rfl (Nat.le_of_ble_eq_true rfl) q668 rfl d_X4_without_56 ?_
          refine x_iconst (x := 1) d_X4_without_59 (by decide) ?_
          refine x_ialdN (z := (gA g) 1) 58 1 rfl rfl (by omega) (by decide) (hR1 1 (by omega)) d_X4_without_60 ?_
          refine x_cvv (k := 41) (as := [.int (nI i), .int 1, .int ((gA g) 1)]) (c_X4_put l E μ12 (p := i) (w := 1) (j := 24 + 3 * i + 1) rfl (by omega) ((gA g) 1)) v_X4_put w_X4_put q783 o_M rfl ⟨Nat.le_of_ble_eq_true rfl, Nat.le_of_ble_eq_true rfl⟩ rfl (Nat.le_of_ble_eq_true rfl) d_X4_without_61 ?_
          intro μ21 eμ21
          have hR22 : MR (upd (gA g) (24 + 3 * i + 1) ((gA g) 1)) μ21 := MR.w hR1 eμ21
          have hX23 := MX.cg hX1 (μ' := μ21) (fun id hid => (by rw [eμ21, upd2_ne _ _ _ (by omega)]))
          have hD24 := MD.cg hD1 (μ' := μ21) (fun id hid => (by rw [eμ21, upd2_ne _ _ _ (by omega)]))
          have hF25 : ∀ id, id < 41 → μ21 id = μ id := fun id hid => (show μ21 id = μ12 id from (by rw [eμ21, upd2_ne _ _ _ (by omega)])).trans (hF1 id hid)
          have hW26 := MW.cg hW1 (μ' := μ21) (fun id hid => (by rw [eμ21, upd2_ne _ _ _ (by omega)]))
          refine x_aload_n 3 d_X4_without_64 rfl rfl ?_
          refine x_iload_n 4 d_X4_without_65 rfl rfl ?_
          refine x_cvi (k := 41) (as := [.int (nI h)]) (c_X4_getsTo l E μ21 hR22 (hWF.upW (by omega) (WF.tr hWF)) hW26 (h := h) (by omega)) v_X4_getsTo w_X4_getsTo q866 o_M rfl ⟨Nat.le_of_ble_eq_true rfl, Nat.le_of_ble_eq_true rfl⟩ rfl (Nat.le_of_ble_eq_true rfl) d_X4_without_66 ?_
          rintro _ μ27 ⟨rfl, hR28, hW29, hF30⟩
          have hX31 := MX.cg hX23 (μ' := μ27) (fun id hid => (hF30 _ (by omega)))
          have hD32 := MD.cg hD24 (μ' := μ27) (fun id hid => (hF30 _ (by omega)))
          have hF33 : ∀ id, id < 41 → μ27 id = μ id := fun id hid => (show μ27 id = μ21 id from (hF30 _ (by omega))).trans (hF25 id hid)
          refine x_istore [(5, .int (hoursF (upd (gA g) (24 + 3 * i + 1) ((gA g) 1)) h 1)), (4, .int (nI i)), (3, .int m), (2, .int b), (0, .ref (E.1 + 41)), (1, .int (nI h))] d_X4_without_69 (Nat.le_of_ble_eq_true rfl) rfl ?_
          refine x_iload 0 d_X4_without_71 rfl ?_
          refine x_iload_n 2 d_X4_without_73 rfl rfl ?_
          refine x_icmp_le 82 d_X4_without_74 (by decide) (fun c34 => ?_) (fun c34 => ?_)
          · skip
            refine x_iload_n 3 d_X4_without_82 rfl rfl ?_
            refine x_istore_n [(2, .int b), (5, .int (hoursF (upd (gA g) (24 + 3 * i + 1) ((gA g) 1)) h 1)), (4, .int (nI i)), (3, .int m), (0, .ref (E.1 + 41)), (1, .int (nI h))] d_X4_without_83 rfl (Nat.le_of_ble_eq_true rfl) rfl ?_
            refine x_iload 1 d_X4_without_84 rfl ?_
            refine x_iload_n 3 d_X4_without_86 rfl rfl ?_
            refine x_icmp_le 95 d_X4_without_87 (by decide) (fun c35 => ?_) (fun c35 => ?_)
            · skip
              refine x_iload_n 3 d_X4_without_95 rfl rfl ?_
              refine x_istore_n [(3, .int m), (2, .int b), (5, .int (hoursF (upd (gA g) (24 + 3 * i + 1) ((gA g) 1)) h 1)), (4, .int (nI i)), (0, .ref (E.1 + 41)), (1, .int (nI h))] d_X4_without_96 rfl (Nat.le_of_ble_eq_true rfl) rfl ?_
              refine x_iinc [(4, .int (nI (i + 1))), (3, .int m), (2, .int b), (5, .int (hoursF (upd (gA g) (24 + 3 * i + 1) ((gA g) 1)) h 1)), (0, .ref (E.1 + 41)), (1, .int (nI h))] 3 d_X4_without_97 rfl (x_inc _) (Nat.le_of_ble_eq_true rfl) rfl ?_
              refine x_goto 28 d_X4_without_100 (by decide) ?_
              refine x_lv [0, 1, 2, 4, 5] rfl ?_
              exact ih10 (i + 1) (by omega) (by omega) b m μ27 (by rw [outTo_f hm (Or.inr c34)]; exact hb) (by rw [outTo_f hm (Or.inr c34)]; exact hm) hR28 hW29 hX31 hD32 hF33
            · skip
              refine x_iload 1 d_X4_without_90 rfl ?_
              refine x_goto 96 d_X4_without_92 (by decide) ?_
              refine x_istore_n [(3, .int (hoursF (upd (gA g) (24 + 3 * i + 1) ((gA g) 1)) h 1)), (2, .int b), (5, .int (hoursF (upd (gA g) (24 + 3 * i + 1) ((gA g) 1)) h 1)), (4, .int (nI i)), (0, .ref (E.1 + 41)), (1, .int (nI h))] d_X4_without_96 rfl (Nat.le_of_ble_eq_true rfl) rfl ?_
              refine x_iinc [(4, .int (nI (i + 1))), (3, .int (hoursF (upd (gA g) (24 + 3 * i + 1) ((gA g) 1)) h 1)), (2, .int b), (5, .int (hoursF (upd (gA g) (24 + 3 * i + 1) ((gA g) 1)) h 1)), (0, .ref (E.1 + 41)), (1, .int (nI h))] 3 d_X4_without_97 rfl (x_inc _) (Nat.le_of_ble_eq_true rfl) rfl ?_
              refine x_goto 28 d_X4_without_100 (by decide) ?_
              refine x_lv [0, 1, 2, 4, 5] rfl ?_
              exact ih10 (i + 1) (by omega) (by omega) b (hoursF (upd (gA g) (24 + 3 * i + 1) ((gA g) 1)) h 1) μ27 (absurd c34 c35) (absurd c34 c35) hR28 hW29 hX31 hD32 hF33
          · skip
            refine x_iload 1 d_X4_without_77 rfl ?_
            refine x_goto 83 d_X4_without_79 (by decide) ?_
            refine x_istore_n [(2, .int (nI i)), (5, .int (hoursF (upd (gA g) (24 + 3 * i + 1) ((gA g) 1)) h 1)), (4, .int (nI i)), (3, .int m), (0, .ref (E.1 + 41)), (1, .int (nI h))] d_X4_without_83 rfl (Nat.le_of_ble_eq_true rfl) rfl ?_
            refine x_iload 1 d_X4_without_84 rfl ?_
            refine x_iload_n 3 d_X4_without_86 rfl rfl ?_
            refine x_icmp_le 95 d_X4_without_87 (by decide) (fun c36 => ?_) (fun c36 => ?_)
            · skip
              refine x_iload_n 3 d_X4_without_95 rfl rfl ?_
              refine x_istore_n [(3, .int m), (2, .int (nI i)), (5, .int (hoursF (upd (gA g) (24 + 3 * i + 1) ((gA g) 1)) h 1)), (4, .int (nI i)), (0, .ref (E.1 + 41)), (1, .int (nI h))] d_X4_without_96 rfl (Nat.le_of_ble_eq_true rfl) rfl ?_
              refine x_iinc [(4, .int (nI (i + 1))), (3, .int m), (2, .int (nI i)), (5, .int (hoursF (upd (gA g) (24 + 3 * i + 1) ((gA g) 1)) h 1)), (0, .ref (E.1 + 41)), (1, .int (nI h))] 3 d_X4_without_97 rfl (x_inc _) (Nat.le_of_ble_eq_true rfl) rfl ?_
              refine x_goto 28 d_X4_without_100 (by decide) ?_
              refine x_lv [0, 1, 2, 4, 5] rfl ?_
              exact ih10 (i + 1) (by omega) (by omega) (nI i) m μ27 (absurd c36 c34) (absurd c36 c34) hR28 hW29 hX31 hD32 hF33
            · skip
              refine x_iload 1 d_X4_without_90 rfl ?_
              refine x_goto 96 d_X4_without_92 (by decide) ?_
              refine x_istore_n [(3, .int (hoursF (upd (gA g) (24 + 3 * i + 1) ((gA g) 1)) h 1)), (2, .int (nI i)), (5, .int (hoursF (upd (gA g) (24 + 3 * i + 1) ((gA g) 1)) h 1)), (4, .int (nI i)), (0, .ref (E.1 + 41)), (1, .int (nI h))] d_X4_without_96 rfl (Nat.le_of_ble_eq_true rfl) rfl ?_
              refine x_iinc [(4, .int (nI (i + 1))), (3, .int (hoursF (upd (gA g) (24 + 3 * i + 1) ((gA g) 1)) h 1)), (2, .int (nI i)), (5, .int (hoursF (upd (gA g) (24 + 3 * i + 1) ((gA g) 1)) h 1)), (0, .ref (E.1 + 41)), (1, .int (nI h))] 3 d_X4_without_97 rfl (x_inc _) (Nat.le_of_ble_eq_true rfl) rfl ?_
              refine x_goto 28 d_X4_without_100 (by decide) ?_
              refine x_lv [0, 1, 2, 4, 5] rfl ?_
              exact ih10 (i + 1) (by omega) (by omega) (nI i) (hoursF (upd (gA g) (24 + 3 * i + 1) ((gA g) 1)) h 1) μ27 (by rw [outTo_t c20 hm c34] <;> rfl) (by rw [outTo_t c20 hm c34] <;> rfl) hR28 hW29 hX31 hD32 hF33
    exact L9 0 (by omega) (-1) (-1) μ2 (by rfl) (by rfl) hR5 hW3 hX6 hD7 hF8
  · skip
    refine x_aload_n 0 d_X4_without_10 rfl rfl ?_
    refine x_ldc q734 d_X4_without_11 ?_
    refine x_cvi (k := 41) (as := [.int (-1000001)]) (c_X4_finds l E μ (i := 0) hD (by decide) (w := (-1000001)) (by decide)) v_X4_finds w_X4_finds q735 o_M rfl ⟨Nat.le_of_ble_eq_true rfl, Nat.le_of_ble_eq_true rfl⟩ rfl (Nat.le_of_ble_eq_true rfl) d_X4_without_13 ?_
    rintro _ μ37 ⟨rfl, hD38, hF39⟩
    have hR40 := MR.cg hR (μ' := μ37) (fun id hid => (hF39 _ (by omega)))
    have hX41 := MX.cg hX (μ' := μ37) (fun id hid => (hF39 _ (by omega)))
    have hF42 : ∀ id, id < 41 → μ37 id = μ id := fun id hid => (show μ37 id = μ id from (hF39 _ (by omega))).trans (hF id hid)
    refine x_iret rfl d_X4_without_16 ?_
    have e9 : F_without g n = fin g 0 := by simp [F_without, x_b_f, x_b_t, c1]
    rw [e9]
    exact ⟨rfl, MS.fin hR40 hX41 hD38, hF42⟩
def m_X4_persuade : x_M := (yX4_persuade, prog_6_method_57_code, 5, (some FieldType.int), 10, 223)
theorem v_X4_persuade : x_VM m_X4_persuade 3 := ⟨q940, q6, by decide +kernel, by decide +kernel, by decide +kernel⟩
theorem w_X4_persuade : x_VI m_X4_persuade := ⟨q938, q939⟩
theorem d_X4_persuade_0 : x_dec m_X4_persuade 0 (.aload_n 0) 1 1 := ⟨by decide +kernel, rfl⟩
theorem d_X4_persuade_1 : x_dec m_X4_persuade 1 (.iload_n 1) 1 2 := ⟨by decide +kernel, rfl⟩
theorem d_X4_persuade_2 : x_dec m_X4_persuade 2 (.invokevirtual 92) 3 5 := ⟨by decide +kernel, rfl⟩
theorem d_X4_persuade_5 : x_dec m_X4_persuade 5 (.ifCond .eq 20) 3 8 := ⟨by decide +kernel, rfl⟩
theorem d_X4_persuade_8 : x_dec m_X4_persuade 8 (.iload_n 2) 1 9 := ⟨by decide +kernel, rfl⟩
theorem d_X4_persuade_9 : x_dec m_X4_persuade 9 (.invokestatic 140) 3 12 := ⟨by decide +kernel, rfl⟩
theorem d_X4_persuade_12 : x_dec m_X4_persuade 12 (.ifCond .eq 13) 3 15 := ⟨by decide +kernel, rfl⟩
theorem d_X4_persuade_15 : x_dec m_X4_persuade 15 (.iload_n 3) 1 16 := ⟨by decide +kernel, rfl⟩
theorem d_X4_persuade_16 : x_dec m_X4_persuade 16 (.iconst 0) 1 17 := ⟨by decide +kernel, rfl⟩
theorem d_X4_persuade_17 : x_dec m_X4_persuade 17 (.bipush 60) 2 19 := ⟨by decide +kernel, rfl⟩
theorem d_X4_persuade_19 : x_dec m_X4_persuade 19 (.invokestatic 46) 3 22 := ⟨by decide +kernel, rfl⟩
theorem d_X4_persuade_22 : x_dec m_X4_persuade 22 (.ifCond .ne 10) 3 25 := ⟨by decide +kernel, rfl⟩
theorem d_X4_persuade_25 : x_dec m_X4_persuade 25 (.aload_n 0) 1 26 := ⟨by decide +kernel, rfl⟩
theorem d_X4_persuade_26 : x_dec m_X4_persuade 26 (.ldc 40) 2 28 := ⟨by decide +kernel, rfl⟩
theorem d_X4_persuade_28 : x_dec m_X4_persuade 28 (.invokevirtual 42) 3 31 := ⟨by decide +kernel, rfl⟩
theorem d_X4_persuade_31 : x_dec m_X4_persuade 31 (.ireturn) 1 32 := ⟨by decide +kernel, rfl⟩
theorem d_X4_persuade_32 : x_dec m_X4_persuade 32 (.aload_n 0) 1 33 := ⟨by decide +kernel, rfl⟩
theorem d_X4_persuade_33 : x_dec m_X4_persuade 33 (.invokevirtual 134) 3 36 := ⟨by decide +kernel, rfl⟩
theorem d_X4_persuade_36 : x_dec m_X4_persuade 36 (.iconst 0) 1 37 := ⟨by decide +kernel, rfl⟩
theorem d_X4_persuade_37 : x_dec m_X4_persuade 37 (.istore 4) 2 39 := ⟨by decide +kernel, rfl⟩
theorem d_X4_persuade_39 : x_dec m_X4_persuade 39 (.iload 4) 2 41 := ⟨by decide +kernel, rfl⟩
theorem d_X4_persuade_41 : x_dec m_X4_persuade 41 (.bipush 99) 2 43 := ⟨by decide +kernel, rfl⟩
theorem d_X4_persuade_43 : x_dec m_X4_persuade 43 (.if_icmp .gt 29) 3 46 := ⟨by decide +kernel, rfl⟩
theorem d_X4_persuade_46 : x_dec m_X4_persuade 46 (.aload_n 0) 1 47 := ⟨by decide +kernel, rfl⟩
theorem d_X4_persuade_47 : x_dec m_X4_persuade 47 (.iload_n 1) 1 48 := ⟨by decide +kernel, rfl⟩
theorem d_X4_persuade_48 : x_dec m_X4_persuade 48 (.iconst 2) 1 49 := ⟨by decide +kernel, rfl⟩
theorem d_X4_persuade_49 : x_dec m_X4_persuade 49 (.iload 4) 2 51 := ⟨by decide +kernel, rfl⟩
theorem d_X4_persuade_51 : x_dec m_X4_persuade 51 (.invokevirtual 84) 3 54 := ⟨by decide +kernel, rfl⟩
theorem d_X4_persuade_54 : x_dec m_X4_persuade 54 (.aload_n 0) 1 55 := ⟨by decide +kernel, rfl⟩
theorem d_X4_persuade_55 : x_dec m_X4_persuade 55 (.iload_n 3) 1 56 := ⟨by decide +kernel, rfl⟩
theorem d_X4_persuade_56 : x_dec m_X4_persuade 56 (.invokevirtual 137) 3 59 := ⟨by decide +kernel, rfl⟩
theorem d_X4_persuade_59 : x_dec m_X4_persuade 59 (.iload_n 2) 1 60 := ⟨by decide +kernel, rfl⟩
theorem d_X4_persuade_60 : x_dec m_X4_persuade 60 (.if_icmp .lt 6) 3 63 := ⟨by decide +kernel, rfl⟩
theorem d_X4_persuade_63 : x_dec m_X4_persuade 63 (.iload 4) 2 65 := ⟨by decide +kernel, rfl⟩
theorem d_X4_persuade_65 : x_dec m_X4_persuade 65 (.ireturn) 1 66 := ⟨by decide +kernel, rfl⟩
theorem d_X4_persuade_66 : x_dec m_X4_persuade 66 (.iinc 4 1) 3 69 := ⟨by decide +kernel, rfl⟩
theorem d_X4_persuade_69 : x_dec m_X4_persuade 69 (.goto (-30)) 3 72 := ⟨by decide +kernel, rfl⟩
theorem d_X4_persuade_72 : x_dec m_X4_persuade 72 (.aload_n 0) 1 73 := ⟨by decide +kernel, rfl⟩
theorem d_X4_persuade_73 : x_dec m_X4_persuade 73 (.ldc 41) 2 75 := ⟨by decide +kernel, rfl⟩
theorem d_X4_persuade_75 : x_dec m_X4_persuade 75 (.invokevirtual 42) 3 78 := ⟨by decide +kernel, rfl⟩
theorem d_X4_persuade_78 : x_dec m_X4_persuade 78 (.ireturn) 1 79 := ⟨by decide +kernel, rfl⟩
set_option maxHeartbeats 4000000 in
set_option maxRecDepth 100000 in
theorem c_X4_persuade (l : Launch) (E : x_E) (μ : x_Mem) (g : x_SG) (hS : MS g μ) (hI : Inv g) (p y n : Int32) : x_Met l m_X4_persuade E [.ref (E.1 + 41), .int p, .int y, .int n] μ (x_I (fun z m => z = (F_persuade g p y n).1 ∧ MS (F_persuade g p y n).2 m ∧ ∀ id, id < 41 → m id = μ id)) := by
  obtain ⟨hR, hX, hD⟩ := hS
  have hWF := hI.1.1
  have hn7 := hWF.2.1
  have hpn := hWF.1
  have hF : ∀ id, id < 41 → μ id = μ id := fun _ _ => rfl
  refine x_enter (lv := [(0, .ref (E.1 + 41)), (1, .int p), (2, .int y), (3, .int n)]) (by decide +kernel) (Nat.le_of_ble_eq_true rfl) rfl ?_
  refine x_aload_n 0 d_X4_persuade_0 rfl rfl ?_
  refine x_iload_n 1 d_X4_persuade_1 rfl rfl ?_
  refine x_cvip (k := 41) (as := [.int p]) (c_X4_isOne l E μ hR hWF p) v_X4_isOne w_X4_isOne q791 o_M rfl ⟨Nat.le_of_ble_eq_true rfl, Nat.le_of_ble_eq_true rfl⟩ rfl (Nat.le_of_ble_eq_true rfl) d_X4_persuade_2 ?_
  refine x_ifb_eq 25 d_X4_persuade_5 (by decide) (fun c1 => ?_) (fun c1 => ?_)
  · skip
    refine x_aload_n 0 d_X4_persuade_25 rfl rfl ?_
    refine x_ldc q734 d_X4_persuade_26 ?_
    refine x_cvi (k := 41) (as := [.int (-1000001)]) (c_X4_finds l E μ (i := 0) hD (by decide) (w := (-1000001)) (by decide)) v_X4_finds w_X4_finds q735 o_M rfl ⟨Nat.le_of_ble_eq_true rfl, Nat.le_of_ble_eq_true rfl⟩ rfl (Nat.le_of_ble_eq_true rfl) d_X4_persuade_28 ?_
    rintro _ μ2 ⟨rfl, hD3, hF4⟩
    have hR5 := MR.cg hR (μ' := μ2) (fun id hid => (hF4 _ (by omega)))
    have hX6 := MX.cg hX (μ' := μ2) (fun id hid => (hF4 _ (by omega)))
    have hF7 : ∀ id, id < 41 → μ2 id = μ id := fun id hid => (show μ2 id = μ id from (hF4 _ (by omega))).trans (hF id hid)
    refine x_iret rfl d_X4_persuade_31 ?_
    have e9 : F_persuade g p y n = fin g 0 := by simp [F_persuade, x_b_f, x_b_t, c1]
    rw [e9]
    exact ⟨rfl, MS.fin hR5 hX6 hD3, hF7⟩
  · skip
    obtain ⟨q, hq, rfl⟩ := isP_nat hWF c1
    refine x_iload_n 2 d_X4_persuade_8 rfl rfl ?_
    refine x_csip (as := [.int y]) (c_X4_isYard l E μ y) v_X4_isYard q883 q882 rfl ⟨Nat.le_of_ble_eq_true rfl, Nat.le_of_ble_eq_true rfl⟩ rfl (Nat.le_of_ble_eq_true rfl) d_X4_persuade_9 ?_
    refine x_ifb_eq 25 d_X4_persuade_12 (by decide) (fun c8 => ?_) (fun c8 => ?_)
    · skip
      refine x_aload_n 0 d_X4_persuade_25 rfl rfl ?_
      refine x_ldc q734 d_X4_persuade_26 ?_
      refine x_cvi (k := 41) (as := [.int (-1000001)]) (c_X4_finds l E μ (i := 0) hD (by decide) (w := (-1000001)) (by decide)) v_X4_finds w_X4_finds q735 o_M rfl ⟨Nat.le_of_ble_eq_true rfl, Nat.le_of_ble_eq_true rfl⟩ rfl (Nat.le_of_ble_eq_true rfl) d_X4_persuade_28 ?_
      rintro _ μ9 ⟨rfl, hD10, hF11⟩
      have hR12 := MR.cg hR (μ' := μ9) (fun id hid => (hF11 _ (by omega)))
      have hX13 := MX.cg hX (μ' := μ9) (fun id hid => (hF11 _ (by omega)))
      have hF14 : ∀ id, id < 41 → μ9 id = μ id := fun id hid => (show μ9 id = μ id from (hF11 _ (by omega))).trans (hF id hid)
      refine x_iret rfl d_X4_persuade_31 ?_
      have e9 : F_persuade g (nI q) y n = fin g 0 := by simp [F_persuade, x_b_f, x_b_t, c1, c8, nI_clamp (n := q) (by omega)]
      rw [e9]
      exact ⟨rfl, MS.fin hR12 hX13 hD10, hF14⟩
    · skip
      refine x_iload_n 3 d_X4_persuade_15 rfl rfl ?_
      refine x_iconst (x := 0) d_X4_persuade_16 (by decide) ?_
      refine x_bipush (x := 60) d_X4_persuade_17 (by decide) ?_
      refine x_csip (as := [.int n, .int 0, .int 60]) (c_X4_in l E μ n 0 60) v_X4_in q728 q727 rfl ⟨Nat.le_of_ble_eq_true rfl, Nat.le_of_ble_eq_true rfl⟩ rfl (Nat.le_of_ble_eq_true rfl) d_X4_persuade_19 ?_
      refine x_ifb_ne 32 d_X4_persuade_22 (by decide) (fun c15 => ?_) (fun c15 => ?_)
      · skip
        obtain ⟨h, hh, rfl⟩ := inR_nat (n := 60) (by decide) c15
        refine x_aload_n 0 d_X4_persuade_32 rfl rfl ?_
        refine x_cvv (k := 41) (as := []) (c_X4_thinks l E μ hR) v_X4_thinks w_X4_thinks q859 o_M rfl ⟨Nat.le_of_ble_eq_true rfl, Nat.le_of_ble_eq_true rfl⟩ rfl (Nat.le_of_ble_eq_true rfl) d_X4_persuade_33 ?_
        rintro μ16 ⟨hW17, hF18⟩
        have hR19 := MR.cg hR (μ' := μ16) (fun id hid => (hF18 _ (by omega)))
        have hX20 := MX.cg hX (μ' := μ16) (fun id hid => (hF18 _ (by omega)))
        have hD21 := MD.cg hD (μ' := μ16) (fun id hid => (hF18 _ (by omega)))
        have hF22 : ∀ id, id < 41 → μ16 id = μ id := fun id hid => (show μ16 id = μ id from (hF18 _ (by omega))).trans (hF id hid)
        refine x_iconst (x := 0) d_X4_persuade_36 (by decide) ?_
        refine x_istore [(4, .int 0), (0, .ref (E.1 + 41)), (1, .int (nI q)), (2, .int y), (3, .int (nI h))] d_X4_persuade_37 (Nat.le_of_ble_eq_true rfl) rfl ?_
        have L23 : ∀ i : Nat, i ≤ 100 → ∀ μ26 : x_Mem, (MR (gA g) μ26) → (MW (gA g) μ26) → (MX g μ26) → (MD (gF g) μ26) → (∀ id, id < 41 → μ26 id = μ id) → (∀ j, j < i → (fun b => decide (y ≤ hoursF (upd (gA g) (24 + 3 * q + 2) (nI b)) h 1)) j = false) → x_G l E m_X4_persuade (x_mv E m_X4_persuade (x_I (fun z m => z = (F_persuade g (nI q) y (nI h)).1 ∧ MS (F_persuade g (nI q) y (nI h)).2 m ∧ ∀ id, id < 41 → m id = μ id))) μ26 39 [(4, .int (nI i)), (0, .ref (E.1 + 41)), (1, .int (nI q)), (2, .int y), (3, .int (nI h))] [] := by
          refine x_down _ 100 (fun i hi25 ih24 => ?_)
          intro μ26 hR1 hW1 hX1 hD1 hF1 hq1
          refine x_iload 0 d_X4_persuade_39 rfl ?_
          refine x_bipush (x := 99) d_X4_persuade_41 (by decide) ?_
          refine x_icmp_gt 72 d_X4_persuade_43 (by decide) (fun c27 => ?_) (fun c27 => ?_)
          · skip
            have hN := (nI_ltI (a := 99) (b := i) (by omega) (by omega)).mp c27
            refine x_aload_n 1 d_X4_persuade_72 rfl rfl ?_
            refine x_ldc q885 d_X4_persuade_73 ?_
            refine x_cvi (k := 41) (as := [.int (-1000004)]) (c_X4_finds l E μ26 (i := 3) hD1 (by decide) (w := (-1000004)) (by decide)) v_X4_finds w_X4_finds q735 o_M rfl ⟨Nat.le_of_ble_eq_true rfl, Nat.le_of_ble_eq_true rfl⟩ rfl (Nat.le_of_ble_eq_true rfl) d_X4_persuade_75 ?_
            rintro _ μ28 ⟨rfl, hD29, hF30⟩
            have hR31 := MR.cg hR1 (μ' := μ28) (fun id hid => (hF30 _ (by omega)))
            have hX32 := MX.cg hX1 (μ' := μ28) (fun id hid => (hF30 _ (by omega)))
            have hF33 : ∀ id, id < 41 → μ28 id = μ id := fun id hid => (show μ28 id = μ26 id from (hF30 _ (by omega))).trans (hF1 id hid)
            have hW34 := MW.cg hW1 (μ' := μ28) (fun id hid => (hF30 _ (by omega)))
            refine x_iret rfl d_X4_persuade_78 ?_
            have e7 : i = 100 := by omega
            subst e7
            have e8 := firstN_none hq1
            have e9 : F_persuade g (nI q) y (nI h) = fin g 3 := by simp [F_persuade, x_b_f, x_b_t, c1, c8, c15, nI_clamp (n := q) (by omega), nI_clamp (n := h) (by omega), e8, orN]
            rw [e9]
            exact ⟨rfl, MS.fin hR31 hX32 hD29, hF33⟩
          · skip
            have hN : ¬ 99 < i := fun z => c27 (nI_lt z (by omega))
            refine x_aload_n 1 d_X4_persuade_46 rfl rfl ?_
            refine x_iload_n 2 d_X4_persuade_47 rfl rfl ?_
            refine x_iconst (x := 2) d_X4_persuade_48 (by decide) ?_
            refine x_iload 0 d_X4_persuade_49 rfl ?_
            refine x_cvv (k := 41) (as := [.int (nI q), .int 2, .int (nI i)]) (c_X4_put l E μ26 (p := q) (w := 2) (j := 24 + 3 * q + 2) rfl (by omega) (nI i)) v_X4_put w_X4_put q783 o_M rfl ⟨Nat.le_of_ble_eq_true rfl, Nat.le_of_ble_eq_true rfl⟩ rfl (Nat.le_of_ble_eq_true rfl) d_X4_persuade_51 ?_
            intro μ35 eμ35
            have hR36 : MR (upd (gA g) (24 + 3 * q + 2) (nI i)) μ35 := MR.w hR1 eμ35
            have hX37 := MX.cg hX1 (μ' := μ35) (fun id hid => (by rw [eμ35, upd2_ne _ _ _ (by omega)]))
            have hD38 := MD.cg hD1 (μ' := μ35) (fun id hid => (by rw [eμ35, upd2_ne _ _ _ (by omega)]))
            have hF39 : ∀ id, id < 41 → μ35 id = μ id := fun id hid => (show μ35 id = μ26 id from (by rw [eμ35, upd2_ne _ _ _ (by omega)])).trans (hF1 id hid)
            have hW40 := MW.cg hW1 (μ' := μ35) (fun id hid => (by rw [eμ35, upd2_ne _ _ _ (by omega)]))
            refine x_aload_n 1 d_X4_persuade_54 rfl rfl ?_
            refine x_iload_n 4 d_X4_persuade_55 rfl rfl ?_
            refine x_cvi (k := 41) (as := [.int (nI h)]) (c_X4_getsTo l E μ35 hR36 (hWF.upB (k := i) (by omega) (by omega)) hW40 (h := h) (by omega)) v_X4_getsTo w_X4_getsTo q866 o_M rfl ⟨Nat.le_of_ble_eq_true rfl, Nat.le_of_ble_eq_true rfl⟩ rfl (Nat.le_of_ble_eq_true rfl) d_X4_persuade_56 ?_
            rintro _ μ41 ⟨rfl, hR42, hW43, hF44⟩
            have hX45 := MX.cg hX37 (μ' := μ41) (fun id hid => (hF44 _ (by omega)))
            have hD46 := MD.cg hD38 (μ' := μ41) (fun id hid => (hF44 _ (by omega)))
            have hF47 : ∀ id, id < 41 → μ41 id = μ id := fun id hid => (show μ41 id = μ35 id from (hF44 _ (by omega))).trans (hF39 id hid)
            refine x_iload_n 3 d_X4_persuade_59 rfl rfl ?_
            refine x_icmp_lt 66 d_X4_persuade_60 (by decide) (fun c48 => ?_) (fun c48 => ?_)
            · skip
              refine x_iinc [(4, .int (nI (i + 1))), (0, .ref (E.1 + 41)), (1, .int (nI q)), (2, .int y), (3, .int (nI h))] 0 d_X4_persuade_66 rfl (x_inc _) (Nat.le_of_ble_eq_true rfl) rfl ?_
              refine x_goto 39 d_X4_persuade_69 (by decide) ?_
              exact ih24 (i + 1) (by omega) (by omega) μ41 hR42 hW43 hX45 hD46 hF47 (lt_s hq1 (decide_eq_false (Int32.not_le.mpr c48)))
            · skip
              refine x_iload 0 d_X4_persuade_63 rfl ?_
              refine x_iret rfl d_X4_persuade_65 ?_
              have e8 := firstN_some (f := (fun b => decide (y ≤ hoursF (upd (gA g) (24 + 3 * q + 2) (nI b)) h 1))) (n := 100) (i := i) (by omega) (decide_eq_true (Int32.not_lt.mp c48)) hq1
              have e9 : F_persuade g (nI q) y (nI h) = (nI i, g) := by simp [F_persuade, x_b_f, x_b_t, c1, c8, c15, nI_clamp (n := q) (by omega), nI_clamp (n := h) (by omega), e8, orN, show i < 100 by omega]
              rw [e9]
              exact ⟨rfl, ⟨hR42, hX45, hD46⟩, hF47⟩
        exact L23 0 (by omega) μ16 hR19 hW17 hX20 hD21 hF22 (fun _ h => absurd h (Nat.not_lt_zero _))
      · skip
        refine x_aload_n 0 d_X4_persuade_25 rfl rfl ?_
        refine x_ldc q734 d_X4_persuade_26 ?_
        refine x_cvi (k := 41) (as := [.int (-1000001)]) (c_X4_finds l E μ (i := 0) hD (by decide) (w := (-1000001)) (by decide)) v_X4_finds w_X4_finds q735 o_M rfl ⟨Nat.le_of_ble_eq_true rfl, Nat.le_of_ble_eq_true rfl⟩ rfl (Nat.le_of_ble_eq_true rfl) d_X4_persuade_28 ?_
        rintro _ μ49 ⟨rfl, hD50, hF51⟩
        have hR52 := MR.cg hR (μ' := μ49) (fun id hid => (hF51 _ (by omega)))
        have hX53 := MX.cg hX (μ' := μ49) (fun id hid => (hF51 _ (by omega)))
        have hF54 : ∀ id, id < 41 → μ49 id = μ id := fun id hid => (show μ49 id = μ id from (hF51 _ (by omega))).trans (hF id hid)
        refine x_iret rfl d_X4_persuade_31 ?_
        have e9 : F_persuade g (nI q) y n = fin g 0 := by simp [F_persuade, x_b_f, x_b_t, c1, c8, c15, nI_clamp (n := q) (by omega)]
        rw [e9]
        exact ⟨rfl, MS.fin hR52 hX53 hD50, hF54⟩
def m_X4_bears : x_M := (yX4_bears, prog_6_method_58_code, 4, (some FieldType.int), 10, 223)
theorem v_X4_bears : x_VM m_X4_bears 2 := ⟨q944, q6, by decide +kernel, by decide +kernel, by decide +kernel⟩
theorem w_X4_bears : x_VI m_X4_bears := ⟨q942, q943⟩
theorem d_X4_bears_0 : x_dec m_X4_bears 0 (.iload_n 1) 1 1 := ⟨by decide +kernel, rfl⟩
theorem d_X4_bears_1 : x_dec m_X4_bears 1 (.invokestatic 78) 3 4 := ⟨by decide +kernel, rfl⟩
theorem d_X4_bears_4 : x_dec m_X4_bears 4 (.ifCond .eq 13) 3 7 := ⟨by decide +kernel, rfl⟩
theorem d_X4_bears_7 : x_dec m_X4_bears 7 (.iload_n 2) 1 8 := ⟨by decide +kernel, rfl⟩
theorem d_X4_bears_8 : x_dec m_X4_bears 8 (.iconst 0) 1 9 := ⟨by decide +kernel, rfl⟩
theorem d_X4_bears_9 : x_dec m_X4_bears 9 (.bipush 60) 2 11 := ⟨by decide +kernel, rfl⟩
theorem d_X4_bears_11 : x_dec m_X4_bears 11 (.invokestatic 46) 3 14 := ⟨by decide +kernel, rfl⟩
theorem d_X4_bears_14 : x_dec m_X4_bears 14 (.ifCond .ne 10) 3 17 := ⟨by decide +kernel, rfl⟩
theorem d_X4_bears_17 : x_dec m_X4_bears 17 (.aload_n 0) 1 18 := ⟨by decide +kernel, rfl⟩
theorem d_X4_bears_18 : x_dec m_X4_bears 18 (.ldc 40) 2 20 := ⟨by decide +kernel, rfl⟩
theorem d_X4_bears_20 : x_dec m_X4_bears 20 (.invokevirtual 42) 3 23 := ⟨by decide +kernel, rfl⟩
theorem d_X4_bears_23 : x_dec m_X4_bears 23 (.ireturn) 1 24 := ⟨by decide +kernel, rfl⟩
theorem d_X4_bears_24 : x_dec m_X4_bears 24 (.aload_n 0) 1 25 := ⟨by decide +kernel, rfl⟩
theorem d_X4_bears_25 : x_dec m_X4_bears 25 (.invokevirtual 134) 3 28 := ⟨by decide +kernel, rfl⟩
theorem d_X4_bears_28 : x_dec m_X4_bears 28 (.sipush 999) 3 31 := ⟨by decide +kernel, rfl⟩
theorem d_X4_bears_31 : x_dec m_X4_bears 31 (.istore_n 3) 1 32 := ⟨by decide +kernel, rfl⟩
theorem d_X4_bears_32 : x_dec m_X4_bears 32 (.iload_n 3) 1 33 := ⟨by decide +kernel, rfl⟩
theorem d_X4_bears_33 : x_dec m_X4_bears 33 (.ifCond .lt 30) 3 36 := ⟨by decide +kernel, rfl⟩
theorem d_X4_bears_36 : x_dec m_X4_bears 36 (.aload_n 0) 1 37 := ⟨by decide +kernel, rfl⟩
theorem d_X4_bears_37 : x_dec m_X4_bears 37 (.getfield 9) 3 40 := ⟨by decide +kernel, rfl⟩
theorem d_X4_bears_40 : x_dec m_X4_bears 40 (.bipush 8) 2 42 := ⟨by decide +kernel, rfl⟩
theorem d_X4_bears_42 : x_dec m_X4_bears 42 (.iload_n 1) 1 43 := ⟨by decide +kernel, rfl⟩
theorem d_X4_bears_43 : x_dec m_X4_bears 43 (.iadd) 1 44 := ⟨by decide +kernel, rfl⟩
theorem d_X4_bears_44 : x_dec m_X4_bears 44 (.iload_n 3) 1 45 := ⟨by decide +kernel, rfl⟩
theorem d_X4_bears_45 : x_dec m_X4_bears 45 (.iastore) 1 46 := ⟨by decide +kernel, rfl⟩
theorem d_X4_bears_46 : x_dec m_X4_bears 46 (.aload_n 0) 1 47 := ⟨by decide +kernel, rfl⟩
theorem d_X4_bears_47 : x_dec m_X4_bears 47 (.iload_n 2) 1 48 := ⟨by decide +kernel, rfl⟩
theorem d_X4_bears_48 : x_dec m_X4_bears 48 (.invokevirtual 137) 3 51 := ⟨by decide +kernel, rfl⟩
theorem d_X4_bears_51 : x_dec m_X4_bears 51 (.iload_n 1) 1 52 := ⟨by decide +kernel, rfl⟩
theorem d_X4_bears_52 : x_dec m_X4_bears 52 (.if_icmp .le 5) 3 55 := ⟨by decide +kernel, rfl⟩
theorem d_X4_bears_55 : x_dec m_X4_bears 55 (.iload_n 3) 1 56 := ⟨by decide +kernel, rfl⟩
theorem d_X4_bears_56 : x_dec m_X4_bears 56 (.ireturn) 1 57 := ⟨by decide +kernel, rfl⟩
theorem d_X4_bears_57 : x_dec m_X4_bears 57 (.iinc 3 (-1)) 3 60 := ⟨by decide +kernel, rfl⟩
theorem d_X4_bears_60 : x_dec m_X4_bears 60 (.goto (-28)) 3 63 := ⟨by decide +kernel, rfl⟩
theorem d_X4_bears_63 : x_dec m_X4_bears 63 (.aload_n 0) 1 64 := ⟨by decide +kernel, rfl⟩
theorem d_X4_bears_64 : x_dec m_X4_bears 64 (.ldc 41) 2 66 := ⟨by decide +kernel, rfl⟩
theorem d_X4_bears_66 : x_dec m_X4_bears 66 (.invokevirtual 42) 3 69 := ⟨by decide +kernel, rfl⟩
theorem d_X4_bears_69 : x_dec m_X4_bears 69 (.ireturn) 1 70 := ⟨by decide +kernel, rfl⟩
set_option maxHeartbeats 4000000 in
set_option maxRecDepth 100000 in
theorem c_X4_bears (l : Launch) (E : x_E) (μ : x_Mem) (g : x_SG) (hS : MS g μ) (hI : Inv g) (k n : Int32) : x_Met l m_X4_bears E [.ref (E.1 + 41), .int k, .int n] μ (x_I (fun z m => z = (F_bears g k n).1 ∧ MS (F_bears g k n).2 m ∧ ∀ id, id < 41 → m id = μ id)) := by
  obtain ⟨hR, hX, hD⟩ := hS
  have hWF := hI.1.1
  have hn7 := hWF.2.1
  have hpn := hWF.1
  have hF : ∀ id, id < 41 → μ id = μ id := fun _ _ => rfl
  refine x_enter (lv := [(0, .ref (E.1 + 41)), (1, .int k), (2, .int n)]) (by decide +kernel) (Nat.le_of_ble_eq_true rfl) rfl ?_
  refine x_iload_n 1 d_X4_bears_0 rfl rfl ?_
  refine x_csip (as := [.int k]) (c_X4_isStretch l E μ k) v_X4_isStretch q725 q724 rfl ⟨Nat.le_of_ble_eq_true rfl, Nat.le_of_ble_eq_true rfl⟩ rfl (Nat.le_of_ble_eq_true rfl) d_X4_bears_1 ?_
  refine x_ifb_eq 17 d_X4_bears_4 (by decide) (fun c1 => ?_) (fun c1 => ?_)
  · skip
    refine x_aload_n 0 d_X4_bears_17 rfl rfl ?_
    refine x_ldc q734 d_X4_bears_18 ?_
    refine x_cvi (k := 41) (as := [.int (-1000001)]) (c_X4_finds l E μ (i := 0) hD (by decide) (w := (-1000001)) (by decide)) v_X4_finds w_X4_finds q735 o_M rfl ⟨Nat.le_of_ble_eq_true rfl, Nat.le_of_ble_eq_true rfl⟩ rfl (Nat.le_of_ble_eq_true rfl) d_X4_bears_20 ?_
    rintro _ μ2 ⟨rfl, hD3, hF4⟩
    have hR5 := MR.cg hR (μ' := μ2) (fun id hid => (hF4 _ (by omega)))
    have hX6 := MX.cg hX (μ' := μ2) (fun id hid => (hF4 _ (by omega)))
    have hF7 : ∀ id, id < 41 → μ2 id = μ id := fun id hid => (show μ2 id = μ id from (hF4 _ (by omega))).trans (hF id hid)
    refine x_iret rfl d_X4_bears_23 ?_
    have e9 : F_bears g k n = fin g 0 := by simp [F_bears, x_b_f, x_b_t, c1]
    rw [e9]
    exact ⟨rfl, MS.fin hR5 hX6 hD3, hF7⟩
  · skip
    obtain ⟨kk, hkk, rfl⟩ := inR_nat (n := 15) (by decide) c1
    refine x_iload_n 2 d_X4_bears_7 rfl rfl ?_
    refine x_iconst (x := 0) d_X4_bears_8 (by decide) ?_
    refine x_bipush (x := 60) d_X4_bears_9 (by decide) ?_
    refine x_csip (as := [.int n, .int 0, .int 60]) (c_X4_in l E μ n 0 60) v_X4_in q728 q727 rfl ⟨Nat.le_of_ble_eq_true rfl, Nat.le_of_ble_eq_true rfl⟩ rfl (Nat.le_of_ble_eq_true rfl) d_X4_bears_11 ?_
    refine x_ifb_ne 24 d_X4_bears_14 (by decide) (fun c8 => ?_) (fun c8 => ?_)
    · skip
      obtain ⟨h, hh, rfl⟩ := inR_nat (n := 60) (by decide) c8
      refine x_aload_n 0 d_X4_bears_24 rfl rfl ?_
      refine x_cvv (k := 41) (as := []) (c_X4_thinks l E μ hR) v_X4_thinks w_X4_thinks q859 o_M rfl ⟨Nat.le_of_ble_eq_true rfl, Nat.le_of_ble_eq_true rfl⟩ rfl (Nat.le_of_ble_eq_true rfl) d_X4_bears_25 ?_
      rintro μ9 ⟨hW10, hF11⟩
      have hR12 := MR.cg hR (μ' := μ9) (fun id hid => (hF11 _ (by omega)))
      have hX13 := MX.cg hX (μ' := μ9) (fun id hid => (hF11 _ (by omega)))
      have hD14 := MD.cg hD (μ' := μ9) (fun id hid => (hF11 _ (by omega)))
      have hF15 : ∀ id, id < 41 → μ9 id = μ id := fun id hid => (show μ9 id = μ id from (hF11 _ (by omega))).trans (hF id hid)
      refine x_sipush (x := 999) d_X4_bears_28 (by decide) ?_
      refine x_istore_n [(3, .int 999), (0, .ref (E.1 + 41)), (1, .int (nI kk)), (2, .int (nI h))] d_X4_bears_31 rfl (Nat.le_of_ble_eq_true rfl) rfl ?_
      rw [show (999 : Int32) = nI (1000 - 0) - 1 from rfl]
      have L16 : ∀ m : Nat, m ≤ 1000 → ∀ μ19 : x_Mem, (MR (gA g) μ19) → (MW (gA g) μ19) → (MX g μ19) → (MD (gF g) μ19) → (∀ id, id < 41 → μ19 id = μ id) → (∀ w, 1000 - m ≤ w → w < 1000 → (fun v => decide (nI kk < hoursF (upd (gA g) (8 + kk) (nI v)) h 1)) w = false) → x_G l E m_X4_bears (x_mv E m_X4_bears (x_I (fun z m => z = (F_bears g (nI kk) (nI h)).1 ∧ MS (F_bears g (nI kk) (nI h)).2 m ∧ ∀ id, id < 41 → m id = μ id))) μ19 32 [(3, .int (nI (1000 - m) - 1)), (0, .ref (E.1 + 41)), (1, .int (nI kk)), (2, .int (nI h))] [] := by
        refine x_down _ 1000 (fun m hi18 ih17 => ?_)
        intro μ19 hR1 hW1 hX1 hD1 hF1 hq1
        refine x_iload_n 0 d_X4_bears_32 rfl rfl ?_
        rcases Nat.lt_or_ge m 1000 with hm | hm
        · rw [dn_up hm]
          refine x_if_lt 63 d_X4_bears_33 (by decide) (fun c20 => ?_) (fun c20 => ?_)
          · skip
            exact absurd c20 (nI_pos (by omega))
          · skip
            refine x_aload_n 1 d_X4_bears_36 rfl rfl ?_
            refine x_getr (j := 0) 42 x_c4 rfl (Nat.le_of_ble_eq_true rfl) q668 rfl d_X4_bears_37 ?_
            refine x_bipush (x := 8) d_X4_bears_40 (by decide) ?_
            refine x_iload_n 2 d_X4_bears_42 rfl rfl ?_
            refine x_iadd d_X4_bears_43 ?_
            rw [show (8 : Int32) + (nI kk) = nI (8 + kk) from nI_add 8 kk]
            refine x_iload_n 0 d_X4_bears_44 rfl rfl ?_
            refine x_iastNG 58 (8 + kk) rfl rfl (by omega) (by decide) d_X4_bears_45 (fun μ21 eμ21 => ?_)
            have hR22 : MR (upd (gA g) ((8 + kk)) (nI (1000 - 1 - m))) μ21 := MR.w hR1 eμ21
            have hX23 := MX.cg hX1 (μ' := μ21) (fun id hid => (by rw [eμ21, upd2_ne _ _ _ (by omega)]))
            have hD24 := MD.cg hD1 (μ' := μ21) (fun id hid => (by rw [eμ21, upd2_ne _ _ _ (by omega)]))
            have hF25 : ∀ id, id < 41 → μ21 id = μ id := fun id hid => (show μ21 id = μ19 id from (by rw [eμ21, upd2_ne _ _ _ (by omega)])).trans (hF1 id hid)
            have hW26 := MW.cg hW1 (μ' := μ21) (fun id hid => (by rw [eμ21, upd2_ne _ _ _ (by omega)]))
            refine x_aload_n 1 d_X4_bears_46 rfl rfl ?_
            refine x_iload_n 3 d_X4_bears_47 rfl rfl ?_
            refine x_cvi (k := 41) (as := [.int (nI h)]) (c_X4_getsTo l E μ21 hR22 (hWF.upN (Or.inr (Or.inr (Or.inl (by omega)))) _) hW26 (h := h) (by omega)) v_X4_getsTo w_X4_getsTo q866 o_M rfl ⟨Nat.le_of_ble_eq_true rfl, Nat.le_of_ble_eq_true rfl⟩ rfl (Nat.le_of_ble_eq_true rfl) d_X4_bears_48 ?_
            rintro _ μ27 ⟨rfl, hR28, hW29, hF30⟩
            have hX31 := MX.cg hX23 (μ' := μ27) (fun id hid => (hF30 _ (by omega)))
            have hD32 := MD.cg hD24 (μ' := μ27) (fun id hid => (hF30 _ (by omega)))
            have hF33 : ∀ id, id < 41 → μ27 id = μ id := fun id hid => (show μ27 id = μ21 id from (hF30 _ (by omega))).trans (hF25 id hid)
            refine x_iload_n 2 d_X4_bears_51 rfl rfl ?_
            refine x_icmp_le 57 d_X4_bears_52 (by decide) (fun c34 => ?_) (fun c34 => ?_)
            · skip
              refine x_iinc [(3, .int ((nI (1000 - 1 - m)) + (-1))), (0, .ref (E.1 + 41)), (1, .int (nI kk)), (2, .int (nI h))] 0 d_X4_bears_57 rfl rfl (Nat.le_of_ble_eq_true rfl) rfl ?_
              rw [app_nx]
              refine x_goto 32 d_X4_bears_60 (by decide) ?_
              exact ih17 (m + 1) (by omega) (by omega) μ27 hR28 hW29 hX31 hD32 hF33 (down_s hm hq1 (decide_eq_false (Int32.not_lt.mpr c34)))
            · skip
              refine x_iload_n 0 d_X4_bears_55 rfl rfl ?_
              refine x_iret rfl d_X4_bears_56 ?_
              have e8 := last_some (f := (fun v => decide (nI kk < hoursF (upd (gA g) (8 + kk) (nI v)) h 1))) (n := 1000) (v := 1000 - 1 - m) (by omega) (decide_eq_true (Int32.not_le.mp c34)) (fun w h1 h2 => hq1 w (by omega) h2)
              have e9 : F_bears g (nI kk) (nI h) = (nI (1000 - 1 - m), g) := by simp [F_bears, x_b_f, x_b_t, c1, c8, nI_clamp (n := kk) (by omega), nI_clamp (n := h) (by omega), e8, orO]
              rw [e9]
              exact ⟨rfl, ⟨hR28, hX31, hD32⟩, hF33⟩
        · rw [show nI (1000 - m) - 1 = -1 from by rw [show 1000 - m = 0 by omega]; decide]
          refine x_if_lt 63 d_X4_bears_33 (by decide) (fun c35 => ?_) (fun c35 => ?_)
          rotate_left
          · exact absurd c35 (by decide)
          refine x_aload_n 1 d_X4_bears_63 rfl rfl ?_
          refine x_ldc q885 d_X4_bears_64 ?_
          refine x_cvi (k := 41) (as := [.int (-1000004)]) (c_X4_finds l E μ19 (i := 3) hD1 (by decide) (w := (-1000004)) (by decide)) v_X4_finds w_X4_finds q735 o_M rfl ⟨Nat.le_of_ble_eq_true rfl, Nat.le_of_ble_eq_true rfl⟩ rfl (Nat.le_of_ble_eq_true rfl) d_X4_bears_66 ?_
          rintro _ μ36 ⟨rfl, hD37, hF38⟩
          have hR39 := MR.cg hR1 (μ' := μ36) (fun id hid => (hF38 _ (by omega)))
          have hX40 := MX.cg hX1 (μ' := μ36) (fun id hid => (hF38 _ (by omega)))
          have hF41 : ∀ id, id < 41 → μ36 id = μ id := fun id hid => (show μ36 id = μ19 id from (hF38 _ (by omega))).trans (hF1 id hid)
          have hW42 := MW.cg hW1 (μ' := μ36) (fun id hid => (hF38 _ (by omega)))
          refine x_iret rfl d_X4_bears_69 ?_
          have e8 := last_none (f := (fun v => decide (nI kk < hoursF (upd (gA g) (8 + kk) (nI v)) h 1))) (n := 1000) (fun w hw => hq1 w (by omega) hw)
          have e9 : F_bears g (nI kk) (nI h) = fin g 3 := by simp [F_bears, x_b_f, x_b_t, c1, c8, nI_clamp (n := kk) (by omega), nI_clamp (n := h) (by omega), e8, orO]
          rw [e9]
          exact ⟨rfl, MS.fin hR39 hX40 hD37, hF41⟩
      exact L16 0 (by omega) μ9 hR12 hW10 hX13 hD14 hF15 (fun _ h1 h2 => absurd h1 (by omega))
    · skip
      refine x_aload_n 0 d_X4_bears_17 rfl rfl ?_
      refine x_ldc q734 d_X4_bears_18 ?_
      refine x_cvi (k := 41) (as := [.int (-1000001)]) (c_X4_finds l E μ (i := 0) hD (by decide) (w := (-1000001)) (by decide)) v_X4_finds w_X4_finds q735 o_M rfl ⟨Nat.le_of_ble_eq_true rfl, Nat.le_of_ble_eq_true rfl⟩ rfl (Nat.le_of_ble_eq_true rfl) d_X4_bears_20 ?_
      rintro _ μ43 ⟨rfl, hD44, hF45⟩
      have hR46 := MR.cg hR (μ' := μ43) (fun id hid => (hF45 _ (by omega)))
      have hX47 := MX.cg hX (μ' := μ43) (fun id hid => (hF45 _ (by omega)))
      have hF48 : ∀ id, id < 41 → μ43 id = μ id := fun id hid => (show μ43 id = μ id from (hF45 _ (by omega))).trans (hF id hid)
      refine x_iret rfl d_X4_bears_23 ?_
      have e9 : F_bears g (nI kk) n = fin g 0 := by simp [F_bears, x_b_f, x_b_t, c1, c8, nI_clamp (n := kk) (by omega)]
      rw [e9]
      exact ⟨rfl, MS.fin hR46 hX47 hD44, hF48⟩
def m_X4_isSettled : x_M := (yX4_isSettled, prog_6_method_47_code, 3, (some FieldType.boolean), 8, 179)
theorem v_X4_isSettled : x_VM m_X4_isSettled 0 := ⟨q897, q6, by decide +kernel, by decide +kernel, by decide +kernel⟩
theorem w_X4_isSettled : x_VI m_X4_isSettled := ⟨q896, qs42⟩
theorem d_X4_isSettled_0 : x_dec m_X4_isSettled 0 (.aload_n 0) 1 1 := ⟨by decide +kernel, rfl⟩
theorem d_X4_isSettled_1 : x_dec m_X4_isSettled 1 (.getfield 9) 3 4 := ⟨by decide +kernel, rfl⟩
theorem d_X4_isSettled_4 : x_dec m_X4_isSettled 4 (.aload_n 0) 1 5 := ⟨by decide +kernel, rfl⟩
theorem d_X4_isSettled_5 : x_dec m_X4_isSettled 5 (.getfield 25) 3 8 := ⟨by decide +kernel, rfl⟩
theorem d_X4_isSettled_8 : x_dec m_X4_isSettled 8 (.invokestatic 127) 3 11 := ⟨by decide +kernel, rfl⟩
theorem d_X4_isSettled_11 : x_dec m_X4_isSettled 11 (.aload_n 0) 1 12 := ⟨by decide +kernel, rfl⟩
theorem d_X4_isSettled_12 : x_dec m_X4_isSettled 12 (.invokevirtual 110) 3 15 := ⟨by decide +kernel, rfl⟩
theorem d_X4_isSettled_15 : x_dec m_X4_isSettled 15 (.aload_n 0) 1 16 := ⟨by decide +kernel, rfl⟩
theorem d_X4_isSettled_16 : x_dec m_X4_isSettled 16 (.getfield 9) 3 19 := ⟨by decide +kernel, rfl⟩
theorem d_X4_isSettled_19 : x_dec m_X4_isSettled 19 (.iconst 1) 1 20 := ⟨by decide +kernel, rfl⟩
theorem d_X4_isSettled_20 : x_dec m_X4_isSettled 20 (.iaload) 1 21 := ⟨by decide +kernel, rfl⟩
theorem d_X4_isSettled_21 : x_dec m_X4_isSettled 21 (.aload_n 0) 1 22 := ⟨by decide +kernel, rfl⟩
theorem d_X4_isSettled_22 : x_dec m_X4_isSettled 22 (.getfield 25) 3 25 := ⟨by decide +kernel, rfl⟩
theorem d_X4_isSettled_25 : x_dec m_X4_isSettled 25 (.iconst 1) 1 26 := ⟨by decide +kernel, rfl⟩
theorem d_X4_isSettled_26 : x_dec m_X4_isSettled 26 (.iaload) 1 27 := ⟨by decide +kernel, rfl⟩
theorem d_X4_isSettled_27 : x_dec m_X4_isSettled 27 (.if_icmp .ne 7) 3 30 := ⟨by decide +kernel, rfl⟩
theorem d_X4_isSettled_30 : x_dec m_X4_isSettled 30 (.iconst 1) 1 31 := ⟨by decide +kernel, rfl⟩
theorem d_X4_isSettled_31 : x_dec m_X4_isSettled 31 (.goto 4) 3 34 := ⟨by decide +kernel, rfl⟩
theorem d_X4_isSettled_34 : x_dec m_X4_isSettled 34 (.iconst 0) 1 35 := ⟨by decide +kernel, rfl⟩
theorem d_X4_isSettled_35 : x_dec m_X4_isSettled 35 (.istore_n 1) 1 36 := ⟨by decide +kernel, rfl⟩
theorem d_X4_isSettled_36 : x_dec m_X4_isSettled 36 (.iconst 0) 1 37 := ⟨by decide +kernel, rfl⟩
theorem d_X4_isSettled_37 : x_dec m_X4_isSettled 37 (.istore_n 2) 1 38 := ⟨by decide +kernel, rfl⟩
theorem d_X4_isSettled_38 : x_dec m_X4_isSettled 38 (.iload_n 2) 1 39 := ⟨by decide +kernel, rfl⟩
theorem d_X4_isSettled_39 : x_dec m_X4_isSettled 39 (.aload_n 0) 1 40 := ⟨by decide +kernel, rfl⟩
theorem d_X4_isSettled_40 : x_dec m_X4_isSettled 40 (.getfield 9) 3 43 := ⟨by decide +kernel, rfl⟩
theorem d_X4_isSettled_43 : x_dec m_X4_isSettled 43 (.bipush 7) 2 45 := ⟨by decide +kernel, rfl⟩
theorem d_X4_isSettled_45 : x_dec m_X4_isSettled 45 (.iaload) 1 46 := ⟨by decide +kernel, rfl⟩
theorem d_X4_isSettled_46 : x_dec m_X4_isSettled 46 (.if_icmp .ge 41) 3 49 := ⟨by decide +kernel, rfl⟩
theorem d_X4_isSettled_49 : x_dec m_X4_isSettled 49 (.iload_n 1) 1 50 := ⟨by decide +kernel, rfl⟩
theorem d_X4_isSettled_50 : x_dec m_X4_isSettled 50 (.ifCond .eq 29) 3 53 := ⟨by decide +kernel, rfl⟩
theorem d_X4_isSettled_53 : x_dec m_X4_isSettled 53 (.aload_n 0) 1 54 := ⟨by decide +kernel, rfl⟩
theorem d_X4_isSettled_54 : x_dec m_X4_isSettled 54 (.iload_n 2) 1 55 := ⟨by decide +kernel, rfl⟩
theorem d_X4_isSettled_55 : x_dec m_X4_isSettled 55 (.iconst 2) 1 56 := ⟨by decide +kernel, rfl⟩
theorem d_X4_isSettled_56 : x_dec m_X4_isSettled 56 (.invokevirtual 50) 3 59 := ⟨by decide +kernel, rfl⟩
theorem d_X4_isSettled_59 : x_dec m_X4_isSettled 59 (.aload_n 0) 1 60 := ⟨by decide +kernel, rfl⟩
theorem d_X4_isSettled_60 : x_dec m_X4_isSettled 60 (.getfield 25) 3 63 := ⟨by decide +kernel, rfl⟩
theorem d_X4_isSettled_63 : x_dec m_X4_isSettled 63 (.bipush 24) 2 65 := ⟨by decide +kernel, rfl⟩
theorem d_X4_isSettled_65 : x_dec m_X4_isSettled 65 (.iconst 3) 1 66 := ⟨by decide +kernel, rfl⟩
theorem d_X4_isSettled_66 : x_dec m_X4_isSettled 66 (.iload_n 2) 1 67 := ⟨by decide +kernel, rfl⟩
theorem d_X4_isSettled_67 : x_dec m_X4_isSettled 67 (.imul) 1 68 := ⟨by decide +kernel, rfl⟩
theorem d_X4_isSettled_68 : x_dec m_X4_isSettled 68 (.iadd) 1 69 := ⟨by decide +kernel, rfl⟩
theorem d_X4_isSettled_69 : x_dec m_X4_isSettled 69 (.iconst 2) 1 70 := ⟨by decide +kernel, rfl⟩
theorem d_X4_isSettled_70 : x_dec m_X4_isSettled 70 (.iadd) 1 71 := ⟨by decide +kernel, rfl⟩
theorem d_X4_isSettled_71 : x_dec m_X4_isSettled 71 (.iaload) 1 72 := ⟨by decide +kernel, rfl⟩
theorem d_X4_isSettled_72 : x_dec m_X4_isSettled 72 (.if_icmp .ne 7) 3 75 := ⟨by decide +kernel, rfl⟩
theorem d_X4_isSettled_75 : x_dec m_X4_isSettled 75 (.iconst 1) 1 76 := ⟨by decide +kernel, rfl⟩
theorem d_X4_isSettled_76 : x_dec m_X4_isSettled 76 (.goto 4) 3 79 := ⟨by decide +kernel, rfl⟩
theorem d_X4_isSettled_79 : x_dec m_X4_isSettled 79 (.iconst 0) 1 80 := ⟨by decide +kernel, rfl⟩
theorem d_X4_isSettled_80 : x_dec m_X4_isSettled 80 (.istore_n 1) 1 81 := ⟨by decide +kernel, rfl⟩
theorem d_X4_isSettled_81 : x_dec m_X4_isSettled 81 (.iinc 2 1) 3 84 := ⟨by decide +kernel, rfl⟩
theorem d_X4_isSettled_84 : x_dec m_X4_isSettled 84 (.goto (-46)) 3 87 := ⟨by decide +kernel, rfl⟩
theorem d_X4_isSettled_87 : x_dec m_X4_isSettled 87 (.iload_n 1) 1 88 := ⟨by decide +kernel, rfl⟩
theorem d_X4_isSettled_88 : x_dec m_X4_isSettled 88 (.ireturn) 1 89 := ⟨by decide +kernel, rfl⟩
set_option maxHeartbeats 4000000 in
set_option maxRecDepth 100000 in
theorem c_X4_isSettled (l : Launch) (E : x_E) (μ : x_Mem) {a : x_St} (hR : MR a μ) (hI : WF a) : x_Met l m_X4_isSettled E [.ref (E.1 + 41)] μ (x_I (fun z m => z = x_b (!movedB a) ∧ MR (hourF a) m ∧ ∀ id, (id ≠ 42 ∧ id ≠ 46 ∧ id ≠ 47) → m id = μ id)) := by
  have hn7 := hI.2.1
  have hpn := hI.1
  have hF : ∀ id, (id ≠ 42 ∧ id ≠ 46 ∧ id ≠ 47) → μ id = μ id := fun _ _ => rfl
  refine x_enter (lv := [(0, .ref (E.1 + 41))]) (by decide +kernel) (Nat.le_of_ble_eq_true rfl) rfl ?_
  refine x_aload_n 0 d_X4_isSettled_0 rfl rfl ?_
  refine x_getr (j := 0) 42 x_c4 rfl (Nat.le_of_ble_eq_true rfl) q668 rfl d_X4_isSettled_1 ?_
  refine x_aload_n 0 d_X4_isSettled_4 rfl rfl ?_
  refine x_getr (j := 6) 47 x_c4 rfl (Nat.le_of_ble_eq_true rfl) q674 rfl d_X4_isSettled_5 ?_
  refine x_csv (as := [.ref (E.1 + 42), .ref (E.1 + 47)]) (c_X4_copyAll l E μ (k1 := 42) (k2 := 47) (by decide) rfl rfl rfl rfl) v_X4_copyAll q864 q863 rfl ⟨Nat.le_of_ble_eq_true rfl, Nat.le_of_ble_eq_true rfl⟩ rfl (Nat.le_of_ble_eq_true rfl) d_X4_isSettled_8 ?_
  rintro μ1 ⟨hq2, hF3⟩
  have hEA4 : ME a μ1 := fun j hj => (hq2 j hj).trans (hR j hj)
  have hR5 := MR.cg hR (μ' := μ1) (fun id hid => (hF3 _ (by omega)))
  have hF6 : ∀ id, (id ≠ 42 ∧ id ≠ 46 ∧ id ≠ 47) → μ1 id = μ id := fun id hid => (show μ1 id = μ id from (hF3 _ (by omega))).trans (hF id hid)
  refine x_aload_n 0 d_X4_isSettled_11 rfl rfl ?_
  refine x_cvv (k := 41) (as := []) (c_X4_hour l E μ1 hR5 hI) v_X4_hour w_X4_hour q823 o_M rfl ⟨Nat.le_of_ble_eq_true rfl, Nat.le_of_ble_eq_true rfl⟩ rfl (Nat.le_of_ble_eq_true rfl) d_X4_isSettled_12 ?_
  rintro μ7 ⟨hR8, hF9⟩
  have hF10 : ∀ id, (id ≠ 42 ∧ id ≠ 46 ∧ id ≠ 47) → μ7 id = μ id := fun id hid => (show μ7 id = μ1 id from (hF9 _ (by omega))).trans (hF6 id hid)
  have hEA11 := ME.cg hEA4 (μ' := μ7) (fun id hid => (hF9 _ (by omega)))
  refine x_aload_n 0 d_X4_isSettled_15 rfl rfl ?_
  refine x_getr (j := 0) 42 x_c4 rfl (Nat.le_of_ble_eq_true rfl) q668 rfl d_X4_isSettled_16 ?_
  refine x_iconst (x := 1) d_X4_isSettled_19 (by decide) ?_
  refine x_ialdN (z := (hourF a) 1) 58 1 rfl rfl (by omega) (by decide) (hR8 1 (by omega)) d_X4_isSettled_20 ?_
  refine x_aload_n 0 d_X4_isSettled_21 rfl rfl ?_
  refine x_getr (j := 6) 47 x_c4 rfl (Nat.le_of_ble_eq_true rfl) q674 rfl d_X4_isSettled_22 ?_
  refine x_iconst (x := 1) d_X4_isSettled_25 (by decide) ?_
  refine x_ialdN (z := a (1)) 58 1 rfl rfl (by omega) (by decide) (hEA11 1 (by omega)) d_X4_isSettled_26 ?_
  refine x_icmp_ne 34 d_X4_isSettled_27 (by decide) (fun c12 => ?_) (fun c12 => ?_)
  · skip
    refine x_iconst (x := 0) d_X4_isSettled_34 (by decide) ?_
    refine x_istore_n [(1, .int 0), (0, .ref (E.1 + 41))] d_X4_isSettled_35 rfl (Nat.le_of_ble_eq_true rfl) rfl ?_
    refine x_iconst (x := 0) d_X4_isSettled_36 (by decide) ?_
    refine x_istore_n [(2, .int 0), (1, .int 0), (0, .ref (E.1 + 41))] d_X4_isSettled_37 rfl (Nat.le_of_ble_eq_true rfl) rfl ?_
    have L13 : ∀ i : Nat, i ≤ pn a → ∀ r : Int32, ∀ μ16 : x_Mem, (r = x_b (stB a i)) → (MR (hourF a) μ16) → (ME a μ16) → (∀ id, (id ≠ 42 ∧ id ≠ 46 ∧ id ≠ 47) → μ16 id = μ id) → x_G l E m_X4_isSettled (x_mv E m_X4_isSettled (x_I (fun z m => z = x_b (!movedB a) ∧ MR (hourF a) m ∧ ∀ id, (id ≠ 42 ∧ id ≠ 46 ∧ id ≠ 47) → m id = μ id))) μ16 38 [(2, .int (nI i)), (1, .int r), (0, .ref (E.1 + 41))] [] := by
      refine x_down _ (pn a) (fun i hi15 ih14 => ?_)
      intro r μ16 hr hR1 hE1 hF1
      refine x_iload_n 0 d_X4_isSettled_38 rfl rfl ?_
      refine x_aload_n 2 d_X4_isSettled_39 rfl rfl ?_
      refine x_getr (j := 0) 42 x_c4 rfl (Nat.le_of_ble_eq_true rfl) q668 rfl d_X4_isSettled_40 ?_
      refine x_bipush (x := 7) d_X4_isSettled_43 (by decide) ?_
      refine x_ialdN (z := nI (pn a)) 58 7 rfl rfl (by omega) (by decide) ((hR1 7 (by decide)).trans ((hour_7 hI).trans hn7)) d_X4_isSettled_45 ?_
      refine x_icmp_ge 87 d_X4_isSettled_46 (by decide) (fun c17 => ?_) (fun c17 => ?_)
      · skip
        have hN := x_ge (N := pn a) c17 rfl rfl (by omega) (by omega)
        refine x_iload_n 1 d_X4_isSettled_87 rfl rfl ?_
        have e7 : i = pn a := by omega
        subst e7
        rw [hr, st_end]
        refine x_zret rfl d_X4_isSettled_88 ?_
        exact ⟨rfl, hR1, hF1⟩
      · skip
        have hN := x_lt (N := pn a) c17 rfl rfl (by omega) (by omega)
        refine x_iload_n 1 d_X4_isSettled_49 rfl rfl ?_
        refine x_if_eq 79 d_X4_isSettled_50 (by decide) (fun c18 => ?_) (fun c18 => ?_)
        · skip
          refine x_iconst (x := 0) d_X4_isSettled_79 (by decide) ?_
          refine x_istore_n [(1, .int 0), (2, .int (nI i)), (0, .ref (E.1 + 41))] d_X4_isSettled_80 rfl (Nat.le_of_ble_eq_true rfl) rfl ?_
          refine x_iinc [(2, .int (nI (i + 1))), (1, .int 0), (0, .ref (E.1 + 41))] 1 d_X4_isSettled_81 rfl (x_inc _) (Nat.le_of_ble_eq_true rfl) rfl ?_
          refine x_goto 38 d_X4_isSettled_84 (by decide) ?_
          exact ih14 (i + 1) (by omega) (by omega) 0 μ16 (st_1 hr c18) hR1 hE1 hF1
        · skip
          refine x_aload_n 2 d_X4_isSettled_53 rfl rfl ?_
          refine x_iload_n 0 d_X4_isSettled_54 rfl rfl ?_
          refine x_iconst (x := 2) d_X4_isSettled_55 (by decide) ?_
          refine x_cvip (k := 41) (as := [.int (nI i), .int 2]) (c_X4_told l E μ16 hR1 (p := i) (w := 2) (j := 24 + 3 * i + 2) rfl (by omega)) v_X4_told w_X4_told q755 o_M rfl ⟨Nat.le_of_ble_eq_true rfl, Nat.le_of_ble_eq_true rfl⟩ rfl (Nat.le_of_ble_eq_true rfl) d_X4_isSettled_56 ?_
          refine x_aload_n 2 d_X4_isSettled_59 rfl rfl ?_
          refine x_getr (j := 6) 47 x_c4 rfl (Nat.le_of_ble_eq_true rfl) q674 rfl d_X4_isSettled_60 ?_
          refine x_bipush (x := 24) d_X4_isSettled_63 (by decide) ?_
          refine x_iconst (x := 3) d_X4_isSettled_65 (by decide) ?_
          refine x_iload_n 0 d_X4_isSettled_66 rfl rfl ?_
          refine x_imul d_X4_isSettled_67 ?_
          rw [show (3 : Int32) * (nI i) = nI (3 * i) from nI_mulN 3 i]
          refine x_iadd d_X4_isSettled_68 ?_
          rw [show (24 : Int32) + (nI (3 * i)) = nI (24 + (3 * i)) from nI_add 24 (3 * i)]
          refine x_iconst (x := 2) d_X4_isSettled_69 (by decide) ?_
          refine x_iadd d_X4_isSettled_70 ?_
          rw [show (nI (24 + (3 * i))) + (2 : Int32) = nI ((24 + (3 * i)) + 2) from nI_add (24 + (3 * i)) 2]
          refine x_ialdN (z := a (((24 + (3 * i)) + 2))) 58 ((24 + (3 * i)) + 2) rfl rfl (by omega) (by decide) (hE1 ((24 + (3 * i)) + 2) (by omega)) d_X4_isSettled_71 ?_
          refine x_icmp_ne 79 d_X4_isSettled_72 (by decide) (fun c19 => ?_) (fun c19 => ?_)
          · skip
            refine x_iconst (x := 0) d_X4_isSettled_79 (by decide) ?_
            refine x_istore_n [(1, .int 0), (2, .int (nI i)), (0, .ref (E.1 + 41))] d_X4_isSettled_80 rfl (Nat.le_of_ble_eq_true rfl) rfl ?_
            refine x_iinc [(2, .int (nI (i + 1))), (1, .int 0), (0, .ref (E.1 + 41))] 1 d_X4_isSettled_81 rfl (x_inc _) (Nat.le_of_ble_eq_true rfl) rfl ?_
            refine x_goto 38 d_X4_isSettled_84 (by decide) ?_
            exact ih14 (i + 1) (by omega) (by omega) 0 μ16 (st_2 c19) hR1 hE1 hF1
          · skip
            refine x_iconst (x := 1) d_X4_isSettled_75 (by decide) ?_
            refine x_goto 80 d_X4_isSettled_76 (by decide) ?_
            refine x_istore_n [(1, .int 1), (2, .int (nI i)), (0, .ref (E.1 + 41))] d_X4_isSettled_80 rfl (Nat.le_of_ble_eq_true rfl) rfl ?_
            refine x_iinc [(2, .int (nI (i + 1))), (1, .int 1), (0, .ref (E.1 + 41))] 1 d_X4_isSettled_81 rfl (x_inc _) (Nat.le_of_ble_eq_true rfl) rfl ?_
            refine x_goto 38 d_X4_isSettled_84 (by decide) ?_
            exact ih14 (i + 1) (by omega) (by omega) 1 μ16 (st_3 hr c18 c19) hR1 hE1 hF1
    exact L13 0 (by omega) 0 μ7 (st_0f c12) hR8 hEA11 hF10
  · skip
    refine x_iconst (x := 1) d_X4_isSettled_30 (by decide) ?_
    refine x_goto 35 d_X4_isSettled_31 (by decide) ?_
    refine x_istore_n [(1, .int 1), (0, .ref (E.1 + 41))] d_X4_isSettled_35 rfl (Nat.le_of_ble_eq_true rfl) rfl ?_
    refine x_iconst (x := 0) d_X4_isSettled_36 (by decide) ?_
    refine x_istore_n [(2, .int 0), (1, .int 1), (0, .ref (E.1 + 41))] d_X4_isSettled_37 rfl (Nat.le_of_ble_eq_true rfl) rfl ?_
    have L20 : ∀ i : Nat, i ≤ pn a → ∀ r : Int32, ∀ μ23 : x_Mem, (r = x_b (stB a i)) → (MR (hourF a) μ23) → (ME a μ23) → (∀ id, (id ≠ 42 ∧ id ≠ 46 ∧ id ≠ 47) → μ23 id = μ id) → x_G l E m_X4_isSettled (x_mv E m_X4_isSettled (x_I (fun z m => z = x_b (!movedB a) ∧ MR (hourF a) m ∧ ∀ id, (id ≠ 42 ∧ id ≠ 46 ∧ id ≠ 47) → m id = μ id))) μ23 38 [(2, .int (nI i)), (1, .int r), (0, .ref (E.1 + 41))] [] := by
      refine x_down _ (pn a) (fun i hi22 ih21 => ?_)
      intro r μ23 hr hR1 hE1 hF1
      refine x_iload_n 0 d_X4_isSettled_38 rfl rfl ?_
      refine x_aload_n 2 d_X4_isSettled_39 rfl rfl ?_
      refine x_getr (j := 0) 42 x_c4 rfl (Nat.le_of_ble_eq_true rfl) q668 rfl d_X4_isSettled_40 ?_
      refine x_bipush (x := 7) d_X4_isSettled_43 (by decide) ?_
      refine x_ialdN (z := nI (pn a)) 58 7 rfl rfl (by omega) (by decide) ((hR1 7 (by decide)).trans ((hour_7 hI).trans hn7)) d_X4_isSettled_45 ?_
      refine x_icmp_ge 87 d_X4_isSettled_46 (by decide) (fun c24 => ?_) (fun c24 => ?_)
      · skip
        have hN := x_ge (N := pn a) c24 rfl rfl (by omega) (by omega)
        refine x_iload_n 1 d_X4_isSettled_87 rfl rfl ?_
        have e7 : i = pn a := by omega
        subst e7
        rw [hr, st_end]
        refine x_zret rfl d_X4_isSettled_88 ?_
        exact ⟨rfl, hR1, hF1⟩
      · skip
        have hN := x_lt (N := pn a) c24 rfl rfl (by omega) (by omega)
        refine x_iload_n 1 d_X4_isSettled_49 rfl rfl ?_
        refine x_if_eq 79 d_X4_isSettled_50 (by decide) (fun c25 => ?_) (fun c25 => ?_)
        · skip
          refine x_iconst (x := 0) d_X4_isSettled_79 (by decide) ?_
          refine x_istore_n [(1, .int 0), (2, .int (nI i)), (0, .ref (E.1 + 41))] d_X4_isSettled_80 rfl (Nat.le_of_ble_eq_true rfl) rfl ?_
          refine x_iinc [(2, .int (nI (i + 1))), (1, .int 0), (0, .ref (E.1 + 41))] 1 d_X4_isSettled_81 rfl (x_inc _) (Nat.le_of_ble_eq_true rfl) rfl ?_
          refine x_goto 38 d_X4_isSettled_84 (by decide) ?_
          exact ih21 (i + 1) (by omega) (by omega) 0 μ23 (st_1 hr c25) hR1 hE1 hF1
        · skip
          refine x_aload_n 2 d_X4_isSettled_53 rfl rfl ?_
          refine x_iload_n 0 d_X4_isSettled_54 rfl rfl ?_
          refine x_iconst (x := 2) d_X4_isSettled_55 (by decide) ?_
          refine x_cvip (k := 41) (as := [.int (nI i), .int 2]) (c_X4_told l E μ23 hR1 (p := i) (w := 2) (j := 24 + 3 * i + 2) rfl (by omega)) v_X4_told w_X4_told q755 o_M rfl ⟨Nat.le_of_ble_eq_true rfl, Nat.le_of_ble_eq_true rfl⟩ rfl (Nat.le_of_ble_eq_true rfl) d_X4_isSettled_56 ?_
          refine x_aload_n 2 d_X4_isSettled_59 rfl rfl ?_
          refine x_getr (j := 6) 47 x_c4 rfl (Nat.le_of_ble_eq_true rfl) q674 rfl d_X4_isSettled_60 ?_
          refine x_bipush (x := 24) d_X4_isSettled_63 (by decide) ?_
          refine x_iconst (x := 3) d_X4_isSettled_65 (by decide) ?_
          refine x_iload_n 0 d_X4_isSettled_66 rfl rfl ?_
          refine x_imul d_X4_isSettled_67 ?_
          rw [show (3 : Int32) * (nI i) = nI (3 * i) from nI_mulN 3 i]
          refine x_iadd d_X4_isSettled_68 ?_
          rw [show (24 : Int32) + (nI (3 * i)) = nI (24 + (3 * i)) from nI_add 24 (3 * i)]
          refine x_iconst (x := 2) d_X4_isSettled_69 (by decide) ?_
          refine x_iadd d_X4_isSettled_70 ?_
          rw [show (nI (24 + (3 * i))) + (2 : Int32) = nI ((24 + (3 * i)) + 2) from nI_add (24 + (3 * i)) 2]
          refine x_ialdN (z := a (((24 + (3 * i)) + 2))) 58 ((24 + (3 * i)) + 2) rfl rfl (by omega) (by decide) (hE1 ((24 + (3 * i)) + 2) (by omega)) d_X4_isSettled_71 ?_
          refine x_icmp_ne 79 d_X4_isSettled_72 (by decide) (fun c26 => ?_) (fun c26 => ?_)
          · skip
            refine x_iconst (x := 0) d_X4_isSettled_79 (by decide) ?_
            refine x_istore_n [(1, .int 0), (2, .int (nI i)), (0, .ref (E.1 + 41))] d_X4_isSettled_80 rfl (Nat.le_of_ble_eq_true rfl) rfl ?_
            refine x_iinc [(2, .int (nI (i + 1))), (1, .int 0), (0, .ref (E.1 + 41))] 1 d_X4_isSettled_81 rfl (x_inc _) (Nat.le_of_ble_eq_true rfl) rfl ?_
            refine x_goto 38 d_X4_isSettled_84 (by decide) ?_
            exact ih21 (i + 1) (by omega) (by omega) 0 μ23 (st_2 c26) hR1 hE1 hF1
          · skip
            refine x_iconst (x := 1) d_X4_isSettled_75 (by decide) ?_
            refine x_goto 80 d_X4_isSettled_76 (by decide) ?_
            refine x_istore_n [(1, .int 1), (2, .int (nI i)), (0, .ref (E.1 + 41))] d_X4_isSettled_80 rfl (Nat.le_of_ble_eq_true rfl) rfl ?_
            refine x_iinc [(2, .int (nI (i + 1))), (1, .int 1), (0, .ref (E.1 + 41))] 1 d_X4_isSettled_81 rfl (x_inc _) (Nat.le_of_ble_eq_true rfl) rfl ?_
            refine x_goto 38 d_X4_isSettled_84 (by decide) ?_
            exact ih21 (i + 1) (by omega) (by omega) 1 μ23 (st_3 hr c25 c26) hR1 hE1 hF1
    exact L20 0 (by omega) 1 μ7 (st_0 c12) hR8 hEA11 hF10
def m_X4_settles : x_M := (yX4_settles, prog_6_method_48_code, 2, (some FieldType.int), 9, 201)
theorem v_X4_settles : x_VM m_X4_settles 0 := ⟨q893, q6, by decide +kernel, by decide +kernel, by decide +kernel⟩
theorem w_X4_settles : x_VI m_X4_settles := ⟨q891, q892⟩
theorem d_X4_settles_0 : x_dec m_X4_settles 0 (.aload_n 0) 1 1 := ⟨by decide +kernel, rfl⟩
theorem d_X4_settles_1 : x_dec m_X4_settles 1 (.invokevirtual 134) 3 4 := ⟨by decide +kernel, rfl⟩
theorem d_X4_settles_4 : x_dec m_X4_settles 4 (.iconst 0) 1 5 := ⟨by decide +kernel, rfl⟩
theorem d_X4_settles_5 : x_dec m_X4_settles 5 (.istore_n 1) 1 6 := ⟨by decide +kernel, rfl⟩
theorem d_X4_settles_6 : x_dec m_X4_settles 6 (.iload_n 1) 1 7 := ⟨by decide +kernel, rfl⟩
theorem d_X4_settles_7 : x_dec m_X4_settles 7 (.bipush 100) 2 9 := ⟨by decide +kernel, rfl⟩
theorem d_X4_settles_9 : x_dec m_X4_settles 9 (.if_icmp .gt 16) 3 12 := ⟨by decide +kernel, rfl⟩
theorem d_X4_settles_12 : x_dec m_X4_settles 12 (.aload_n 0) 1 13 := ⟨by decide +kernel, rfl⟩
theorem d_X4_settles_13 : x_dec m_X4_settles 13 (.invokevirtual 143) 3 16 := ⟨by decide +kernel, rfl⟩
theorem d_X4_settles_16 : x_dec m_X4_settles 16 (.ifCond .ne 9) 3 19 := ⟨by decide +kernel, rfl⟩
theorem d_X4_settles_19 : x_dec m_X4_settles 19 (.iinc 1 1) 3 22 := ⟨by decide +kernel, rfl⟩
theorem d_X4_settles_22 : x_dec m_X4_settles 22 (.goto (-16)) 3 25 := ⟨by decide +kernel, rfl⟩
theorem d_X4_settles_25 : x_dec m_X4_settles 25 (.aload_n 0) 1 26 := ⟨by decide +kernel, rfl⟩
theorem d_X4_settles_26 : x_dec m_X4_settles 26 (.invokevirtual 131) 3 29 := ⟨by decide +kernel, rfl⟩
theorem d_X4_settles_29 : x_dec m_X4_settles 29 (.iload_n 1) 1 30 := ⟨by decide +kernel, rfl⟩
theorem d_X4_settles_30 : x_dec m_X4_settles 30 (.bipush 100) 2 32 := ⟨by decide +kernel, rfl⟩
theorem d_X4_settles_32 : x_dec m_X4_settles 32 (.if_icmp .le 12) 3 35 := ⟨by decide +kernel, rfl⟩
theorem d_X4_settles_35 : x_dec m_X4_settles 35 (.aload_n 0) 1 36 := ⟨by decide +kernel, rfl⟩
theorem d_X4_settles_36 : x_dec m_X4_settles 36 (.ldc 41) 2 38 := ⟨by decide +kernel, rfl⟩
theorem d_X4_settles_38 : x_dec m_X4_settles 38 (.invokevirtual 42) 3 41 := ⟨by decide +kernel, rfl⟩
theorem d_X4_settles_41 : x_dec m_X4_settles 41 (.goto 4) 3 44 := ⟨by decide +kernel, rfl⟩
theorem d_X4_settles_44 : x_dec m_X4_settles 44 (.iload_n 1) 1 45 := ⟨by decide +kernel, rfl⟩
theorem d_X4_settles_45 : x_dec m_X4_settles 45 (.ireturn) 1 46 := ⟨by decide +kernel, rfl⟩
set_option maxHeartbeats 4000000 in
set_option maxRecDepth 100000 in
theorem c_X4_settles (l : Launch) (E : x_E) (μ : x_Mem) (g : x_SG) (hS : MS g μ) (hI : Inv g) : x_Met l m_X4_settles E [.ref (E.1 + 41)] μ (x_I (fun z m => z = (F_settles g).1 ∧ MS (F_settles g).2 m ∧ ∀ id, id < 41 → m id = μ id)) := by
  obtain ⟨hR, hX, hD⟩ := hS
  have hWF := hI.1.1
  have hn7 := hWF.2.1
  have hpn := hWF.1
  have hF : ∀ id, id < 41 → μ id = μ id := fun _ _ => rfl
  refine x_enter (lv := [(0, .ref (E.1 + 41))]) (by decide +kernel) (Nat.le_of_ble_eq_true rfl) rfl ?_
  refine x_aload_n 0 d_X4_settles_0 rfl rfl ?_
  refine x_cvv (k := 41) (as := []) (c_X4_thinks l E μ hR) v_X4_thinks w_X4_thinks q859 o_M rfl ⟨Nat.le_of_ble_eq_true rfl, Nat.le_of_ble_eq_true rfl⟩ rfl (Nat.le_of_ble_eq_true rfl) d_X4_settles_1 ?_
  rintro μ1 ⟨hW2, hF3⟩
  have hR4 := MR.cg hR (μ' := μ1) (fun id hid => (hF3 _ (by omega)))
  have hX5 := MX.cg hX (μ' := μ1) (fun id hid => (hF3 _ (by omega)))
  have hD6 := MD.cg hD (μ' := μ1) (fun id hid => (hF3 _ (by omega)))
  have hF7 : ∀ id, id < 41 → μ1 id = μ id := fun id hid => (show μ1 id = μ id from (hF3 _ (by omega))).trans (hF id hid)
  refine x_iconst (x := 0) d_X4_settles_4 (by decide) ?_
  refine x_istore_n [(1, .int 0), (0, .ref (E.1 + 41))] d_X4_settles_5 rfl (Nat.le_of_ble_eq_true rfl) rfl ?_
  have L8 : ∀ i : Nat, i ≤ 101 → ∀ μ11 : x_Mem, (MR (hoursF (gA g) i) μ11) → (MW (gA g) μ11) → (MX g μ11) → (MD (gF g) μ11) → (∀ id, id < 41 → μ11 id = μ id) → (∀ j, j < i → (!movedB (hoursF (gA g) j)) = false) → x_G l E m_X4_settles (x_mv E m_X4_settles (x_I (fun z m => z = (F_settles g).1 ∧ MS (F_settles g).2 m ∧ ∀ id, id < 41 → m id = μ id))) μ11 6 [(1, .int (nI i)), (0, .ref (E.1 + 41))] [] := by
    refine x_down _ 101 (fun i hi10 ih9 => ?_)
    intro μ11 hR1 hW1 hX1 hD1 hF1 hq
    refine x_iload_n 0 d_X4_settles_6 rfl rfl ?_
    refine x_bipush (x := 100) d_X4_settles_7 (by decide) ?_
    refine x_icmp_gt 25 d_X4_settles_9 (by decide) (fun c12 => ?_) (fun c12 => ?_)
    · skip
      have hN := (nI_ltI (a := 100) (b := i) (by omega) (by omega)).mp c12
      refine x_aload_n 1 d_X4_settles_25 rfl rfl ?_
      refine x_cvv (k := 41) (as := []) (c_X4_putsBack l E μ11 hW1) v_X4_putsBack w_X4_putsBack q870 o_M rfl ⟨Nat.le_of_ble_eq_true rfl, Nat.le_of_ble_eq_true rfl⟩ rfl (Nat.le_of_ble_eq_true rfl) d_X4_settles_26 ?_
      rintro μ13 ⟨hR14, hF15⟩
      have hX16 := MX.cg hX1 (μ' := μ13) (fun id hid => (hF15 _ (by omega)))
      have hD17 := MD.cg hD1 (μ' := μ13) (fun id hid => (hF15 _ (by omega)))
      have hF18 : ∀ id, id < 41 → μ13 id = μ id := fun id hid => (show μ13 id = μ11 id from (hF15 _ (by omega))).trans (hF1 id hid)
      have hW19 := MW.cg hW1 (μ' := μ13) (fun id hid => (hF15 _ (by omega)))
      refine x_iload_n 0 d_X4_settles_29 rfl rfl ?_
      refine x_bipush (x := 100) d_X4_settles_30 (by decide) ?_
      refine x_icmp_le 44 d_X4_settles_32 (by decide) (fun c20 => ?_) (fun c20 => ?_)
      · skip
        have hM := (nI_leI (a := i) (b := 100) (by omega) (by omega)).mp c20
        refine x_iload_n 0 d_X4_settles_44 rfl rfl ?_
        refine x_iret rfl d_X4_settles_45 ?_
        exact absurd hM (by omega)
      · skip
        have hM : ¬ i ≤ 100 := fun z => c20 (nI_le (a := i) (b := 100) z (by decide))
        refine x_aload_n 1 d_X4_settles_35 rfl rfl ?_
        refine x_ldc q885 d_X4_settles_36 ?_
        refine x_cvi (k := 41) (as := [.int (-1000004)]) (c_X4_finds l E μ13 (i := 3) hD17 (by decide) (w := (-1000004)) (by decide)) v_X4_finds w_X4_finds q735 o_M rfl ⟨Nat.le_of_ble_eq_true rfl, Nat.le_of_ble_eq_true rfl⟩ rfl (Nat.le_of_ble_eq_true rfl) d_X4_settles_38 ?_
        rintro _ μ21 ⟨rfl, hD22, hF23⟩
        have hR24 := MR.cg hR14 (μ' := μ21) (fun id hid => (hF23 _ (by omega)))
        have hX25 := MX.cg hX16 (μ' := μ21) (fun id hid => (hF23 _ (by omega)))
        have hF26 : ∀ id, id < 41 → μ21 id = μ id := fun id hid => (show μ21 id = μ13 id from (hF23 _ (by omega))).trans (hF18 id hid)
        have hW27 := MW.cg hW19 (μ' := μ21) (fun id hid => (hF23 _ (by omega)))
        refine x_goto 45 d_X4_settles_41 (by decide) ?_
        refine x_iret rfl d_X4_settles_45 ?_
        have e7 : i = 101 := by omega
        subst e7
        have e8 := firstN_none hq
        have e9 : F_settles g = fin g 3 := by simp [F_settles, x_b_f, x_b_t, e8, orN]
        rw [e9]
        exact ⟨rfl, MS.fin hR24 hX25 hD22, hF26⟩
    · skip
      have hN : ¬ 100 < i := fun z => c12 (nI_lt z (by omega))
      refine x_aload_n 1 d_X4_settles_12 rfl rfl ?_
      refine x_cvi (k := 41) (as := []) (c_X4_isSettled l E μ11 hR1 (WF.hours hWF i)) v_X4_isSettled w_X4_isSettled q894 o_M rfl ⟨Nat.le_of_ble_eq_true rfl, Nat.le_of_ble_eq_true rfl⟩ rfl (Nat.le_of_ble_eq_true rfl) d_X4_settles_13 ?_
      rintro _ μ28 ⟨rfl, hR29, hF30⟩
      have hX31 := MX.cg hX1 (μ' := μ28) (fun id hid => (hF30 _ (by omega)))
      have hD32 := MD.cg hD1 (μ' := μ28) (fun id hid => (hF30 _ (by omega)))
      have hF33 : ∀ id, id < 41 → μ28 id = μ id := fun id hid => (show μ28 id = μ11 id from (hF30 _ (by omega))).trans (hF1 id hid)
      have hW34 := MW.cg hW1 (μ' := μ28) (fun id hid => (hF30 _ (by omega)))
      refine x_ifb_ne 25 d_X4_settles_16 (by decide) (fun c35 => ?_) (fun c35 => ?_)
      · skip
        refine x_aload_n 1 d_X4_settles_25 rfl rfl ?_
        refine x_cvv (k := 41) (as := []) (c_X4_putsBack l E μ28 hW34) v_X4_putsBack w_X4_putsBack q870 o_M rfl ⟨Nat.le_of_ble_eq_true rfl, Nat.le_of_ble_eq_true rfl⟩ rfl (Nat.le_of_ble_eq_true rfl) d_X4_settles_26 ?_
        rintro μ36 ⟨hR37, hF38⟩
        have hX39 := MX.cg hX31 (μ' := μ36) (fun id hid => (hF38 _ (by omega)))
        have hD40 := MD.cg hD32 (μ' := μ36) (fun id hid => (hF38 _ (by omega)))
        have hF41 : ∀ id, id < 41 → μ36 id = μ id := fun id hid => (show μ36 id = μ28 id from (hF38 _ (by omega))).trans (hF33 id hid)
        have hW42 := MW.cg hW34 (μ' := μ36) (fun id hid => (hF38 _ (by omega)))
        refine x_iload_n 0 d_X4_settles_29 rfl rfl ?_
        refine x_bipush (x := 100) d_X4_settles_30 (by decide) ?_
        refine x_icmp_le 44 d_X4_settles_32 (by decide) (fun c43 => ?_) (fun c43 => ?_)
        · skip
          have hM := (nI_leI (a := i) (b := 100) (by omega) (by omega)).mp c43
          refine x_iload_n 0 d_X4_settles_44 rfl rfl ?_
          refine x_iret rfl d_X4_settles_45 ?_
          have e8 := firstN_some (n := 101) (i := i) (by omega) (c35) hq
          have e9 : F_settles g = (nI i, g) := by simp [F_settles, x_b_f, x_b_t, e8, orN, show i < 101 by omega]
          rw [e9]
          exact ⟨rfl, ⟨hR37, hX39, hD40⟩, hF41⟩
        · skip
          have hM : ¬ i ≤ 100 := fun z => c43 (nI_le (a := i) (b := 100) z (by decide))
          refine x_aload_n 1 d_X4_settles_35 rfl rfl ?_
          refine x_ldc q885 d_X4_settles_36 ?_
          refine x_cvi (k := 41) (as := [.int (-1000004)]) (c_X4_finds l E μ36 (i := 3) hD40 (by decide) (w := (-1000004)) (by decide)) v_X4_finds w_X4_finds q735 o_M rfl ⟨Nat.le_of_ble_eq_true rfl, Nat.le_of_ble_eq_true rfl⟩ rfl (Nat.le_of_ble_eq_true rfl) d_X4_settles_38 ?_
          rintro _ μ44 ⟨rfl, hD45, hF46⟩
          have hR47 := MR.cg hR37 (μ' := μ44) (fun id hid => (hF46 _ (by omega)))
          have hX48 := MX.cg hX39 (μ' := μ44) (fun id hid => (hF46 _ (by omega)))
          have hF49 : ∀ id, id < 41 → μ44 id = μ id := fun id hid => (show μ44 id = μ36 id from (hF46 _ (by omega))).trans (hF41 id hid)
          have hW50 := MW.cg hW42 (μ' := μ44) (fun id hid => (hF46 _ (by omega)))
          refine x_goto 45 d_X4_settles_41 (by decide) ?_
          refine x_iret rfl d_X4_settles_45 ?_
          exact absurd hM (by omega)
      · skip
        refine x_iinc [(1, .int (nI (i + 1))), (0, .ref (E.1 + 41))] 0 d_X4_settles_19 rfl (x_inc _) (Nat.le_of_ble_eq_true rfl) rfl ?_
        refine x_goto 6 d_X4_settles_22 (by decide) ?_
        exact ih9 (i + 1) (by omega) (by omega) μ28 hR29 hW34 hX31 hD32 hF33 (lt_s hq c35)
  exact L8 0 (by omega) μ1 hR4 hW2 hX5 hD6 hF7 (fun _ h => absurd h (Nat.not_lt_zero _))
