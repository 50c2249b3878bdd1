def m_X3_go : x_M := (yX3_go, prog_1_method_10_code, 2, (some FieldType.int), 6, 140)
theorem v_X3_go : x_VM m_X3_go 1 := ⟨q262, q1, by decide +kernel, by decide +kernel, by decide +kernel⟩
theorem w_X3_go : x_VI m_X3_go := ⟨q260, q261⟩
theorem d_X3_go_0 : x_dec m_X3_go 0 (.iload_n 1) 1 1 := ⟨by decide +kernel, rfl⟩
theorem d_X3_go_1 : x_dec m_X3_go 1 (.iconst 1) 1 2 := ⟨by decide +kernel, rfl⟩
theorem d_X3_go_2 : x_dec m_X3_go 2 (.bipush 60) 2 4 := ⟨by decide +kernel, rfl⟩
theorem d_X3_go_4 : x_dec m_X3_go 4 (.invokestatic 51) 3 7 := ⟨by decide +kernel, rfl⟩
theorem d_X3_go_7 : x_dec m_X3_go 7 (.ifCond .ne 10) 3 10 := ⟨by decide +kernel, rfl⟩
theorem d_X3_go_10 : x_dec m_X3_go 10 (.aload_n 0) 1 11 := ⟨by decide +kernel, rfl⟩
theorem d_X3_go_11 : x_dec m_X3_go 11 (.ldc 55) 2 13 := ⟨by decide +kernel, rfl⟩
theorem d_X3_go_13 : x_dec m_X3_go 13 (.invokevirtual 56) 3 16 := ⟨by decide +kernel, rfl⟩
theorem d_X3_go_16 : x_dec m_X3_go 16 (.ireturn) 1 17 := ⟨by decide +kernel, rfl⟩
theorem d_X3_go_17 : x_dec m_X3_go 17 (.aload_n 0) 1 18 := ⟨by decide +kernel, rfl⟩
theorem d_X3_go_18 : x_dec m_X3_go 18 (.getfield 12) 3 21 := ⟨by decide +kernel, rfl⟩
theorem d_X3_go_21 : x_dec m_X3_go 21 (.getfield 112) 3 24 := ⟨by decide +kernel, rfl⟩
theorem d_X3_go_24 : x_dec m_X3_go 24 (.iload_n 1) 1 25 := ⟨by decide +kernel, rfl⟩
theorem d_X3_go_25 : x_dec m_X3_go 25 (.iadd) 1 26 := ⟨by decide +kernel, rfl⟩
theorem d_X3_go_26 : x_dec m_X3_go 26 (.ldc 115) 2 28 := ⟨by decide +kernel, rfl⟩
theorem d_X3_go_28 : x_dec m_X3_go 28 (.if_icmp .le 10) 3 31 := ⟨by decide +kernel, rfl⟩
theorem d_X3_go_31 : x_dec m_X3_go 31 (.aload_n 0) 1 32 := ⟨by decide +kernel, rfl⟩
theorem d_X3_go_32 : x_dec m_X3_go 32 (.ldc 111) 2 34 := ⟨by decide +kernel, rfl⟩
theorem d_X3_go_34 : x_dec m_X3_go 34 (.invokevirtual 56) 3 37 := ⟨by decide +kernel, rfl⟩
theorem d_X3_go_37 : x_dec m_X3_go 37 (.ireturn) 1 38 := ⟨by decide +kernel, rfl⟩
theorem d_X3_go_38 : x_dec m_X3_go 38 (.aload_n 0) 1 39 := ⟨by decide +kernel, rfl⟩
theorem d_X3_go_39 : x_dec m_X3_go 39 (.getfield 12) 3 42 := ⟨by decide +kernel, rfl⟩
theorem d_X3_go_42 : x_dec m_X3_go 42 (.iload_n 1) 1 43 := ⟨by decide +kernel, rfl⟩
theorem d_X3_go_43 : x_dec m_X3_go 43 (.invokevirtual 116) 3 46 := ⟨by decide +kernel, rfl⟩
theorem d_X3_go_46 : x_dec m_X3_go 46 (.aload_n 0) 1 47 := ⟨by decide +kernel, rfl⟩
theorem d_X3_go_47 : x_dec m_X3_go 47 (.getfield 12) 3 50 := ⟨by decide +kernel, rfl⟩
theorem d_X3_go_50 : x_dec m_X3_go 50 (.getfield 99) 3 53 := ⟨by decide +kernel, rfl⟩
theorem d_X3_go_53 : x_dec m_X3_go 53 (.ireturn) 1 54 := ⟨by decide +kernel, rfl⟩
set_option maxHeartbeats 4000000 in
set_option maxRecDepth 100000 in
theorem c_X3_go (l : Launch) (E : x_E) (μ : x_Mem) (g : x_SG) (hS : XS g μ) (hI : Inv g) (n : Int32) : x_Met l m_X3_go E [.ref (E.1 + 0), .int n] μ (x_I (fun z m => z = (F_go g n).1 ∧ XS (F_go g n).2 m ∧ ∀ id, 41 ≤ id → m id = μ id)) := by
  obtain ⟨hL, hH, hX, hD⟩ := hS
  have hWF := hI.1.1
  have hn7 := hWF.2.1
  have hpn := hWF.1
  have hF : ∀ id, 41 ≤ id → μ id = μ id := fun _ _ => rfl
  refine x_enter (lv := [(0, .ref (E.1 + 0)), (1, .int n)]) (by decide +kernel) (Nat.le_of_ble_eq_true rfl) rfl ?_
  refine x_iload_n 1 d_X3_go_0 rfl rfl ?_
  refine x_iconst (x := 1) d_X3_go_1 (by decide) ?_
  refine x_bipush (x := 60) d_X3_go_2 (by decide) ?_
  refine x_csip (as := [.int n, .int 1, .int 60]) (c_X3_isWithin l E μ n 1 60) v_X3_isWithin q180 q179 rfl ⟨Nat.le_of_ble_eq_true rfl, Nat.le_of_ble_eq_true rfl⟩ rfl (Nat.le_of_ble_eq_true rfl) d_X3_go_4 ?_
  refine x_ifb_ne 17 d_X3_go_7 (by decide) (fun c1 => ?_) (fun c1 => ?_)
  · skip
    obtain ⟨h, hh, rfl⟩ := (inR_nat2 (a := 1) (n := 60) (by decide) (by decide) c1)
    refine x_aload_n 0 d_X3_go_17 rfl rfl ?_
    refine x_getr (j := 0) 1 x_c3 rfl (Nat.le_of_ble_eq_true rfl) q147 rfl d_X3_go_18 ?_
    refine x_getiV (j := 11) (z := gA g 0) x_c0 (p_kd x_pr1) (Nat.le_of_ble_eq_true rfl) q60 (p_n11 x_pr1) hH d_X3_go_21 ?_
    refine x_iload_n 1 d_X3_go_24 rfl rfl ?_
    refine x_iadd d_X3_go_25 ?_
    refine x_ldc q263 d_X3_go_26 ?_
    refine x_icmp_le 38 d_X3_go_28 (by decide) (fun c2 => ?_) (fun c2 => ?_)
    · skip
      have hck := clock_go hI.1 (n := h) hh.1 (by omega) c2
      refine x_aload_n 0 d_X3_go_38 rfl rfl ?_
      refine x_getr (j := 0) 1 x_c3 rfl (Nat.le_of_ble_eq_true rfl) q147 rfl d_X3_go_39 ?_
      refine x_iload_n 1 d_X3_go_42 rfl rfl ?_
      refine x_cvv (k := 1) (as := [.int (nI h)]) (c_X0_passHours l E μ x_pr1 hL hWF hH (n := h) (by omega)) v_X0_passHours w_X0_passHours q264 (p_ob x_pr1) rfl ⟨Nat.le_of_ble_eq_true rfl, Nat.le_of_ble_eq_true rfl⟩ rfl (Nat.le_of_ble_eq_true rfl) d_X3_go_43 ?_
      rintro μ3 ⟨hR4, x6, hF5⟩
      have hX7 := XR.cg hX (μ' := μ3) (fun id hid => (hF5 _ (by omega)))
      have hD8 := XD.cg hD (μ' := μ3) (fun id hid => (hF5 _ (by omega)))
      have hF9 : ∀ id, 41 ≤ id → μ3 id = μ id := fun id hid => (show μ3 id = μ id from (hF5 _ (by omega))).trans (hF id hid)
      refine x_aload_n 0 d_X3_go_46 rfl rfl ?_
      refine x_getr (j := 0) 1 x_c3 rfl (Nat.le_of_ble_eq_true rfl) q147 rfl d_X3_go_47 ?_
      refine x_getiV (j := 6) (z := (hoursF (gA g) h) 1) x_c0 (p_kd x_pr1) (Nat.le_of_ble_eq_true rfl) q47 (p_n6 x_pr1) (PR.f6 hR4) d_X3_go_50 ?_
      refine x_iret rfl d_X3_go_53 ?_
      have e9 : F_go g (nI h) = ((hoursF (gA g) h) 1, sA g (hoursF (gA g) h)) := by simp [F_go, x_b_f, x_b_t, c1, nI_clamp (n := h) (by omega), show ¬ 99999 < gA g 0 + nI h from Int32.not_lt.mpr c2]
      rw [e9]
      exact ⟨rfl, XS.line hR4 (x6.trans hck) hX7 hD8, hF9⟩
    · skip
      refine x_aload_n 0 d_X3_go_31 rfl rfl ?_
      refine x_ldc q254 d_X3_go_32 ?_
      refine x_cvi (k := 0) (as := [.int (-1000005)]) (c_X3_finding l E μ (i := 4) hD (by decide) (w := (-1000005)) (by decide)) v_X3_finding w_X3_finding q183 o_X rfl ⟨Nat.le_of_ble_eq_true rfl, Nat.le_of_ble_eq_true rfl⟩ rfl (Nat.le_of_ble_eq_true rfl) d_X3_go_34 ?_
      rintro _ μ10 ⟨rfl, hD11, hF12⟩
      have hL13 := PR.cg hL (μ' := μ10) (fun id hid => (hF12 _ (by omega)))
      have hLH14 := hH
      rw [← (show μ10 1 = μ 1 from (hF12 _ (by omega)))] at hLH14
      have hX15 := XR.cg hX (μ' := μ10) (fun id hid => (hF12 _ (by omega)))
      have hF16 : ∀ id, 41 ≤ id → μ10 id = μ id := fun id hid => (show μ10 id = μ id from (hF12 _ (by omega))).trans (hF id hid)
      refine x_iret rfl d_X3_go_37 ?_
      have e9 : F_go g (nI h) = fin g 4 := by simp [F_go, x_b_f, x_b_t, c1, nI_clamp (n := h) (by omega), show 99999 < gA g 0 + nI h from Int32.not_le.mp c2]
      rw [e9]
      exact ⟨rfl, XS.fin hL13 hLH14 hX15 hD11, hF16⟩
  · skip
    refine x_aload_n 0 d_X3_go_10 rfl rfl ?_
    refine x_ldc q182 d_X3_go_11 ?_
    refine x_cvi (k := 0) (as := [.int (-1000001)]) (c_X3_finding l E μ (i := 0) hD (by decide) (w := (-1000001)) (by decide)) v_X3_finding w_X3_finding q183 o_X rfl ⟨Nat.le_of_ble_eq_true rfl, Nat.le_of_ble_eq_true rfl⟩ rfl (Nat.le_of_ble_eq_true rfl) d_X3_go_13 ?_
    rintro _ μ17 ⟨rfl, hD18, hF19⟩
    have hL20 := PR.cg hL (μ' := μ17) (fun id hid => (hF19 _ (by omega)))
    have hLH21 := hH
    rw [← (show μ17 1 = μ 1 from (hF19 _ (by omega)))] at hLH21
    have hX22 := XR.cg hX (μ' := μ17) (fun id hid => (hF19 _ (by omega)))
    have hF23 : ∀ id, 41 ≤ id → μ17 id = μ id := fun id hid => (show μ17 id = μ id from (hF19 _ (by omega))).trans (hF id hid)
    refine x_iret rfl d_X3_go_16 ?_
    have e9 : F_go g n = fin g 0 := by simp [F_go, x_b_f, x_b_t, c1]
    rw [e9]
    exact ⟨rfl, XS.fin hL20 hLH21 hX22 hD18, hF23⟩
def m_X3_ahead : x_M := (yX3_ahead, prog_1_method_12_code, 2, (some FieldType.int), 6, 141)
theorem v_X3_ahead : x_VM m_X3_ahead 1 := ⟨q308, q1, by decide +kernel, by decide +kernel, by decide +kernel⟩
theorem w_X3_ahead : x_VI m_X3_ahead := ⟨q306, q307⟩
theorem d_X3_ahead_0 : x_dec m_X3_ahead 0 (.iload_n 1) 1 1 := ⟨by decide +kernel, rfl⟩
theorem d_X3_ahead_1 : x_dec m_X3_ahead 1 (.iconst 0) 1 2 := ⟨by decide +kernel, rfl⟩
theorem d_X3_ahead_2 : x_dec m_X3_ahead 2 (.bipush 100) 2 4 := ⟨by decide +kernel, rfl⟩
theorem d_X3_ahead_4 : x_dec m_X3_ahead 4 (.invokestatic 51) 3 7 := ⟨by decide +kernel, rfl⟩
theorem d_X3_ahead_7 : x_dec m_X3_ahead 7 (.ifCond .ne 10) 3 10 := ⟨by decide +kernel, rfl⟩
theorem d_X3_ahead_10 : x_dec m_X3_ahead 10 (.aload_n 0) 1 11 := ⟨by decide +kernel, rfl⟩
theorem d_X3_ahead_11 : x_dec m_X3_ahead 11 (.ldc 55) 2 13 := ⟨by decide +kernel, rfl⟩
theorem d_X3_ahead_13 : x_dec m_X3_ahead 13 (.invokevirtual 56) 3 16 := ⟨by decide +kernel, rfl⟩
theorem d_X3_ahead_16 : x_dec m_X3_ahead 16 (.ireturn) 1 17 := ⟨by decide +kernel, rfl⟩
theorem d_X3_ahead_17 : x_dec m_X3_ahead 17 (.aload_n 0) 1 18 := ⟨by decide +kernel, rfl⟩
theorem d_X3_ahead_18 : x_dec m_X3_ahead 18 (.getfield 16) 3 21 := ⟨by decide +kernel, rfl⟩
theorem d_X3_ahead_21 : x_dec m_X3_ahead 21 (.aload_n 0) 1 22 := ⟨by decide +kernel, rfl⟩
theorem d_X3_ahead_22 : x_dec m_X3_ahead 22 (.getfield 12) 3 25 := ⟨by decide +kernel, rfl⟩
theorem d_X3_ahead_25 : x_dec m_X3_ahead 25 (.invokevirtual 133) 3 28 := ⟨by decide +kernel, rfl⟩
theorem d_X3_ahead_28 : x_dec m_X3_ahead 28 (.aload_n 0) 1 29 := ⟨by decide +kernel, rfl⟩
theorem d_X3_ahead_29 : x_dec m_X3_ahead 29 (.getfield 16) 3 32 := ⟨by decide +kernel, rfl⟩
theorem d_X3_ahead_32 : x_dec m_X3_ahead 32 (.iload_n 1) 1 33 := ⟨by decide +kernel, rfl⟩
theorem d_X3_ahead_33 : x_dec m_X3_ahead 33 (.invokevirtual 137) 3 36 := ⟨by decide +kernel, rfl⟩
theorem d_X3_ahead_36 : x_dec m_X3_ahead 36 (.ireturn) 1 37 := ⟨by decide +kernel, rfl⟩
set_option maxHeartbeats 4000000 in
set_option maxRecDepth 100000 in
theorem c_X3_ahead (l : Launch) (E : x_E) (μ : x_Mem) (g : x_SG) (hS : XS g μ) (hI : Inv g) (n : Int32) : x_Met l m_X3_ahead E [.ref (E.1 + 0), .int n] μ (x_I (fun z m => z = (F_ahead g n).1 ∧ XS (F_ahead g n).2 m ∧ ∀ id, 41 ≤ id → m id = μ id)) := by
  obtain ⟨hL, hH, hX, hD⟩ := hS
  have hWF := hI.1.1
  have hn7 := hWF.2.1
  have hpn := hWF.1
  have hF : ∀ id, 41 ≤ id → μ id = μ id := fun _ _ => rfl
  refine x_enter (lv := [(0, .ref (E.1 + 0)), (1, .int n)]) (by decide +kernel) (Nat.le_of_ble_eq_true rfl) rfl ?_
  refine x_iload_n 1 d_X3_ahead_0 rfl rfl ?_
  refine x_iconst (x := 0) d_X3_ahead_1 (by decide) ?_
  refine x_bipush (x := 100) d_X3_ahead_2 (by decide) ?_
  refine x_csip (as := [.int n, .int 0, .int 100]) (c_X3_isWithin l E μ n 0 100) v_X3_isWithin q180 q179 rfl ⟨Nat.le_of_ble_eq_true rfl, Nat.le_of_ble_eq_true rfl⟩ rfl (Nat.le_of_ble_eq_true rfl) d_X3_ahead_4 ?_
  refine x_ifb_ne 17 d_X3_ahead_7 (by decide) (fun c1 => ?_) (fun c1 => ?_)
  · skip
    obtain ⟨h, hh, rfl⟩ := inR_nat (n := 100) (by decide) c1
    refine x_aload_n 0 d_X3_ahead_17 rfl rfl ?_
    refine x_getr (j := 1) 10 x_c3 rfl (Nat.le_of_ble_eq_true rfl) q148 rfl d_X3_ahead_18 ?_
    refine x_aload_n 0 d_X3_ahead_21 rfl rfl ?_
    refine x_getr (j := 0) 1 x_c3 rfl (Nat.le_of_ble_eq_true rfl) q147 rfl d_X3_ahead_22 ?_
    refine x_cvv (k := 10) (as := [.ref (E.1 + 1)]) (c_X0_becomes l E μ x_pr10 x_pr1 (by decide) hL hH) v_X0_becomes w_X0_becomes q309 (p_ob x_pr10) rfl ⟨Nat.le_of_ble_eq_true rfl, Nat.le_of_ble_eq_true rfl⟩ rfl (Nat.le_of_ble_eq_true rfl) d_X3_ahead_25 ?_
    rintro μ2 ⟨hT3, hTH4, hF5⟩
    have hL6 := PR.cg hL (μ' := μ2) (fun id hid => (hF5 _ (by omega)))
    have hLH7 := hH
    rw [← (show μ2 1 = μ 1 from (hF5 _ (by omega)))] at hLH7
    have hX8 := XR.cg hX (μ' := μ2) (fun id hid => (hF5 _ (by omega)))
    have hD9 := XD.cg hD (μ' := μ2) (fun id hid => (hF5 _ (by omega)))
    have hF10 : ∀ id, 41 ≤ id → μ2 id = μ id := fun id hid => (show μ2 id = μ id from (hF5 _ (by omega))).trans (hF id hid)
    refine x_aload_n 0 d_X3_ahead_28 rfl rfl ?_
    refine x_getr (j := 1) 10 x_c3 rfl (Nat.le_of_ble_eq_true rfl) q148 rfl d_X3_ahead_29 ?_
    refine x_iload_n 1 d_X3_ahead_32 rfl rfl ?_
    refine x_cvi (k := 10) (as := [.int (nI h)]) (c_X0_yardBehind l E μ2 x_pr10 hT3 hWF (n := h) (by omega)) v_X0_yardBehind w_X0_yardBehind q313 (p_ob x_pr10) rfl ⟨Nat.le_of_ble_eq_true rfl, Nat.le_of_ble_eq_true rfl⟩ rfl (Nat.le_of_ble_eq_true rfl) d_X3_ahead_33 ?_
    rintro _ μ11 ⟨rfl, hF12⟩
    have hL13 := PR.cg hL6 (μ' := μ11) (fun id hid => (hF12 _ (by omega)))
    have hLH14 := hLH7
    rw [← (show μ11 1 = μ2 1 from (hF12 _ (by omega)))] at hLH14
    have hX15 := XR.cg hX8 (μ' := μ11) (fun id hid => (hF12 _ (by omega)))
    have hD16 := XD.cg hD9 (μ' := μ11) (fun id hid => (hF12 _ (by omega)))
    have hF17 : ∀ id, 41 ≤ id → μ11 id = μ id := fun id hid => (show μ11 id = μ2 id from (hF12 _ (by omega))).trans (hF10 id hid)
    refine x_iret rfl d_X3_ahead_36 ?_
    have e9 : F_ahead g (nI h) = (hoursF (gA g) h 1, g) := by simp [F_ahead, x_b_f, x_b_t, c1, nI_clamp (n := h) (by omega)]
    rw [e9]
    exact ⟨rfl, ⟨hL13, hLH14, hX15, hD16⟩, hF17⟩
  · skip
    refine x_aload_n 0 d_X3_ahead_10 rfl rfl ?_
    refine x_ldc q182 d_X3_ahead_11 ?_
    refine x_cvi (k := 0) (as := [.int (-1000001)]) (c_X3_finding l E μ (i := 0) hD (by decide) (w := (-1000001)) (by decide)) v_X3_finding w_X3_finding q183 o_X rfl ⟨Nat.le_of_ble_eq_true rfl, Nat.le_of_ble_eq_true rfl⟩ rfl (Nat.le_of_ble_eq_true rfl) d_X3_ahead_13 ?_
    rintro _ μ18 ⟨rfl, hD19, hF20⟩
    have hL21 := PR.cg hL (μ' := μ18) (fun id hid => (hF20 _ (by omega)))
    have hLH22 := hH
    rw [← (show μ18 1 = μ 1 from (hF20 _ (by omega)))] at hLH22
    have hX23 := XR.cg hX (μ' := μ18) (fun id hid => (hF20 _ (by omega)))
    have hF24 : ∀ id, 41 ≤ id → μ18 id = μ id := fun id hid => (show μ18 id = μ id from (hF20 _ (by omega))).trans (hF id hid)
    refine x_iret rfl d_X3_ahead_16 ?_
    have e9 : F_ahead g n = fin g 0 := by simp [F_ahead, x_b_f, x_b_t, c1]
    rw [e9]
    exact ⟨rfl, XS.fin hL21 hLH22 hX23 hD19, hF24⟩
def m_X3_believes : x_M := (yX3_believes, prog_1_method_13_code, 3, (some FieldType.int), 6, 140)
theorem v_X3_believes : x_VM m_X3_believes 2 := ⟨q320, q1, by decide +kernel, by decide +kernel, by decide +kernel⟩
theorem w_X3_believes : x_VI m_X3_believes := ⟨q318, q319⟩
theorem d_X3_believes_0 : x_dec m_X3_believes 0 (.aload_n 0) 1 1 := ⟨by decide +kernel, rfl⟩
theorem d_X3_believes_1 : x_dec m_X3_believes 1 (.iload_n 1) 1 2 := ⟨by decide +kernel, rfl⟩
theorem d_X3_believes_2 : x_dec m_X3_believes 2 (.invokevirtual 81) 3 5 := ⟨by decide +kernel, rfl⟩
theorem d_X3_believes_5 : x_dec m_X3_believes 5 (.ifCond .eq 13) 3 8 := ⟨by decide +kernel, rfl⟩
theorem d_X3_believes_8 : x_dec m_X3_believes 8 (.iload_n 2) 1 9 := ⟨by decide +kernel, rfl⟩
theorem d_X3_believes_9 : x_dec m_X3_believes 9 (.iconst 0) 1 10 := ⟨by decide +kernel, rfl⟩
theorem d_X3_believes_10 : x_dec m_X3_believes 10 (.bipush 100) 2 12 := ⟨by decide +kernel, rfl⟩
theorem d_X3_believes_12 : x_dec m_X3_believes 12 (.invokestatic 51) 3 15 := ⟨by decide +kernel, rfl⟩
theorem d_X3_believes_15 : x_dec m_X3_believes 15 (.ifCond .ne 10) 3 18 := ⟨by decide +kernel, rfl⟩
theorem d_X3_believes_18 : x_dec m_X3_believes 18 (.aload_n 0) 1 19 := ⟨by decide +kernel, rfl⟩
theorem d_X3_believes_19 : x_dec m_X3_believes 19 (.ldc 55) 2 21 := ⟨by decide +kernel, rfl⟩
theorem d_X3_believes_21 : x_dec m_X3_believes 21 (.invokevirtual 56) 3 24 := ⟨by decide +kernel, rfl⟩
theorem d_X3_believes_24 : x_dec m_X3_believes 24 (.ireturn) 1 25 := ⟨by decide +kernel, rfl⟩
theorem d_X3_believes_25 : x_dec m_X3_believes 25 (.aload_n 0) 1 26 := ⟨by decide +kernel, rfl⟩
theorem d_X3_believes_26 : x_dec m_X3_believes 26 (.getfield 16) 3 29 := ⟨by decide +kernel, rfl⟩
theorem d_X3_believes_29 : x_dec m_X3_believes 29 (.aload_n 0) 1 30 := ⟨by decide +kernel, rfl⟩
theorem d_X3_believes_30 : x_dec m_X3_believes 30 (.getfield 12) 3 33 := ⟨by decide +kernel, rfl⟩
theorem d_X3_believes_33 : x_dec m_X3_believes 33 (.invokevirtual 133) 3 36 := ⟨by decide +kernel, rfl⟩
theorem d_X3_believes_36 : x_dec m_X3_believes 36 (.aload_n 0) 1 37 := ⟨by decide +kernel, rfl⟩
theorem d_X3_believes_37 : x_dec m_X3_believes 37 (.getfield 16) 3 40 := ⟨by decide +kernel, rfl⟩
theorem d_X3_believes_40 : x_dec m_X3_believes 40 (.iload_n 2) 1 41 := ⟨by decide +kernel, rfl⟩
theorem d_X3_believes_41 : x_dec m_X3_believes 41 (.invokevirtual 116) 3 44 := ⟨by decide +kernel, rfl⟩
theorem d_X3_believes_44 : x_dec m_X3_believes 44 (.aload_n 0) 1 45 := ⟨by decide +kernel, rfl⟩
theorem d_X3_believes_45 : x_dec m_X3_believes 45 (.getfield 16) 3 48 := ⟨by decide +kernel, rfl⟩
theorem d_X3_believes_48 : x_dec m_X3_believes 48 (.getfield 90) 3 51 := ⟨by decide +kernel, rfl⟩
theorem d_X3_believes_51 : x_dec m_X3_believes 51 (.iload_n 1) 1 52 := ⟨by decide +kernel, rfl⟩
theorem d_X3_believes_52 : x_dec m_X3_believes 52 (.iaload) 1 53 := ⟨by decide +kernel, rfl⟩
theorem d_X3_believes_53 : x_dec m_X3_believes 53 (.ireturn) 1 54 := ⟨by decide +kernel, rfl⟩
set_option maxHeartbeats 4000000 in
set_option maxRecDepth 100000 in
theorem c_X3_believes (l : Launch) (E : x_E) (μ : x_Mem) (g : x_SG) (hS : XS g μ) (hI : Inv g) (p n : Int32) : x_Met l m_X3_believes E [.ref (E.1 + 0), .int p, .int n] μ (x_I (fun z m => z = (F_believes g p n).1 ∧ XS (F_believes g p n).2 m ∧ ∀ id, 41 ≤ id → m id = μ id)) := by
  obtain ⟨hL, hH, hX, hD⟩ := hS
  have hWF := hI.1.1
  have hn7 := hWF.2.1
  have hpn := hWF.1
  have hF : ∀ id, 41 ≤ id → μ id = μ id := fun _ _ => rfl
  refine x_enter (lv := [(0, .ref (E.1 + 0)), (1, .int p), (2, .int n)]) (by decide +kernel) (Nat.le_of_ble_eq_true rfl) rfl ?_
  refine x_aload_n 0 d_X3_believes_0 rfl rfl ?_
  refine x_iload_n 1 d_X3_believes_1 rfl rfl ?_
  refine x_cvip (k := 0) (as := [.int p]) (c_X3_isPerson l E μ hL p) v_X3_isPerson w_X3_isPerson q234 o_X rfl ⟨Nat.le_of_ble_eq_true rfl, Nat.le_of_ble_eq_true rfl⟩ rfl (Nat.le_of_ble_eq_true rfl) d_X3_believes_2 ?_
  refine x_ifb_eq 18 d_X3_believes_5 (by decide) (fun c1 => ?_) (fun c1 => ?_)
  · skip
    refine x_aload_n 0 d_X3_believes_18 rfl rfl ?_
    refine x_ldc q182 d_X3_believes_19 ?_
    refine x_cvi (k := 0) (as := [.int (-1000001)]) (c_X3_finding l E μ (i := 0) hD (by decide) (w := (-1000001)) (by decide)) v_X3_finding w_X3_finding q183 o_X rfl ⟨Nat.le_of_ble_eq_true rfl, Nat.le_of_ble_eq_true rfl⟩ rfl (Nat.le_of_ble_eq_true rfl) d_X3_believes_21 ?_
    rintro _ μ2 ⟨rfl, hD3, hF4⟩
    have hL5 := PR.cg hL (μ' := μ2) (fun id hid => (hF4 _ (by omega)))
    have hLH6 := hH
    rw [← (show μ2 1 = μ 1 from (hF4 _ (by omega)))] at hLH6
    have hX7 := XR.cg hX (μ' := μ2) (fun id hid => (hF4 _ (by omega)))
    have hF8 : ∀ id, 41 ≤ id → μ2 id = μ id := fun id hid => (show μ2 id = μ id from (hF4 _ (by omega))).trans (hF id hid)
    refine x_iret rfl d_X3_believes_24 ?_
    have e9 : F_believes g p n = fin g 0 := by simp [F_believes, x_b_f, x_b_t, c1]
    rw [e9]
    exact ⟨rfl, XS.fin hL5 hLH6 hX7 hD3, hF8⟩
  · skip
    obtain ⟨q, hq, rfl⟩ := isP_nat hWF c1
    refine x_iload_n 2 d_X3_believes_8 rfl rfl ?_
    refine x_iconst (x := 0) d_X3_believes_9 (by decide) ?_
    refine x_bipush (x := 100) d_X3_believes_10 (by decide) ?_
    refine x_csip (as := [.int n, .int 0, .int 100]) (c_X3_isWithin l E μ n 0 100) v_X3_isWithin q180 q179 rfl ⟨Nat.le_of_ble_eq_true rfl, Nat.le_of_ble_eq_true rfl⟩ rfl (Nat.le_of_ble_eq_true rfl) d_X3_believes_12 ?_
    refine x_ifb_ne 25 d_X3_believes_15 (by decide) (fun c9 => ?_) (fun c9 => ?_)
    · skip
      obtain ⟨h, hh, rfl⟩ := inR_nat (n := 100) (by decide) c9
      refine x_aload_n 0 d_X3_believes_25 rfl rfl ?_
      refine x_getr (j := 1) 10 x_c3 rfl (Nat.le_of_ble_eq_true rfl) q148 rfl d_X3_believes_26 ?_
      refine x_aload_n 0 d_X3_believes_29 rfl rfl ?_
      refine x_getr (j := 0) 1 x_c3 rfl (Nat.le_of_ble_eq_true rfl) q147 rfl d_X3_believes_30 ?_
      refine x_cvv (k := 10) (as := [.ref (E.1 + 1)]) (c_X0_becomes l E μ x_pr10 x_pr1 (by decide) hL hH) v_X0_becomes w_X0_becomes q309 (p_ob x_pr10) rfl ⟨Nat.le_of_ble_eq_true rfl, Nat.le_of_ble_eq_true rfl⟩ rfl (Nat.le_of_ble_eq_true rfl) d_X3_believes_33 ?_
      rintro μ10 ⟨hT11, hTH12, hF13⟩
      have hL14 := PR.cg hL (μ' := μ10) (fun id hid => (hF13 _ (by omega)))
      have hLH15 := hH
      rw [← (show μ10 1 = μ 1 from (hF13 _ (by omega)))] at hLH15
      have hX16 := XR.cg hX (μ' := μ10) (fun id hid => (hF13 _ (by omega)))
      have hD17 := XD.cg hD (μ' := μ10) (fun id hid => (hF13 _ (by omega)))
      have hF18 : ∀ id, 41 ≤ id → μ10 id = μ id := fun id hid => (show μ10 id = μ id from (hF13 _ (by omega))).trans (hF id hid)
      refine x_aload_n 0 d_X3_believes_36 rfl rfl ?_
      refine x_getr (j := 1) 10 x_c3 rfl (Nat.le_of_ble_eq_true rfl) q148 rfl d_X3_believes_37 ?_
      refine x_iload_n 2 d_X3_believes_40 rfl rfl ?_
      refine x_cvv (k := 10) (as := [.int (nI h)]) (c_X0_passHours l E μ10 x_pr10 hT11 hWF hTH12 (n := h) (by omega)) v_X0_passHours w_X0_passHours q264 (p_ob x_pr10) rfl ⟨Nat.le_of_ble_eq_true rfl, Nat.le_of_ble_eq_true rfl⟩ rfl (Nat.le_of_ble_eq_true rfl) d_X3_believes_41 ?_
      rintro μ19 ⟨hR20, x22, hF21⟩
      have hL23 := PR.cg hL14 (μ' := μ19) (fun id hid => (hF21 _ (by omega)))
      have hLH24 := hLH15
      rw [← (show μ19 1 = μ10 1 from (hF21 _ (by omega)))] at hLH24
      have hX25 := XR.cg hX16 (μ' := μ19) (fun id hid => (hF21 _ (by omega)))
      have hD26 := XD.cg hD17 (μ' := μ19) (fun id hid => (hF21 _ (by omega)))
      have hF27 : ∀ id, 41 ≤ id → μ19 id = μ id := fun id hid => (show μ19 id = μ10 id from (hF21 _ (by omega))).trans (hF18 id hid)
      refine x_aload_n 0 d_X3_believes_44 rfl rfl ?_
      refine x_getr (j := 1) 10 x_c3 rfl (Nat.le_of_ble_eq_true rfl) q148 rfl d_X3_believes_45 ?_
      refine x_getr (j := 3) (10 + 4) x_c0 (p_kd x_pr10) (Nat.le_of_ble_eq_true rfl) q39 (p_f3 x_pr10) d_X3_believes_48 ?_
      refine x_iload_n 1 d_X3_believes_51 rfl rfl ?_
      refine x_ialdN (z := (hoursF (gA g) h) (24 + 3 * q + 2)) 8 q (p_k4 x_pr10) (p_l4 x_pr10) (by omega) (by decide) (PR.bl hR20 q (by omega)) d_X3_believes_52 ?_
      refine x_iret rfl d_X3_believes_53 ?_
      have e9 : F_believes g (nI q) (nI h) = ((hoursF (gA g) h) (24 + 3 * q + 2), g) := by simp [F_believes, x_b_f, x_b_t, c1, c9, nI_clamp (n := q) (by omega), nI_clamp (n := h) (by omega)]
      rw [e9]
      exact ⟨rfl, ⟨hL23, hLH24, hX25, hD26⟩, hF27⟩
    · skip
      refine x_aload_n 0 d_X3_believes_18 rfl rfl ?_
      refine x_ldc q182 d_X3_believes_19 ?_
      refine x_cvi (k := 0) (as := [.int (-1000001)]) (c_X3_finding l E μ (i := 0) hD (by decide) (w := (-1000001)) (by decide)) v_X3_finding w_X3_finding q183 o_X rfl ⟨Nat.le_of_ble_eq_true rfl, Nat.le_of_ble_eq_true rfl⟩ rfl (Nat.le_of_ble_eq_true rfl) d_X3_believes_21 ?_
      rintro _ μ28 ⟨rfl, hD29, hF30⟩
      have hL31 := PR.cg hL (μ' := μ28) (fun id hid => (hF30 _ (by omega)))
      have hLH32 := hH
      rw [← (show μ28 1 = μ 1 from (hF30 _ (by omega)))] at hLH32
      have hX33 := XR.cg hX (μ' := μ28) (fun id hid => (hF30 _ (by omega)))
      have hF34 : ∀ id, 41 ≤ id → μ28 id = μ id := fun id hid => (show μ28 id = μ id from (hF30 _ (by omega))).trans (hF id hid)
      refine x_iret rfl d_X3_believes_24 ?_
      have e9 : F_believes g (nI q) n = fin g 0 := by simp [F_believes, x_b_f, x_b_t, c1, c9, nI_clamp (n := q) (by omega)]
      rw [e9]
      exact ⟨rfl, XS.fin hL31 hLH32 hX33 hD29, hF34⟩
def m_X3_when : x_M := (yX3_when, prog_1_method_14_code, 3, (some FieldType.int), 5, 118)
theorem v_X3_when : x_VM m_X3_when 1 := ⟨q324, q1, by decide +kernel, by decide +kernel, by decide +kernel⟩
theorem w_X3_when : x_VI m_X3_when := ⟨q322, q323⟩
theorem d_X3_when_0 : x_dec m_X3_when 0 (.iload_n 1) 1 1 := ⟨by decide +kernel, rfl⟩
theorem d_X3_when_1 : x_dec m_X3_when 1 (.invokestatic 96) 3 4 := ⟨by decide +kernel, rfl⟩
theorem d_X3_when_4 : x_dec m_X3_when 4 (.ifCond .ne 10) 3 7 := ⟨by decide +kernel, rfl⟩
theorem d_X3_when_7 : x_dec m_X3_when 7 (.aload_n 0) 1 8 := ⟨by decide +kernel, rfl⟩
theorem d_X3_when_8 : x_dec m_X3_when 8 (.ldc 55) 2 10 := ⟨by decide +kernel, rfl⟩
theorem d_X3_when_10 : x_dec m_X3_when 10 (.invokevirtual 56) 3 13 := ⟨by decide +kernel, rfl⟩
theorem d_X3_when_13 : x_dec m_X3_when 13 (.ireturn) 1 14 := ⟨by decide +kernel, rfl⟩
theorem d_X3_when_14 : x_dec m_X3_when 14 (.aload_n 0) 1 15 := ⟨by decide +kernel, rfl⟩
theorem d_X3_when_15 : x_dec m_X3_when 15 (.getfield 16) 3 18 := ⟨by decide +kernel, rfl⟩
theorem d_X3_when_18 : x_dec m_X3_when 18 (.aload_n 0) 1 19 := ⟨by decide +kernel, rfl⟩
theorem d_X3_when_19 : x_dec m_X3_when 19 (.getfield 12) 3 22 := ⟨by decide +kernel, rfl⟩
theorem d_X3_when_22 : x_dec m_X3_when 22 (.invokevirtual 133) 3 25 := ⟨by decide +kernel, rfl⟩
theorem d_X3_when_25 : x_dec m_X3_when 25 (.iconst 0) 1 26 := ⟨by decide +kernel, rfl⟩
theorem d_X3_when_26 : x_dec m_X3_when 26 (.istore_n 2) 1 27 := ⟨by decide +kernel, rfl⟩
theorem d_X3_when_27 : x_dec m_X3_when 27 (.iload_n 2) 1 28 := ⟨by decide +kernel, rfl⟩
theorem d_X3_when_28 : x_dec m_X3_when 28 (.bipush 100) 2 30 := ⟨by decide +kernel, rfl⟩
theorem d_X3_when_30 : x_dec m_X3_when 30 (.if_icmp .gt 30) 3 33 := ⟨by decide +kernel, rfl⟩
theorem d_X3_when_33 : x_dec m_X3_when 33 (.aload_n 0) 1 34 := ⟨by decide +kernel, rfl⟩
theorem d_X3_when_34 : x_dec m_X3_when 34 (.getfield 16) 3 37 := ⟨by decide +kernel, rfl⟩
theorem d_X3_when_37 : x_dec m_X3_when 37 (.getfield 99) 3 40 := ⟨by decide +kernel, rfl⟩
theorem d_X3_when_40 : x_dec m_X3_when 40 (.iload_n 1) 1 41 := ⟨by decide +kernel, rfl⟩
theorem d_X3_when_41 : x_dec m_X3_when 41 (.if_icmp .ne 5) 3 44 := ⟨by decide +kernel, rfl⟩
theorem d_X3_when_44 : x_dec m_X3_when 44 (.iload_n 2) 1 45 := ⟨by decide +kernel, rfl⟩
theorem d_X3_when_45 : x_dec m_X3_when 45 (.ireturn) 1 46 := ⟨by decide +kernel, rfl⟩
theorem d_X3_when_46 : x_dec m_X3_when 46 (.aload_n 0) 1 47 := ⟨by decide +kernel, rfl⟩
theorem d_X3_when_47 : x_dec m_X3_when 47 (.getfield 16) 3 50 := ⟨by decide +kernel, rfl⟩
theorem d_X3_when_50 : x_dec m_X3_when 50 (.invokevirtual 140) 3 53 := ⟨by decide +kernel, rfl⟩
theorem d_X3_when_53 : x_dec m_X3_when 53 (.pop) 1 54 := ⟨by decide +kernel, rfl⟩
theorem d_X3_when_54 : x_dec m_X3_when 54 (.iinc 2 1) 3 57 := ⟨by decide +kernel, rfl⟩
theorem d_X3_when_57 : x_dec m_X3_when 57 (.goto (-30)) 3 60 := ⟨by decide +kernel, rfl⟩
theorem d_X3_when_60 : x_dec m_X3_when 60 (.aload_n 0) 1 61 := ⟨by decide +kernel, rfl⟩
theorem d_X3_when_61 : x_dec m_X3_when 61 (.ldc 144) 2 63 := ⟨by decide +kernel, rfl⟩
theorem d_X3_when_63 : x_dec m_X3_when 63 (.invokevirtual 56) 3 66 := ⟨by decide +kernel, rfl⟩
theorem d_X3_when_66 : x_dec m_X3_when 66 (.ireturn) 1 67 := ⟨by decide +kernel, rfl⟩
set_option maxHeartbeats 4000000 in
set_option maxRecDepth 100000 in
theorem c_X3_when (l : Launch) (E : x_E) (μ : x_Mem) (g : x_SG) (hS : XS g μ) (hI : Inv g) (y : Int32) : x_Met l m_X3_when E [.ref (E.1 + 0), .int y] μ (x_I (fun z m => z = (F_when g y).1 ∧ XS (F_when g y).2 m ∧ ∀ id, 41 ≤ id → m id = μ id)) := by
  obtain ⟨hL, hH, hX, hD⟩ := hS
  have hWF := hI.1.1
  have hn7 := hWF.2.1
  have hpn := hWF.1
  have hF : ∀ id, 41 ≤ id → μ id = μ id := fun _ _ => rfl
  refine x_enter (lv := [(0, .ref (E.1 + 0)), (1, .int y)]) (by decide +kernel) (Nat.le_of_ble_eq_true rfl) rfl ?_
  refine x_iload_n 1 d_X3_when_0 rfl rfl ?_
  refine x_csip (as := [.int y]) (c_X3_isYard l E μ y) v_X3_isYard q248 q247 rfl ⟨Nat.le_of_ble_eq_true rfl, Nat.le_of_ble_eq_true rfl⟩ rfl (Nat.le_of_ble_eq_true rfl) d_X3_when_1 ?_
  refine x_ifb_ne 14 d_X3_when_4 (by decide) (fun c1 => ?_) (fun c1 => ?_)
  · skip
    refine x_aload_n 0 d_X3_when_14 rfl rfl ?_
    refine x_getr (j := 1) 10 x_c3 rfl (Nat.le_of_ble_eq_true rfl) q148 rfl d_X3_when_15 ?_
    refine x_aload_n 0 d_X3_when_18 rfl rfl ?_
    refine x_getr (j := 0) 1 x_c3 rfl (Nat.le_of_ble_eq_true rfl) q147 rfl d_X3_when_19 ?_
    refine x_cvv (k := 10) (as := [.ref (E.1 + 1)]) (c_X0_becomes l E μ x_pr10 x_pr1 (by decide) hL hH) v_X0_becomes w_X0_becomes q309 (p_ob x_pr10) rfl ⟨Nat.le_of_ble_eq_true rfl, Nat.le_of_ble_eq_true rfl⟩ rfl (Nat.le_of_ble_eq_true rfl) d_X3_when_22 ?_
    rintro μ2 ⟨hT3, hTH4, hF5⟩
    have hL6 := PR.cg hL (μ' := μ2) (fun id hid => (hF5 _ (by omega)))
    have hLH7 := hH
    rw [← (show μ2 1 = μ 1 from (hF5 _ (by omega)))] at hLH7
    have hX8 := XR.cg hX (μ' := μ2) (fun id hid => (hF5 _ (by omega)))
    have hD9 := XD.cg hD (μ' := μ2) (fun id hid => (hF5 _ (by omega)))
    have hF10 : ∀ id, 41 ≤ id → μ2 id = μ id := fun id hid => (show μ2 id = μ id from (hF5 _ (by omega))).trans (hF id hid)
    refine x_iconst (x := 0) d_X3_when_25 (by decide) ?_
    refine x_istore_n [(2, .int 0), (0, .ref (E.1 + 0)), (1, .int y)] d_X3_when_26 rfl (Nat.le_of_ble_eq_true rfl) rfl ?_
    have L11 : ∀ i : Nat, i ≤ 101 → ∀ μ14 : x_Mem, (PR (gA g) 1 μ14) → (μ14 1 11 = gA g 0) → (XR g μ14) → (XD (gF g) μ14) → (∀ id, 41 ≤ id → μ14 id = μ id) → (PR (hoursF (gA g) i) 10 μ14) → (∀ j, j < i → decide (hoursF (gA g) j 1 = y) = false) → x_G l E m_X3_when (x_mv E m_X3_when (x_I (fun z m => z = (F_when g y).1 ∧ XS (F_when g y).2 m ∧ ∀ id, 41 ≤ id → m id = μ id))) μ14 27 [(2, .int (nI i)), (0, .ref (E.1 + 0)), (1, .int y)] [] := by
      refine x_down _ 101 (fun i hi13 ih12 => ?_)
      intro μ14 hL1 hH1 hX1 hD1 hF1 hT1 hq
      refine x_iload_n 0 d_X3_when_27 rfl rfl ?_
      refine x_bipush (x := 100) d_X3_when_28 (by decide) ?_
      refine x_icmp_gt 60 d_X3_when_30 (by decide) (fun c15 => ?_) (fun c15 => ?_)
      · skip
        have hN := (nI_ltI (a := 100) (b := i) (by omega) (by omega)).mp c15
        refine x_aload_n 1 d_X3_when_60 rfl rfl ?_
        refine x_ldc q326 d_X3_when_61 ?_
        refine x_cvi (k := 0) (as := [.int (-1000004)]) (c_X3_finding l E μ14 (i := 3) hD1 (by decide) (w := (-1000004)) (by decide)) v_X3_finding w_X3_finding q183 o_X rfl ⟨Nat.le_of_ble_eq_true rfl, Nat.le_of_ble_eq_true rfl⟩ rfl (Nat.le_of_ble_eq_true rfl) d_X3_when_63 ?_
        rintro _ μ16 ⟨rfl, hD17, hF18⟩
        have hL19 := PR.cg hL1 (μ' := μ16) (fun id hid => (hF18 _ (by omega)))
        have hLH20 := hH1
        rw [← (show μ16 1 = μ14 1 from (hF18 _ (by omega)))] at hLH20
        have hX21 := XR.cg hX1 (μ' := μ16) (fun id hid => (hF18 _ (by omega)))
        have hF22 : ∀ id, 41 ≤ id → μ16 id = μ id := fun id hid => (show μ16 id = μ14 id from (hF18 _ (by omega))).trans (hF1 id hid)
        have hT23 := PR.cg hT1 (μ' := μ16) (fun id hid => (hF18 _ (by omega)))
        refine x_iret rfl d_X3_when_66 ?_
        have e7 : i = 101 := by omega
        subst e7
        have e8 := firstN_none hq
        have e9 : F_when g y = fin g 3 := by simp [F_when, x_b_f, x_b_t, c1, e8, orN]
        rw [e9]
        exact ⟨rfl, XS.fin hL19 hLH20 hX21 hD17, hF22⟩
      · skip
        have hN : ¬ 100 < i := fun z => c15 (nI_lt z (by omega))
        refine x_aload_n 1 d_X3_when_33 rfl rfl ?_
        refine x_getr (j := 1) 10 x_c3 rfl (Nat.le_of_ble_eq_true rfl) q148 rfl d_X3_when_34 ?_
        refine x_getiV (j := 6) (z := (hoursF (gA g) i) 1) x_c0 (p_kd x_pr10) (Nat.le_of_ble_eq_true rfl) q47 (p_n6 x_pr10) (PR.f6 hT1) d_X3_when_37 ?_
        refine x_iload_n 2 d_X3_when_40 rfl rfl ?_
        refine x_icmp_ne 46 d_X3_when_41 (by decide) (fun c24 => ?_) (fun c24 => ?_)
        · skip
          refine x_aload_n 1 d_X3_when_46 rfl rfl ?_
          refine x_getr (j := 1) 10 x_c3 rfl (Nat.le_of_ble_eq_true rfl) q148 rfl d_X3_when_47 ?_
          refine x_cvi (k := 10) (as := []) (c_X0_passHour l E μ14 x_pr10 hT1 (WF.hours hWF (i)) rfl) v_X0_passHour w_X0_passHour q325 (p_ob x_pr10) rfl ⟨Nat.le_of_ble_eq_true rfl, Nat.le_of_ble_eq_true rfl⟩ rfl (Nat.le_of_ble_eq_true rfl) d_X3_when_50 ?_
          rintro _ μ25 ⟨rfl, hR26, x28, hF27⟩
          have hL29 := PR.cg hL1 (μ' := μ25) (fun id hid => (hF27 _ (by omega)))
          have hLH30 := hH1
          rw [← (show μ25 1 = μ14 1 from (hF27 _ (by omega)))] at hLH30
          have hX31 := XR.cg hX1 (μ' := μ25) (fun id hid => (hF27 _ (by omega)))
          have hD32 := XD.cg hD1 (μ' := μ25) (fun id hid => (hF27 _ (by omega)))
          have hF33 : ∀ id, 41 ≤ id → μ25 id = μ id := fun id hid => (show μ25 id = μ14 id from (hF27 _ (by omega))).trans (hF1 id hid)
          refine x_pop d_X3_when_53 rfl ?_
          refine x_iinc [(2, .int (nI (i + 1))), (0, .ref (E.1 + 0)), (1, .int y)] 0 d_X3_when_54 rfl (x_inc _) (Nat.le_of_ble_eq_true rfl) rfl ?_
          refine x_goto 27 d_X3_when_57 (by decide) ?_
          exact ih12 (i + 1) (by omega) (by omega) μ25 hL29 hLH30 hX31 hD32 hF33 hR26 (lt_s hq (decide_eq_false c24))
        · skip
          refine x_iload_n 0 d_X3_when_44 rfl rfl ?_
          refine x_iret rfl d_X3_when_45 ?_
          have e8 := firstN_some (n := 101) (i := i) (by omega) (decide_eq_true c24) hq
          have e9 : F_when g y = (nI i, g) := by simp [F_when, x_b_f, x_b_t, c1, e8, orN, show i < 101 by omega]
          rw [e9]
          exact ⟨rfl, ⟨hL1, hH1, hX1, hD1⟩, hF1⟩
    exact L11 0 (by omega) μ2 hL6 hLH7 hX8 hD9 hF10 hT3 (fun _ h => absurd h (Nat.not_lt_zero _))
  · skip
    refine x_aload_n 0 d_X3_when_7 rfl rfl ?_
    refine x_ldc q182 d_X3_when_8 ?_
    refine x_cvi (k := 0) (as := [.int (-1000001)]) (c_X3_finding l E μ (i := 0) hD (by decide) (w := (-1000001)) (by decide)) v_X3_finding w_X3_finding q183 o_X rfl ⟨Nat.le_of_ble_eq_true rfl, Nat.le_of_ble_eq_true rfl⟩ rfl (Nat.le_of_ble_eq_true rfl) d_X3_when_10 ?_
    rintro _ μ34 ⟨rfl, hD35, hF36⟩
    have hL37 := PR.cg hL (μ' := μ34) (fun id hid => (hF36 _ (by omega)))
    have hLH38 := hH
    rw [← (show μ34 1 = μ 1 from (hF36 _ (by omega)))] at hLH38
    have hX39 := XR.cg hX (μ' := μ34) (fun id hid => (hF36 _ (by omega)))
    have hF40 : ∀ id, 41 ≤ id → μ34 id = μ id := fun id hid => (show μ34 id = μ id from (hF36 _ (by omega))).trans (hF id hid)
    refine x_iret rfl d_X3_when_13 ?_
    have e9 : F_when g y = fin g 0 := by simp [F_when, x_b_f, x_b_t, c1]
    rw [e9]
    exact ⟨rfl, XS.fin hL37 hLH38 hX39 hD35, hF40⟩
def m_X3_falls : x_M := (yX3_falls, prog_1_method_15_code, 2, (some FieldType.int), 5, 118)
theorem v_X3_falls : x_VM m_X3_falls 0 := ⟨q330, q1, by decide +kernel, by decide +kernel, by decide +kernel⟩
theorem w_X3_falls : x_VI m_X3_falls := ⟨q328, q329⟩
theorem d_X3_falls_0 : x_dec m_X3_falls 0 (.aload_n 0) 1 1 := ⟨by decide +kernel, rfl⟩
theorem d_X3_falls_1 : x_dec m_X3_falls 1 (.getfield 16) 3 4 := ⟨by decide +kernel, rfl⟩
theorem d_X3_falls_4 : x_dec m_X3_falls 4 (.aload_n 0) 1 5 := ⟨by decide +kernel, rfl⟩
theorem d_X3_falls_5 : x_dec m_X3_falls 5 (.getfield 12) 3 8 := ⟨by decide +kernel, rfl⟩
theorem d_X3_falls_8 : x_dec m_X3_falls 8 (.invokevirtual 133) 3 11 := ⟨by decide +kernel, rfl⟩
theorem d_X3_falls_11 : x_dec m_X3_falls 11 (.iconst 0) 1 12 := ⟨by decide +kernel, rfl⟩
theorem d_X3_falls_12 : x_dec m_X3_falls 12 (.istore_n 1) 1 13 := ⟨by decide +kernel, rfl⟩
theorem d_X3_falls_13 : x_dec m_X3_falls 13 (.iload_n 1) 1 14 := ⟨by decide +kernel, rfl⟩
theorem d_X3_falls_14 : x_dec m_X3_falls 14 (.bipush 100) 2 16 := ⟨by decide +kernel, rfl⟩
theorem d_X3_falls_16 : x_dec m_X3_falls 16 (.if_icmp .gt 48) 3 19 := ⟨by decide +kernel, rfl⟩
theorem d_X3_falls_19 : x_dec m_X3_falls 19 (.aload_n 0) 1 20 := ⟨by decide +kernel, rfl⟩
theorem d_X3_falls_20 : x_dec m_X3_falls 20 (.getfield 16) 3 23 := ⟨by decide +kernel, rfl⟩
theorem d_X3_falls_23 : x_dec m_X3_falls 23 (.getfield 99) 3 26 := ⟨by decide +kernel, rfl⟩
theorem d_X3_falls_26 : x_dec m_X3_falls 26 (.bipush 16) 2 28 := ⟨by decide +kernel, rfl⟩
theorem d_X3_falls_28 : x_dec m_X3_falls 28 (.if_icmp .ge 22) 3 31 := ⟨by decide +kernel, rfl⟩
theorem d_X3_falls_31 : x_dec m_X3_falls 31 (.aload_n 0) 1 32 := ⟨by decide +kernel, rfl⟩
theorem d_X3_falls_32 : x_dec m_X3_falls 32 (.getfield 16) 3 35 := ⟨by decide +kernel, rfl⟩
theorem d_X3_falls_35 : x_dec m_X3_falls 35 (.aload_n 0) 1 36 := ⟨by decide +kernel, rfl⟩
theorem d_X3_falls_36 : x_dec m_X3_falls 36 (.getfield 16) 3 39 := ⟨by decide +kernel, rfl⟩
theorem d_X3_falls_39 : x_dec m_X3_falls 39 (.getfield 99) 3 42 := ⟨by decide +kernel, rfl⟩
theorem d_X3_falls_42 : x_dec m_X3_falls 42 (.invokevirtual 66) 3 45 := ⟨by decide +kernel, rfl⟩
theorem d_X3_falls_45 : x_dec m_X3_falls 45 (.ifCond .ne 5) 3 48 := ⟨by decide +kernel, rfl⟩
theorem d_X3_falls_48 : x_dec m_X3_falls 48 (.iload_n 1) 1 49 := ⟨by decide +kernel, rfl⟩
theorem d_X3_falls_49 : x_dec m_X3_falls 49 (.ireturn) 1 50 := ⟨by decide +kernel, rfl⟩
theorem d_X3_falls_50 : x_dec m_X3_falls 50 (.aload_n 0) 1 51 := ⟨by decide +kernel, rfl⟩
theorem d_X3_falls_51 : x_dec m_X3_falls 51 (.getfield 16) 3 54 := ⟨by decide +kernel, rfl⟩
theorem d_X3_falls_54 : x_dec m_X3_falls 54 (.invokevirtual 140) 3 57 := ⟨by decide +kernel, rfl⟩
theorem d_X3_falls_57 : x_dec m_X3_falls 57 (.pop) 1 58 := ⟨by decide +kernel, rfl⟩
theorem d_X3_falls_58 : x_dec m_X3_falls 58 (.iinc 1 1) 3 61 := ⟨by decide +kernel, rfl⟩
theorem d_X3_falls_61 : x_dec m_X3_falls 61 (.goto (-48)) 3 64 := ⟨by decide +kernel, rfl⟩
theorem d_X3_falls_64 : x_dec m_X3_falls 64 (.aload_n 0) 1 65 := ⟨by decide +kernel, rfl⟩
theorem d_X3_falls_65 : x_dec m_X3_falls 65 (.ldc 144) 2 67 := ⟨by decide +kernel, rfl⟩
theorem d_X3_falls_67 : x_dec m_X3_falls 67 (.invokevirtual 56) 3 70 := ⟨by decide +kernel, rfl⟩
theorem d_X3_falls_70 : x_dec m_X3_falls 70 (.ireturn) 1 71 := ⟨by decide +kernel, rfl⟩
set_option maxHeartbeats 4000000 in
set_option maxRecDepth 100000 in
theorem c_X3_falls (l : Launch) (E : x_E) (μ : x_Mem) (g : x_SG) (hS : XS g μ) (hI : Inv g) : x_Met l m_X3_falls E [.ref (E.1 + 0)] μ (x_I (fun z m => z = (F_falls g).1 ∧ XS (F_falls g).2 m ∧ ∀ id, 41 ≤ id → m id = μ id)) := by
  obtain ⟨hL, hH, hX, hD⟩ := hS
  have hWF := hI.1.1
  have hn7 := hWF.2.1
  have hpn := hWF.1
  have hF : ∀ id, 41 ≤ id → μ id = μ id := fun _ _ => rfl
  refine x_enter (lv := [(0, .ref (E.1 + 0))]) (by decide +kernel) (Nat.le_of_ble_eq_true rfl) rfl ?_
  refine x_aload_n 0 d_X3_falls_0 rfl rfl ?_
  refine x_getr (j := 1) 10 x_c3 rfl (Nat.le_of_ble_eq_true rfl) q148 rfl d_X3_falls_1 ?_
  refine x_aload_n 0 d_X3_falls_4 rfl rfl ?_
  refine x_getr (j := 0) 1 x_c3 rfl (Nat.le_of_ble_eq_true rfl) q147 rfl d_X3_falls_5 ?_
  refine x_cvv (k := 10) (as := [.ref (E.1 + 1)]) (c_X0_becomes l E μ x_pr10 x_pr1 (by decide) hL hH) v_X0_becomes w_X0_becomes q309 (p_ob x_pr10) rfl ⟨Nat.le_of_ble_eq_true rfl, Nat.le_of_ble_eq_true rfl⟩ rfl (Nat.le_of_ble_eq_true rfl) d_X3_falls_8 ?_
  rintro μ1 ⟨hT2, hTH3, hF4⟩
  have hL5 := PR.cg hL (μ' := μ1) (fun id hid => (hF4 _ (by omega)))
  have hLH6 := hH
  rw [← (show μ1 1 = μ 1 from (hF4 _ (by omega)))] at hLH6
  have hX7 := XR.cg hX (μ' := μ1) (fun id hid => (hF4 _ (by omega)))
  have hD8 := XD.cg hD (μ' := μ1) (fun id hid => (hF4 _ (by omega)))
  have hF9 : ∀ id, 41 ≤ id → μ1 id = μ id := fun id hid => (show μ1 id = μ id from (hF4 _ (by omega))).trans (hF id hid)
  refine x_iconst (x := 0) d_X3_falls_11 (by decide) ?_
  refine x_istore_n [(1, .int 0), (0, .ref (E.1 + 0))] d_X3_falls_12 rfl (Nat.le_of_ble_eq_true rfl) rfl ?_
  have L10 : ∀ i : Nat, i ≤ 101 → ∀ μ13 : x_Mem, (PR (gA g) 1 μ13) → (μ13 1 11 = gA g 0) → (XR g μ13) → (XD (gF g) μ13) → (∀ id, 41 ≤ id → μ13 id = μ id) → (PR (hoursF (gA g) i) 10 μ13) → (∀ j, j < i → fallB (hoursF (gA g) j) = false) → x_G l E m_X3_falls (x_mv E m_X3_falls (x_I (fun z m => z = (F_falls g).1 ∧ XS (F_falls g).2 m ∧ ∀ id, 41 ≤ id → m id = μ id))) μ13 13 [(1, .int (nI i)), (0, .ref (E.1 + 0))] [] := by
    refine x_down _ 101 (fun i hi12 ih11 => ?_)
    intro μ13 hL1 hH1 hX1 hD1 hF1 hT1 hq
    refine x_iload_n 0 d_X3_falls_13 rfl rfl ?_
    refine x_bipush (x := 100) d_X3_falls_14 (by decide) ?_
    refine x_icmp_gt 64 d_X3_falls_16 (by decide) (fun c14 => ?_) (fun c14 => ?_)
    · skip
      have hN := (nI_ltI (a := 100) (b := i) (by omega) (by omega)).mp c14
      refine x_aload_n 1 d_X3_falls_64 rfl rfl ?_
      refine x_ldc q326 d_X3_falls_65 ?_
      refine x_cvi (k := 0) (as := [.int (-1000004)]) (c_X3_finding l E μ13 (i := 3) hD1 (by decide) (w := (-1000004)) (by decide)) v_X3_finding w_X3_finding q183 o_X rfl ⟨Nat.le_of_ble_eq_true rfl, Nat.le_of_ble_eq_true rfl⟩ rfl (Nat.le_of_ble_eq_true rfl) d_X3_falls_67 ?_
      rintro _ μ15 ⟨rfl, hD16, hF17⟩
      have hL18 := PR.cg hL1 (μ' := μ15) (fun id hid => (hF17 _ (by omega)))
      have hLH19 := hH1
      rw [← (show μ15 1 = μ13 1 from (hF17 _ (by omega)))] at hLH19
      have hX20 := XR.cg hX1 (μ' := μ15) (fun id hid => (hF17 _ (by omega)))
      have hF21 : ∀ id, 41 ≤ id → μ15 id = μ id := fun id hid => (show μ15 id = μ13 id from (hF17 _ (by omega))).trans (hF1 id hid)
      have hT22 := PR.cg hT1 (μ' := μ15) (fun id hid => (hF17 _ (by omega)))
      refine x_iret rfl d_X3_falls_70 ?_
      have e7 : i = 101 := by omega
      subst e7
      have e8 := firstN_none hq
      have e9 : F_falls g = fin g 3 := by simp [F_falls, x_b_f, x_b_t, e8, orN]
      rw [e9]
      exact ⟨rfl, XS.fin hL18 hLH19 hX20 hD16, hF21⟩
    · skip
      have hN : ¬ 100 < i := fun z => c14 (nI_lt z (by omega))
      obtain ⟨t, ht17, ht⟩ := (WF.hours hWF i).2.2.2.2.2.1
      refine x_aload_n 1 d_X3_falls_19 rfl rfl ?_
      refine x_getr (j := 1) 10 x_c3 rfl (Nat.le_of_ble_eq_true rfl) q148 rfl d_X3_falls_20 ?_
      refine x_getiV (j := 6) (z := nI t) x_c0 (p_kd x_pr10) (Nat.le_of_ble_eq_true rfl) q47 (p_n6 x_pr10) ((PR.f6 hT1).trans ht) d_X3_falls_23 ?_
      refine x_bipush (x := 16) d_X3_falls_26 (by decide) ?_
      refine x_icmp_ge 50 d_X3_falls_28 (by decide) (fun c23 => ?_) (fun c23 => ?_)
      · skip
        have h16 := x_ge (N := 16) c23 rfl rfl (by omega) (by omega)
        refine x_aload_n 1 d_X3_falls_50 rfl rfl ?_
        refine x_getr (j := 1) 10 x_c3 rfl (Nat.le_of_ble_eq_true rfl) q148 rfl d_X3_falls_51 ?_
        refine x_cvi (k := 10) (as := []) (c_X0_passHour l E μ13 x_pr10 hT1 (WF.hours hWF (i)) rfl) v_X0_passHour w_X0_passHour q325 (p_ob x_pr10) rfl ⟨Nat.le_of_ble_eq_true rfl, Nat.le_of_ble_eq_true rfl⟩ rfl (Nat.le_of_ble_eq_true rfl) d_X3_falls_54 ?_
        rintro _ μ24 ⟨rfl, hR25, x27, hF26⟩
        have hL28 := PR.cg hL1 (μ' := μ24) (fun id hid => (hF26 _ (by omega)))
        have hLH29 := hH1
        rw [← (show μ24 1 = μ13 1 from (hF26 _ (by omega)))] at hLH29
        have hX30 := XR.cg hX1 (μ' := μ24) (fun id hid => (hF26 _ (by omega)))
        have hD31 := XD.cg hD1 (μ' := μ24) (fun id hid => (hF26 _ (by omega)))
        have hF32 : ∀ id, 41 ≤ id → μ24 id = μ id := fun id hid => (show μ24 id = μ13 id from (hF26 _ (by omega))).trans (hF1 id hid)
        refine x_pop d_X3_falls_57 rfl ?_
        refine x_iinc [(1, .int (nI (i + 1))), (0, .ref (E.1 + 0))] 0 d_X3_falls_58 rfl (x_inc _) (Nat.le_of_ble_eq_true rfl) rfl ?_
        refine x_goto 13 d_X3_falls_61 (by decide) ?_
        exact ih11 (i + 1) (by omega) (by omega) μ24 hL28 hLH29 hX30 hD31 hF32 hR25 (lt_s hq (fallB_f1 ht h16 ht17))
      · skip
        have h16 := x_lt (N := 16) c23 rfl rfl (by omega) (by omega)
        refine x_aload_n 1 d_X3_falls_31 rfl rfl ?_
        refine x_getr (j := 1) 10 x_c3 rfl (Nat.le_of_ble_eq_true rfl) q148 rfl d_X3_falls_32 ?_
        refine x_aload_n 1 d_X3_falls_35 rfl rfl ?_
        refine x_getr (j := 1) 10 x_c3 rfl (Nat.le_of_ble_eq_true rfl) q148 rfl d_X3_falls_36 ?_
        refine x_getiV (j := 6) (z := nI t) x_c0 (p_kd x_pr10) (Nat.le_of_ble_eq_true rfl) q47 (p_n6 x_pr10) ((PR.f6 hT1).trans ht) d_X3_falls_39 ?_
        refine x_cvip (k := 10) (as := [.int (nI t)]) (c_X0_isThere l E μ13 x_pr10 hT1 (WF.hours hWF (i)) (k := t) (by omega)) v_X0_isThere w_X0_isThere q213 (p_ob x_pr10) rfl ⟨Nat.le_of_ble_eq_true rfl, Nat.le_of_ble_eq_true rfl⟩ rfl (Nat.le_of_ble_eq_true rfl) d_X3_falls_42 ?_
        refine x_ifb_ne 50 d_X3_falls_45 (by decide) (fun c33 => ?_) (fun c33 => ?_)
        · skip
          refine x_aload_n 1 d_X3_falls_50 rfl rfl ?_
          refine x_getr (j := 1) 10 x_c3 rfl (Nat.le_of_ble_eq_true rfl) q148 rfl d_X3_falls_51 ?_
          refine x_cvi (k := 10) (as := []) (c_X0_passHour l E μ13 x_pr10 hT1 (WF.hours hWF (i)) rfl) v_X0_passHour w_X0_passHour q325 (p_ob x_pr10) rfl ⟨Nat.le_of_ble_eq_true rfl, Nat.le_of_ble_eq_true rfl⟩ rfl (Nat.le_of_ble_eq_true rfl) d_X3_falls_54 ?_
          rintro _ μ34 ⟨rfl, hR35, x37, hF36⟩
          have hL38 := PR.cg hL1 (μ' := μ34) (fun id hid => (hF36 _ (by omega)))
          have hLH39 := hH1
          rw [← (show μ34 1 = μ13 1 from (hF36 _ (by omega)))] at hLH39
          have hX40 := XR.cg hX1 (μ' := μ34) (fun id hid => (hF36 _ (by omega)))
          have hD41 := XD.cg hD1 (μ' := μ34) (fun id hid => (hF36 _ (by omega)))
          have hF42 : ∀ id, 41 ≤ id → μ34 id = μ id := fun id hid => (show μ34 id = μ13 id from (hF36 _ (by omega))).trans (hF1 id hid)
          refine x_pop d_X3_falls_57 rfl ?_
          refine x_iinc [(1, .int (nI (i + 1))), (0, .ref (E.1 + 0))] 0 d_X3_falls_58 rfl (x_inc _) (Nat.le_of_ble_eq_true rfl) rfl ?_
          refine x_goto 13 d_X3_falls_61 (by decide) ?_
          exact ih11 (i + 1) (by omega) (by omega) μ34 hL38 hLH39 hX40 hD41 hF42 hR35 (lt_s hq (fallB_f2 ht ht17 c33))
        · skip
          refine x_iload_n 0 d_X3_falls_48 rfl rfl ?_
          refine x_iret rfl d_X3_falls_49 ?_
          have e8 := firstN_some (n := 101) (i := i) (by omega) (fallB_t ht h16 c33) hq
          have e9 : F_falls g = (nI i, g) := by simp [F_falls, x_b_f, x_b_t, e8, orN, show i < 101 by omega]
          rw [e9]
          exact ⟨rfl, ⟨hL1, hH1, hX1, hD1⟩, hF1⟩
  exact L10 0 (by omega) μ1 hL5 hLH6 hX7 hD8 hF9 hT2 (fun _ h => absurd h (Nat.not_lt_zero _))
def m_X3_settles : x_M := (yX3_settles, prog_1_method_16_code, 3, (some FieldType.int), 5, 118)
theorem v_X3_settles : x_VM m_X3_settles 0 := ⟨q334, q1, by decide +kernel, by decide +kernel, by decide +kernel⟩
theorem w_X3_settles : x_VI m_X3_settles := ⟨q332, q333⟩
theorem d_X3_settles_0 : x_dec m_X3_settles 0 (.aload_n 0) 1 1 := ⟨by decide +kernel, rfl⟩
theorem d_X3_settles_1 : x_dec m_X3_settles 1 (.getfield 16) 3 4 := ⟨by decide +kernel, rfl⟩
theorem d_X3_settles_4 : x_dec m_X3_settles 4 (.aload_n 0) 1 5 := ⟨by decide +kernel, rfl⟩
theorem d_X3_settles_5 : x_dec m_X3_settles 5 (.getfield 12) 3 8 := ⟨by decide +kernel, rfl⟩
theorem d_X3_settles_8 : x_dec m_X3_settles 8 (.invokevirtual 133) 3 11 := ⟨by decide +kernel, rfl⟩
theorem d_X3_settles_11 : x_dec m_X3_settles 11 (.iconst 0) 1 12 := ⟨by decide +kernel, rfl⟩
theorem d_X3_settles_12 : x_dec m_X3_settles 12 (.istore_n 1) 1 13 := ⟨by decide +kernel, rfl⟩
theorem d_X3_settles_13 : x_dec m_X3_settles 13 (.iload_n 1) 1 14 := ⟨by decide +kernel, rfl⟩
theorem d_X3_settles_14 : x_dec m_X3_settles 14 (.bipush 100) 2 16 := ⟨by decide +kernel, rfl⟩
theorem d_X3_settles_16 : x_dec m_X3_settles 16 (.if_icmp .gt 23) 3 19 := ⟨by decide +kernel, rfl⟩
theorem d_X3_settles_19 : x_dec m_X3_settles 19 (.aload_n 0) 1 20 := ⟨by decide +kernel, rfl⟩
theorem d_X3_settles_20 : x_dec m_X3_settles 20 (.getfield 16) 3 23 := ⟨by decide +kernel, rfl⟩
theorem d_X3_settles_23 : x_dec m_X3_settles 23 (.invokevirtual 140) 3 26 := ⟨by decide +kernel, rfl⟩
theorem d_X3_settles_26 : x_dec m_X3_settles 26 (.istore_n 2) 1 27 := ⟨by decide +kernel, rfl⟩
theorem d_X3_settles_27 : x_dec m_X3_settles 27 (.iload_n 2) 1 28 := ⟨by decide +kernel, rfl⟩
theorem d_X3_settles_28 : x_dec m_X3_settles 28 (.ifCond .ne 5) 3 31 := ⟨by decide +kernel, rfl⟩
theorem d_X3_settles_31 : x_dec m_X3_settles 31 (.iload_n 1) 1 32 := ⟨by decide +kernel, rfl⟩
theorem d_X3_settles_32 : x_dec m_X3_settles 32 (.ireturn) 1 33 := ⟨by decide +kernel, rfl⟩
theorem d_X3_settles_33 : x_dec m_X3_settles 33 (.iinc 1 1) 3 36 := ⟨by decide +kernel, rfl⟩
theorem d_X3_settles_36 : x_dec m_X3_settles 36 (.goto (-23)) 3 39 := ⟨by decide +kernel, rfl⟩
theorem d_X3_settles_39 : x_dec m_X3_settles 39 (.aload_n 0) 1 40 := ⟨by decide +kernel, rfl⟩
theorem d_X3_settles_40 : x_dec m_X3_settles 40 (.ldc 144) 2 42 := ⟨by decide +kernel, rfl⟩
theorem d_X3_settles_42 : x_dec m_X3_settles 42 (.invokevirtual 56) 3 45 := ⟨by decide +kernel, rfl⟩
theorem d_X3_settles_45 : x_dec m_X3_settles 45 (.ireturn) 1 46 := ⟨by decide +kernel, rfl⟩
set_option maxHeartbeats 4000000 in
set_option maxRecDepth 100000 in
theorem c_X3_settles (l : Launch) (E : x_E) (μ : x_Mem) (g : x_SG) (hS : XS g μ) (hI : Inv g) : x_Met l m_X3_settles E [.ref (E.1 + 0)] μ (x_I (fun z m => z = (F_settles g).1 ∧ XS (F_settles g).2 m ∧ ∀ id, 41 ≤ id → m id = μ id)) := by
  obtain ⟨hL, hH, hX, hD⟩ := hS
  have hWF := hI.1.1
  have hn7 := hWF.2.1
  have hpn := hWF.1
  have hF : ∀ id, 41 ≤ id → μ id = μ id := fun _ _ => rfl
  refine x_enter (lv := [(0, .ref (E.1 + 0))]) (by decide +kernel) (Nat.le_of_ble_eq_true rfl) rfl ?_
  refine x_aload_n 0 d_X3_settles_0 rfl rfl ?_
  refine x_getr (j := 1) 10 x_c3 rfl (Nat.le_of_ble_eq_true rfl) q148 rfl d_X3_settles_1 ?_
  refine x_aload_n 0 d_X3_settles_4 rfl rfl ?_
  refine x_getr (j := 0) 1 x_c3 rfl (Nat.le_of_ble_eq_true rfl) q147 rfl d_X3_settles_5 ?_
  refine x_cvv (k := 10) (as := [.ref (E.1 + 1)]) (c_X0_becomes l E μ x_pr10 x_pr1 (by decide) hL hH) v_X0_becomes w_X0_becomes q309 (p_ob x_pr10) rfl ⟨Nat.le_of_ble_eq_true rfl, Nat.le_of_ble_eq_true rfl⟩ rfl (Nat.le_of_ble_eq_true rfl) d_X3_settles_8 ?_
  rintro μ1 ⟨hT2, hTH3, hF4⟩
  have hL5 := PR.cg hL (μ' := μ1) (fun id hid => (hF4 _ (by omega)))
  have hLH6 := hH
  rw [← (show μ1 1 = μ 1 from (hF4 _ (by omega)))] at hLH6
  have hX7 := XR.cg hX (μ' := μ1) (fun id hid => (hF4 _ (by omega)))
  have hD8 := XD.cg hD (μ' := μ1) (fun id hid => (hF4 _ (by omega)))
  have hF9 : ∀ id, 41 ≤ id → μ1 id = μ id := fun id hid => (show μ1 id = μ id from (hF4 _ (by omega))).trans (hF id hid)
  refine x_iconst (x := 0) d_X3_settles_11 (by decide) ?_
  refine x_istore_n [(1, .int 0), (0, .ref (E.1 + 0))] d_X3_settles_12 rfl (Nat.le_of_ble_eq_true rfl) rfl ?_
  have L10 : ∀ i : Nat, i ≤ 101 → ∀ μ13 : x_Mem, (PR (gA g) 1 μ13) → (μ13 1 11 = gA g 0) → (XR g μ13) → (XD (gF g) μ13) → (∀ id, 41 ≤ id → μ13 id = μ id) → (PR (hoursF (gA g) i) 10 μ13) → (∀ j, j < i → (!movedB (hoursF (gA g) j)) = false) → x_G l E m_X3_settles (x_mv E m_X3_settles (x_I (fun z m => z = (F_settles g).1 ∧ XS (F_settles g).2 m ∧ ∀ id, 41 ≤ id → m id = μ id))) μ13 13 [(1, .int (nI i)), (0, .ref (E.1 + 0))] [] := by
    refine x_down _ 101 (fun i hi12 ih11 => ?_)
    intro μ13 hL1 hH1 hX1 hD1 hF1 hT1 hq
    refine x_iload_n 0 d_X3_settles_13 rfl rfl ?_
    refine x_bipush (x := 100) d_X3_settles_14 (by decide) ?_
    refine x_icmp_gt 39 d_X3_settles_16 (by decide) (fun c14 => ?_) (fun c14 => ?_)
    · skip
      have hN := (nI_ltI (a := 100) (b := i) (by omega) (by omega)).mp c14
      refine x_aload_n 1 d_X3_settles_39 rfl rfl ?_
      refine x_ldc q326 d_X3_settles_40 ?_
      refine x_cvi (k := 0) (as := [.int (-1000004)]) (c_X3_finding l E μ13 (i := 3) hD1 (by decide) (w := (-1000004)) (by decide)) v_X3_finding w_X3_finding q183 o_X rfl ⟨Nat.le_of_ble_eq_true rfl, Nat.le_of_ble_eq_true rfl⟩ rfl (Nat.le_of_ble_eq_true rfl) d_X3_settles_42 ?_
      rintro _ μ15 ⟨rfl, hD16, hF17⟩
      have hL18 := PR.cg hL1 (μ' := μ15) (fun id hid => (hF17 _ (by omega)))
      have hLH19 := hH1
      rw [← (show μ15 1 = μ13 1 from (hF17 _ (by omega)))] at hLH19
      have hX20 := XR.cg hX1 (μ' := μ15) (fun id hid => (hF17 _ (by omega)))
      have hF21 : ∀ id, 41 ≤ id → μ15 id = μ id := fun id hid => (show μ15 id = μ13 id from (hF17 _ (by omega))).trans (hF1 id hid)
      have hT22 := PR.cg hT1 (μ' := μ15) (fun id hid => (hF17 _ (by omega)))
      refine x_iret rfl d_X3_settles_45 ?_
      have e7 : i = 101 := by omega
      subst e7
      have e8 := firstN_none hq
      have e9 : F_settles g = fin g 3 := by simp [F_settles, x_b_f, x_b_t, e8, orN]
      rw [e9]
      exact ⟨rfl, XS.fin hL18 hLH19 hX20 hD16, hF21⟩
    · skip
      have hN : ¬ 100 < i := fun z => c14 (nI_lt z (by omega))
      refine x_aload_n 1 d_X3_settles_19 rfl rfl ?_
      refine x_getr (j := 1) 10 x_c3 rfl (Nat.le_of_ble_eq_true rfl) q148 rfl d_X3_settles_20 ?_
      refine x_cvi (k := 10) (as := []) (c_X0_passHour l E μ13 x_pr10 hT1 (WF.hours hWF (i)) rfl) v_X0_passHour w_X0_passHour q325 (p_ob x_pr10) rfl ⟨Nat.le_of_ble_eq_true rfl, Nat.le_of_ble_eq_true rfl⟩ rfl (Nat.le_of_ble_eq_true rfl) d_X3_settles_23 ?_
      rintro _ μ23 ⟨rfl, hR24, x26, hF25⟩
      have hL27 := PR.cg hL1 (μ' := μ23) (fun id hid => (hF25 _ (by omega)))
      have hLH28 := hH1
      rw [← (show μ23 1 = μ13 1 from (hF25 _ (by omega)))] at hLH28
      have hX29 := XR.cg hX1 (μ' := μ23) (fun id hid => (hF25 _ (by omega)))
      have hD30 := XD.cg hD1 (μ' := μ23) (fun id hid => (hF25 _ (by omega)))
      have hF31 : ∀ id, 41 ≤ id → μ23 id = μ id := fun id hid => (show μ23 id = μ13 id from (hF25 _ (by omega))).trans (hF1 id hid)
      refine x_istore_n [(2, .int (x_b (movedB (hoursF (gA g) i)))), (1, .int (nI i)), (0, .ref (E.1 + 0))] d_X3_settles_26 rfl (Nat.le_of_ble_eq_true rfl) rfl ?_
      refine x_iload_n 0 d_X3_settles_27 rfl rfl ?_
      refine x_ifb_ne 33 d_X3_settles_28 (by decide) (fun c32 => ?_) (fun c32 => ?_)
      · skip
        refine x_iinc [(1, .int (nI (i + 1))), (2, .int (x_b (movedB (hoursF (gA g) i)))), (0, .ref (E.1 + 0))] 1 d_X3_settles_33 rfl (x_inc _) (Nat.le_of_ble_eq_true rfl) rfl ?_
        refine x_goto 13 d_X3_settles_36 (by decide) ?_
        refine x_lv [0, 2] rfl ?_
        exact ih11 (i + 1) (by omega) (by omega) μ23 hL27 hLH28 hX29 hD30 hF31 hR24 (lt_s hq (by rw [c32]; rfl))
      · skip
        refine x_iload_n 1 d_X3_settles_31 rfl rfl ?_
        refine x_iret rfl d_X3_settles_32 ?_
        have e8 := firstN_some (n := 101) (i := i) (by omega) (by rw [c32]; rfl) hq
        have e9 : F_settles g = (nI i, g) := by simp [F_settles, x_b_f, x_b_t, e8, orN, show i < 101 by omega]
        rw [e9]
        exact ⟨rfl, ⟨hL27, hLH28, hX29, hD30⟩, hF31⟩
  exact L10 0 (by omega) μ1 hL5 hLH6 hX7 hD8 hF9 hT2 (fun _ h => absurd h (Nat.not_lt_zero _))
def m_X3_there : x_M := (yX3_there, prog_1_method_17_code, 2, (some FieldType.int), 6, 140)
theorem v_X3_there : x_VM m_X3_there 1 := ⟨q338, q1, by decide +kernel, by decide +kernel, by decide +kernel⟩
theorem w_X3_there : x_VI m_X3_there := ⟨q336, q337⟩
theorem d_X3_there_0 : x_dec m_X3_there 0 (.iload_n 1) 1 1 := ⟨by decide +kernel, rfl⟩
theorem d_X3_there_1 : x_dec m_X3_there 1 (.iconst 0) 1 2 := ⟨by decide +kernel, rfl⟩
theorem d_X3_there_2 : x_dec m_X3_there 2 (.bipush 100) 2 4 := ⟨by decide +kernel, rfl⟩
theorem d_X3_there_4 : x_dec m_X3_there 4 (.invokestatic 51) 3 7 := ⟨by decide +kernel, rfl⟩
theorem d_X3_there_7 : x_dec m_X3_there 7 (.ifCond .ne 10) 3 10 := ⟨by decide +kernel, rfl⟩
theorem d_X3_there_10 : x_dec m_X3_there 10 (.aload_n 0) 1 11 := ⟨by decide +kernel, rfl⟩
theorem d_X3_there_11 : x_dec m_X3_there 11 (.ldc 55) 2 13 := ⟨by decide +kernel, rfl⟩
theorem d_X3_there_13 : x_dec m_X3_there 13 (.invokevirtual 56) 3 16 := ⟨by decide +kernel, rfl⟩
theorem d_X3_there_16 : x_dec m_X3_there 16 (.ireturn) 1 17 := ⟨by decide +kernel, rfl⟩
theorem d_X3_there_17 : x_dec m_X3_there 17 (.aload_n 0) 1 18 := ⟨by decide +kernel, rfl⟩
theorem d_X3_there_18 : x_dec m_X3_there 18 (.getfield 16) 3 21 := ⟨by decide +kernel, rfl⟩
theorem d_X3_there_21 : x_dec m_X3_there 21 (.aload_n 0) 1 22 := ⟨by decide +kernel, rfl⟩
theorem d_X3_there_22 : x_dec m_X3_there 22 (.getfield 12) 3 25 := ⟨by decide +kernel, rfl⟩
theorem d_X3_there_25 : x_dec m_X3_there 25 (.invokevirtual 133) 3 28 := ⟨by decide +kernel, rfl⟩
theorem d_X3_there_28 : x_dec m_X3_there 28 (.aload_n 0) 1 29 := ⟨by decide +kernel, rfl⟩
theorem d_X3_there_29 : x_dec m_X3_there 29 (.getfield 16) 3 32 := ⟨by decide +kernel, rfl⟩
theorem d_X3_there_32 : x_dec m_X3_there 32 (.iload_n 1) 1 33 := ⟨by decide +kernel, rfl⟩
theorem d_X3_there_33 : x_dec m_X3_there 33 (.invokevirtual 116) 3 36 := ⟨by decide +kernel, rfl⟩
theorem d_X3_there_36 : x_dec m_X3_there 36 (.aload_n 0) 1 37 := ⟨by decide +kernel, rfl⟩
theorem d_X3_there_37 : x_dec m_X3_there 37 (.getfield 16) 3 40 := ⟨by decide +kernel, rfl⟩
theorem d_X3_there_40 : x_dec m_X3_there 40 (.invokevirtual 124) 3 43 := ⟨by decide +kernel, rfl⟩
theorem d_X3_there_43 : x_dec m_X3_there 43 (.ireturn) 1 44 := ⟨by decide +kernel, rfl⟩
set_option maxHeartbeats 4000000 in
set_option maxRecDepth 100000 in
theorem c_X3_there (l : Launch) (E : x_E) (μ : x_Mem) (g : x_SG) (hS : XS g μ) (hI : Inv g) (n : Int32) : x_Met l m_X3_there E [.ref (E.1 + 0), .int n] μ (x_I (fun z m => z = (F_there g n).1 ∧ XS (F_there g n).2 m ∧ ∀ id, 41 ≤ id → m id = μ id)) := by
  obtain ⟨hL, hH, hX, hD⟩ := hS
  have hWF := hI.1.1
  have hn7 := hWF.2.1
  have hpn := hWF.1
  have hF : ∀ id, 41 ≤ id → μ id = μ id := fun _ _ => rfl
  refine x_enter (lv := [(0, .ref (E.1 + 0)), (1, .int n)]) (by decide +kernel) (Nat.le_of_ble_eq_true rfl) rfl ?_
  refine x_iload_n 1 d_X3_there_0 rfl rfl ?_
  refine x_iconst (x := 0) d_X3_there_1 (by decide) ?_
  refine x_bipush (x := 100) d_X3_there_2 (by decide) ?_
  refine x_csip (as := [.int n, .int 0, .int 100]) (c_X3_isWithin l E μ n 0 100) v_X3_isWithin q180 q179 rfl ⟨Nat.le_of_ble_eq_true rfl, Nat.le_of_ble_eq_true rfl⟩ rfl (Nat.le_of_ble_eq_true rfl) d_X3_there_4 ?_
  refine x_ifb_ne 17 d_X3_there_7 (by decide) (fun c1 => ?_) (fun c1 => ?_)
  · skip
    obtain ⟨h, hh, rfl⟩ := inR_nat (n := 100) (by decide) c1
    refine x_aload_n 0 d_X3_there_17 rfl rfl ?_
    refine x_getr (j := 1) 10 x_c3 rfl (Nat.le_of_ble_eq_true rfl) q148 rfl d_X3_there_18 ?_
    refine x_aload_n 0 d_X3_there_21 rfl rfl ?_
    refine x_getr (j := 0) 1 x_c3 rfl (Nat.le_of_ble_eq_true rfl) q147 rfl d_X3_there_22 ?_
    refine x_cvv (k := 10) (as := [.ref (E.1 + 1)]) (c_X0_becomes l E μ x_pr10 x_pr1 (by decide) hL hH) v_X0_becomes w_X0_becomes q309 (p_ob x_pr10) rfl ⟨Nat.le_of_ble_eq_true rfl, Nat.le_of_ble_eq_true rfl⟩ rfl (Nat.le_of_ble_eq_true rfl) d_X3_there_25 ?_
    rintro μ2 ⟨hT3, hTH4, hF5⟩
    have hL6 := PR.cg hL (μ' := μ2) (fun id hid => (hF5 _ (by omega)))
    have hLH7 := hH
    rw [← (show μ2 1 = μ 1 from (hF5 _ (by omega)))] at hLH7
    have hX8 := XR.cg hX (μ' := μ2) (fun id hid => (hF5 _ (by omega)))
    have hD9 := XD.cg hD (μ' := μ2) (fun id hid => (hF5 _ (by omega)))
    have hF10 : ∀ id, 41 ≤ id → μ2 id = μ id := fun id hid => (show μ2 id = μ id from (hF5 _ (by omega))).trans (hF id hid)
    refine x_aload_n 0 d_X3_there_28 rfl rfl ?_
    refine x_getr (j := 1) 10 x_c3 rfl (Nat.le_of_ble_eq_true rfl) q148 rfl d_X3_there_29 ?_
    refine x_iload_n 1 d_X3_there_32 rfl rfl ?_
    refine x_cvv (k := 10) (as := [.int (nI h)]) (c_X0_passHours l E μ2 x_pr10 hT3 hWF hTH4 (n := h) (by omega)) v_X0_passHours w_X0_passHours q264 (p_ob x_pr10) rfl ⟨Nat.le_of_ble_eq_true rfl, Nat.le_of_ble_eq_true rfl⟩ rfl (Nat.le_of_ble_eq_true rfl) d_X3_there_33 ?_
    rintro μ11 ⟨hR12, x14, hF13⟩
    have hL15 := PR.cg hL6 (μ' := μ11) (fun id hid => (hF13 _ (by omega)))
    have hLH16 := hLH7
    rw [← (show μ11 1 = μ2 1 from (hF13 _ (by omega)))] at hLH16
    have hX17 := XR.cg hX8 (μ' := μ11) (fun id hid => (hF13 _ (by omega)))
    have hD18 := XD.cg hD9 (μ' := μ11) (fun id hid => (hF13 _ (by omega)))
    have hF19 : ∀ id, 41 ≤ id → μ11 id = μ id := fun id hid => (show μ11 id = μ2 id from (hF13 _ (by omega))).trans (hF10 id hid)
    refine x_aload_n 0 d_X3_there_36 rfl rfl ?_
    refine x_getr (j := 1) 10 x_c3 rfl (Nat.le_of_ble_eq_true rfl) q148 rfl d_X3_there_37 ?_
    refine x_cvip (k := 10) (as := []) (c_X0_thereSet l E μ11 x_pr10 hR12 ((hWF).hours h)) v_X0_thereSet w_X0_thereSet q296 (p_ob x_pr10) rfl ⟨Nat.le_of_ble_eq_true rfl, Nat.le_of_ble_eq_true rfl⟩ rfl (Nat.le_of_ble_eq_true rfl) d_X3_there_40 ?_
    refine x_iret rfl d_X3_there_43 ?_
    have e9 : F_there g (nI h) = (thereF (hoursF (gA g) h), g) := by simp [F_there, x_b_f, x_b_t, c1, nI_clamp (n := h) (by omega)]
    rw [e9]
    exact ⟨rfl, ⟨hL15, hLH16, hX17, hD18⟩, hF19⟩
  · skip
    refine x_aload_n 0 d_X3_there_10 rfl rfl ?_
    refine x_ldc q182 d_X3_there_11 ?_
    refine x_cvi (k := 0) (as := [.int (-1000001)]) (c_X3_finding l E μ (i := 0) hD (by decide) (w := (-1000001)) (by decide)) v_X3_finding w_X3_finding q183 o_X rfl ⟨Nat.le_of_ble_eq_true rfl, Nat.le_of_ble_eq_true rfl⟩ rfl (Nat.le_of_ble_eq_true rfl) d_X3_there_13 ?_
    rintro _ μ20 ⟨rfl, hD21, hF22⟩
    have hL23 := PR.cg hL (μ' := μ20) (fun id hid => (hF22 _ (by omega)))
    have hLH24 := hH
    rw [← (show μ20 1 = μ 1 from (hF22 _ (by omega)))] at hLH24
    have hX25 := XR.cg hX (μ' := μ20) (fun id hid => (hF22 _ (by omega)))
    have hF26 : ∀ id, 41 ≤ id → μ20 id = μ id := fun id hid => (show μ20 id = μ id from (hF22 _ (by omega))).trans (hF id hid)
    refine x_iret rfl d_X3_there_16 ?_
    have e9 : F_there g n = fin g 0 := by simp [F_there, x_b_f, x_b_t, c1]
    rw [e9]
    exact ⟨rfl, XS.fin hL23 hLH24 hX25 hD21, hF26⟩
def m_X3_kindFor : x_M := (yX3_kindFor, prog_1_method_18_code, 7, (some FieldType.int), 6, 141)
theorem v_X3_kindFor : x_VM m_X3_kindFor 2 := ⟨q342, q1, by decide +kernel, by decide +kernel, by decide +kernel⟩
theorem w_X3_kindFor : x_VI m_X3_kindFor := ⟨q340, q341⟩
theorem d_X3_kindFor_0 : x_dec m_X3_kindFor 0 (.aload_n 0) 1 1 := ⟨by decide +kernel, rfl⟩
theorem d_X3_kindFor_1 : x_dec m_X3_kindFor 1 (.iload_n 1) 1 2 := ⟨by decide +kernel, rfl⟩
theorem d_X3_kindFor_2 : x_dec m_X3_kindFor 2 (.invokevirtual 81) 3 5 := ⟨by decide +kernel, rfl⟩
theorem d_X3_kindFor_5 : x_dec m_X3_kindFor 5 (.ifCond .eq 10) 3 8 := ⟨by decide +kernel, rfl⟩
theorem d_X3_kindFor_8 : x_dec m_X3_kindFor 8 (.iload_n 2) 1 9 := ⟨by decide +kernel, rfl⟩
theorem d_X3_kindFor_9 : x_dec m_X3_kindFor 9 (.invokestatic 145) 3 12 := ⟨by decide +kernel, rfl⟩
theorem d_X3_kindFor_12 : x_dec m_X3_kindFor 12 (.ifCond .ne 10) 3 15 := ⟨by decide +kernel, rfl⟩
theorem d_X3_kindFor_15 : x_dec m_X3_kindFor 15 (.aload_n 0) 1 16 := ⟨by decide +kernel, rfl⟩
theorem d_X3_kindFor_16 : x_dec m_X3_kindFor 16 (.ldc 55) 2 18 := ⟨by decide +kernel, rfl⟩
theorem d_X3_kindFor_18 : x_dec m_X3_kindFor 18 (.invokevirtual 56) 3 21 := ⟨by decide +kernel, rfl⟩
theorem d_X3_kindFor_21 : x_dec m_X3_kindFor 21 (.ireturn) 1 22 := ⟨by decide +kernel, rfl⟩
theorem d_X3_kindFor_22 : x_dec m_X3_kindFor 22 (.iconst 0) 1 23 := ⟨by decide +kernel, rfl⟩
theorem d_X3_kindFor_23 : x_dec m_X3_kindFor 23 (.istore_n 3) 1 24 := ⟨by decide +kernel, rfl⟩
theorem d_X3_kindFor_24 : x_dec m_X3_kindFor 24 (.iconst (-1)) 1 25 := ⟨by decide +kernel, rfl⟩
theorem d_X3_kindFor_25 : x_dec m_X3_kindFor 25 (.istore 4) 2 27 := ⟨by decide +kernel, rfl⟩
theorem d_X3_kindFor_27 : x_dec m_X3_kindFor 27 (.iconst 0) 1 28 := ⟨by decide +kernel, rfl⟩
theorem d_X3_kindFor_28 : x_dec m_X3_kindFor 28 (.istore 5) 2 30 := ⟨by decide +kernel, rfl⟩
theorem d_X3_kindFor_30 : x_dec m_X3_kindFor 30 (.iload 5) 2 32 := ⟨by decide +kernel, rfl⟩
theorem d_X3_kindFor_32 : x_dec m_X3_kindFor 32 (.bipush 7) 2 34 := ⟨by decide +kernel, rfl⟩
theorem d_X3_kindFor_34 : x_dec m_X3_kindFor 34 (.if_icmp .ge 55) 3 37 := ⟨by decide +kernel, rfl⟩
theorem d_X3_kindFor_37 : x_dec m_X3_kindFor 37 (.aload_n 0) 1 38 := ⟨by decide +kernel, rfl⟩
theorem d_X3_kindFor_38 : x_dec m_X3_kindFor 38 (.getfield 16) 3 41 := ⟨by decide +kernel, rfl⟩
theorem d_X3_kindFor_41 : x_dec m_X3_kindFor 41 (.aload_n 0) 1 42 := ⟨by decide +kernel, rfl⟩
theorem d_X3_kindFor_42 : x_dec m_X3_kindFor 42 (.getfield 12) 3 45 := ⟨by decide +kernel, rfl⟩
theorem d_X3_kindFor_45 : x_dec m_X3_kindFor 45 (.invokevirtual 133) 3 48 := ⟨by decide +kernel, rfl⟩
theorem d_X3_kindFor_48 : x_dec m_X3_kindFor 48 (.aload_n 0) 1 49 := ⟨by decide +kernel, rfl⟩
theorem d_X3_kindFor_49 : x_dec m_X3_kindFor 49 (.getfield 16) 3 52 := ⟨by decide +kernel, rfl⟩
theorem d_X3_kindFor_52 : x_dec m_X3_kindFor 52 (.getfield 84) 3 55 := ⟨by decide +kernel, rfl⟩
theorem d_X3_kindFor_55 : x_dec m_X3_kindFor 55 (.iload_n 1) 1 56 := ⟨by decide +kernel, rfl⟩
theorem d_X3_kindFor_56 : x_dec m_X3_kindFor 56 (.iload 5) 2 58 := ⟨by decide +kernel, rfl⟩
theorem d_X3_kindFor_58 : x_dec m_X3_kindFor 58 (.iastore) 1 59 := ⟨by decide +kernel, rfl⟩
theorem d_X3_kindFor_59 : x_dec m_X3_kindFor 59 (.aload_n 0) 1 60 := ⟨by decide +kernel, rfl⟩
theorem d_X3_kindFor_60 : x_dec m_X3_kindFor 60 (.getfield 16) 3 63 := ⟨by decide +kernel, rfl⟩
theorem d_X3_kindFor_63 : x_dec m_X3_kindFor 63 (.iload_n 2) 1 64 := ⟨by decide +kernel, rfl⟩
theorem d_X3_kindFor_64 : x_dec m_X3_kindFor 64 (.invokevirtual 137) 3 67 := ⟨by decide +kernel, rfl⟩
theorem d_X3_kindFor_67 : x_dec m_X3_kindFor 67 (.istore 6) 2 69 := ⟨by decide +kernel, rfl⟩
theorem d_X3_kindFor_69 : x_dec m_X3_kindFor 69 (.iload 6) 2 71 := ⟨by decide +kernel, rfl⟩
theorem d_X3_kindFor_71 : x_dec m_X3_kindFor 71 (.iload 4) 2 73 := ⟨by decide +kernel, rfl⟩
theorem d_X3_kindFor_73 : x_dec m_X3_kindFor 73 (.if_icmp .le 10) 3 76 := ⟨by decide +kernel, rfl⟩
theorem d_X3_kindFor_76 : x_dec m_X3_kindFor 76 (.iload 6) 2 78 := ⟨by decide +kernel, rfl⟩
theorem d_X3_kindFor_78 : x_dec m_X3_kindFor 78 (.istore 4) 2 80 := ⟨by decide +kernel, rfl⟩
theorem d_X3_kindFor_80 : x_dec m_X3_kindFor 80 (.iload 5) 2 82 := ⟨by decide +kernel, rfl⟩
theorem d_X3_kindFor_82 : x_dec m_X3_kindFor 82 (.istore_n 3) 1 83 := ⟨by decide +kernel, rfl⟩
theorem d_X3_kindFor_83 : x_dec m_X3_kindFor 83 (.iinc 5 1) 3 86 := ⟨by decide +kernel, rfl⟩
theorem d_X3_kindFor_86 : x_dec m_X3_kindFor 86 (.goto (-56)) 3 89 := ⟨by decide +kernel, rfl⟩
theorem d_X3_kindFor_89 : x_dec m_X3_kindFor 89 (.iload_n 3) 1 90 := ⟨by decide +kernel, rfl⟩
theorem d_X3_kindFor_90 : x_dec m_X3_kindFor 90 (.ireturn) 1 91 := ⟨by decide +kernel, rfl⟩
set_option maxHeartbeats 4000000 in
set_option maxRecDepth 100000 in
theorem c_X3_kindFor (l : Launch) (E : x_E) (μ : x_Mem) (g : x_SG) (hS : XS g μ) (hI : Inv g) (p n : Int32) : x_Met l m_X3_kindFor E [.ref (E.1 + 0), .int p, .int n] μ (x_I (fun z m => z = (F_kindFor g p n).1 ∧ XS (F_kindFor g p n).2 m ∧ ∀ id, 41 ≤ id → m id = μ id)) := by
  obtain ⟨hL, hH, hX, hD⟩ := hS
  have hWF := hI.1.1
  have hn7 := hWF.2.1
  have hpn := hWF.1
  have hF : ∀ id, 41 ≤ id → μ id = μ id := fun _ _ => rfl
  refine x_enter (lv := [(0, .ref (E.1 + 0)), (1, .int p), (2, .int n)]) (by decide +kernel) (Nat.le_of_ble_eq_true rfl) rfl ?_
  refine x_aload_n 0 d_X3_kindFor_0 rfl rfl ?_
  refine x_iload_n 1 d_X3_kindFor_1 rfl rfl ?_
  refine x_cvip (k := 0) (as := [.int p]) (c_X3_isPerson l E μ hL p) v_X3_isPerson w_X3_isPerson q234 o_X rfl ⟨Nat.le_of_ble_eq_true rfl, Nat.le_of_ble_eq_true rfl⟩ rfl (Nat.le_of_ble_eq_true rfl) d_X3_kindFor_2 ?_
  refine x_ifb_eq 15 d_X3_kindFor_5 (by decide) (fun c1 => ?_) (fun c1 => ?_)
  · skip
    refine x_aload_n 0 d_X3_kindFor_15 rfl rfl ?_
    refine x_ldc q182 d_X3_kindFor_16 ?_
    refine x_cvi (k := 0) (as := [.int (-1000001)]) (c_X3_finding l E μ (i := 0) hD (by decide) (w := (-1000001)) (by decide)) v_X3_finding w_X3_finding q183 o_X rfl ⟨Nat.le_of_ble_eq_true rfl, Nat.le_of_ble_eq_true rfl⟩ rfl (Nat.le_of_ble_eq_true rfl) d_X3_kindFor_18 ?_
    rintro _ μ2 ⟨rfl, hD3, hF4⟩
    have hL5 := PR.cg hL (μ' := μ2) (fun id hid => (hF4 _ (by omega)))
    have hLH6 := hH
    rw [← (show μ2 1 = μ 1 from (hF4 _ (by omega)))] at hLH6
    have hX7 := XR.cg hX (μ' := μ2) (fun id hid => (hF4 _ (by omega)))
    have hF8 : ∀ id, 41 ≤ id → μ2 id = μ id := fun id hid => (show μ2 id = μ id from (hF4 _ (by omega))).trans (hF id hid)
    refine x_iret rfl d_X3_kindFor_21 ?_
    have e9 : F_kindFor g p n = fin g 0 := by simp [F_kindFor, x_b_f, x_b_t, c1]
    rw [e9]
    exact ⟨rfl, XS.fin hL5 hLH6 hX7 hD3, hF8⟩
  · skip
    obtain ⟨q, hq, rfl⟩ := isP_nat hWF c1
    refine x_iload_n 2 d_X3_kindFor_8 rfl rfl ?_
    refine x_csip (as := [.int n]) (c_X3_isRide l E μ n) v_X3_isRide q344 q343 rfl ⟨Nat.le_of_ble_eq_true rfl, Nat.le_of_ble_eq_true rfl⟩ rfl (Nat.le_of_ble_eq_true rfl) d_X3_kindFor_9 ?_
    refine x_ifb_ne 22 d_X3_kindFor_12 (by decide) (fun c9 => ?_) (fun c9 => ?_)
    · skip
      obtain ⟨h, hh, rfl⟩ := inR_nat (n := 60) (by decide) c9
      refine x_iconst (x := 0) d_X3_kindFor_22 (by decide) ?_
      refine x_istore_n [(3, .int 0), (0, .ref (E.1 + 0)), (1, .int (nI q)), (2, .int (nI h))] d_X3_kindFor_23 rfl (Nat.le_of_ble_eq_true rfl) rfl ?_
      refine x_iconst (x := (-1)) d_X3_kindFor_24 (by decide) ?_
      refine x_istore [(4, .int (-1)), (3, .int 0), (0, .ref (E.1 + 0)), (1, .int (nI q)), (2, .int (nI h))] d_X3_kindFor_25 (Nat.le_of_ble_eq_true rfl) rfl ?_
      refine x_iconst (x := 0) d_X3_kindFor_27 (by decide) ?_
      refine x_istore [(5, .int 0), (4, .int (-1)), (3, .int 0), (0, .ref (E.1 + 0)), (1, .int (nI q)), (2, .int (nI h))] d_X3_kindFor_28 (Nat.le_of_ble_eq_true rfl) rfl ?_
      have L10 : ∀ i : Nat, i ≤ 7 → ∀ b : Int32, ∀ m : Int32, ∀ μ13 : x_Mem, (b = (bestTo (fun k => hoursF (upd (gA g) (24 + 3 * q) (nI k)) h 1) i).1) → (m = (bestTo (fun k => hoursF (upd (gA g) (24 + 3 * q) (nI k)) h 1) i).2) → (PR (gA g) 1 μ13) → (μ13 1 11 = gA g 0) → (XR g μ13) → (XD (gF g) μ13) → (∀ id, 41 ≤ id → μ13 id = μ id) → x_G l E m_X3_kindFor (x_mv E m_X3_kindFor (x_I (fun z m => z = (F_kindFor g (nI q) (nI h)).1 ∧ XS (F_kindFor g (nI q) (nI h)).2 m ∧ ∀ id, 41 ≤ id → m id = μ id))) μ13 30 [(5, .int (nI i)), (4, .int m), (3, .int b), (0, .ref (E.1 + 0)), (1, .int (nI q)), (2, .int (nI h))] [] := by
        refine x_down _ 7 (fun i hi12 ih11 => ?_)
        intro b m μ13 hb hm hL1 hH1 hX1 hD1 hF1
        refine x_iload 0 d_X3_kindFor_30 rfl ?_
        refine x_bipush (x := 7) d_X3_kindFor_32 (by decide) ?_
        refine x_icmp_ge 89 d_X3_kindFor_34 (by decide) (fun c14 => ?_) (fun c14 => ?_)
        · skip
          have hN := x_ge (N := 7) c14 rfl rfl (by omega) (by omega)
          refine x_iload_n 2 d_X3_kindFor_89 rfl rfl ?_
          refine x_iret rfl d_X3_kindFor_90 ?_
          have e7 : i = 7 := by omega
          subst e7
          subst hb
          have e9 : F_kindFor g (nI q) (nI h) = ((bestTo (fun k => hoursF (upd (gA g) (24 + 3 * q) (nI k)) h 1) 7).1, g) := by simp [F_kindFor, x_b_f, x_b_t, c1, c9, nI_clamp (n := q) (by omega), nI_clamp (n := h) (by omega)]
          rw [e9]
          exact ⟨rfl, ⟨hL1, hH1, hX1, hD1⟩, hF1⟩
        · skip
          have hN := x_lt (N := 7) c14 rfl rfl (by omega) (by omega)
          refine x_aload_n 3 d_X3_kindFor_37 rfl rfl ?_
          refine x_getr (j := 1) 10 x_c3 rfl (Nat.le_of_ble_eq_true rfl) q148 rfl d_X3_kindFor_38 ?_
          refine x_aload_n 3 d_X3_kindFor_41 rfl rfl ?_
          refine x_getr (j := 0) 1 x_c3 rfl (Nat.le_of_ble_eq_true rfl) q147 rfl d_X3_kindFor_42 ?_
          refine x_cvv (k := 10) (as := [.ref (E.1 + 1)]) (c_X0_becomes l E μ13 x_pr10 x_pr1 (by decide) hL1 hH1) v_X0_becomes w_X0_becomes q309 (p_ob x_pr10) rfl ⟨Nat.le_of_ble_eq_true rfl, Nat.le_of_ble_eq_true rfl⟩ rfl (Nat.le_of_ble_eq_true rfl) d_X3_kindFor_45 ?_
          rintro μ15 ⟨hT16, hTH17, hF18⟩
          have hL19 := PR.cg hL1 (μ' := μ15) (fun id hid => (hF18 _ (by omega)))
          have hLH20 := hH1
          rw [← (show μ15 1 = μ13 1 from (hF18 _ (by omega)))] at hLH20
          have hX21 := XR.cg hX1 (μ' := μ15) (fun id hid => (hF18 _ (by omega)))
          have hD22 := XD.cg hD1 (μ' := μ15) (fun id hid => (hF18 _ (by omega)))
          have hF23 : ∀ id, 41 ≤ id → μ15 id = μ id := fun id hid => (show μ15 id = μ13 id from (hF18 _ (by omega))).trans (hF1 id hid)
          refine x_aload_n 3 d_X3_kindFor_48 rfl rfl ?_
          refine x_getr (j := 1) 10 x_c3 rfl (Nat.le_of_ble_eq_true rfl) q148 rfl d_X3_kindFor_49 ?_
          refine x_getr (j := 1) (10 + 2) x_c0 (p_kd x_pr10) (Nat.le_of_ble_eq_true rfl) q35 (p_f1 x_pr10) d_X3_kindFor_52 ?_
          refine x_iload_n 4 d_X3_kindFor_55 rfl rfl ?_
          refine x_iload 0 d_X3_kindFor_56 rfl ?_
          refine x_iastNG 8 q (p_k2 x_pr10) (p_l2 x_pr10) (by omega) (by decide) d_X3_kindFor_58 (fun μ24 eμ24 => ?_)
          have hT25 : PR (upd (gA g) (24 + 3 * q) (nI i)) 10 μ24 := PR.a2 hT16 eμ24 (by omega)
          have hL26 := PR.cg hL19 (μ' := μ24) (fun id hid => (by rw [eμ24, upd2_ne _ _ _ (by omega)]))
          have hLH27 := hLH20
          rw [← (show μ24 1 = μ15 1 from (by rw [eμ24, upd2_ne _ _ _ (by omega)]))] at hLH27
          have hX28 := XR.cg hX21 (μ' := μ24) (fun id hid => (by rw [eμ24, upd2_ne _ _ _ (by omega)]))
          have hD29 := XD.cg hD22 (μ' := μ24) (fun id hid => (by rw [eμ24, upd2_ne _ _ _ (by omega)]))
          have hF30 : ∀ id, 41 ≤ id → μ24 id = μ id := fun id hid => (show μ24 id = μ15 id from (by rw [eμ24, upd2_ne _ _ _ (by omega)])).trans (hF23 id hid)
          have hTH31 := hTH17
          rw [← (show μ24 10 = μ15 10 from (by rw [eμ24, upd2_ne _ _ _ (by omega)]))] at hTH31
          refine x_aload_n 3 d_X3_kindFor_59 rfl rfl ?_
          refine x_getr (j := 1) 10 x_c3 rfl (Nat.le_of_ble_eq_true rfl) q148 rfl d_X3_kindFor_60 ?_
          refine x_iload_n 5 d_X3_kindFor_63 rfl rfl ?_
          refine x_cvi (k := 10) (as := [.int (nI h)]) (c_X0_yardBehind l E μ24 x_pr10 hT25 (hWF.upK (k := i) (by omega) (by omega)) (n := h) (by omega)) v_X0_yardBehind w_X0_yardBehind q313 (p_ob x_pr10) rfl ⟨Nat.le_of_ble_eq_true rfl, Nat.le_of_ble_eq_true rfl⟩ rfl (Nat.le_of_ble_eq_true rfl) d_X3_kindFor_64 ?_
          rintro _ μ32 ⟨rfl, hF33⟩
          have hL34 := PR.cg hL26 (μ' := μ32) (fun id hid => (hF33 _ (by omega)))
          have hLH35 := hLH27
          rw [← (show μ32 1 = μ24 1 from (hF33 _ (by omega)))] at hLH35
          have hX36 := XR.cg hX28 (μ' := μ32) (fun id hid => (hF33 _ (by omega)))
          have hD37 := XD.cg hD29 (μ' := μ32) (fun id hid => (hF33 _ (by omega)))
          have hF38 : ∀ id, 41 ≤ id → μ32 id = μ id := fun id hid => (show μ32 id = μ24 id from (hF33 _ (by omega))).trans (hF30 id hid)
          refine x_istore [(6, .int (hoursF (upd (gA g) (24 + 3 * q) (nI i)) h 1)), (5, .int (nI i)), (4, .int m), (3, .int b), (0, .ref (E.1 + 0)), (1, .int (nI q)), (2, .int (nI h))] d_X3_kindFor_67 (Nat.le_of_ble_eq_true rfl) rfl ?_
          refine x_iload 0 d_X3_kindFor_69 rfl ?_
          refine x_iload 2 d_X3_kindFor_71 rfl ?_
          refine x_icmp_le 83 d_X3_kindFor_73 (by decide) (fun c39 => ?_) (fun c39 => ?_)
          · skip
            refine x_iinc [(5, .int (nI (i + 1))), (6, .int (hoursF (upd (gA g) (24 + 3 * q) (nI i)) h 1)), (4, .int m), (3, .int b), (0, .ref (E.1 + 0)), (1, .int (nI q)), (2, .int (nI h))] 1 d_X3_kindFor_83 rfl (x_inc _) (Nat.le_of_ble_eq_true rfl) rfl ?_
            refine x_goto 30 d_X3_kindFor_86 (by decide) ?_
            refine x_lv [0, 2, 3, 4, 5, 6] rfl ?_
            exact ih11 (i + 1) (by omega) (by omega) b m μ32 (by rw [bestTo_f (f := (fun k => hoursF (upd (gA g) (24 + 3 * q) (nI k)) h 1)) (by rw [← hm]; exact c39)]; exact hb) (by rw [bestTo_f (f := (fun k => hoursF (upd (gA g) (24 + 3 * q) (nI k)) h 1)) (by rw [← hm]; exact c39)]; exact hm) hL34 hLH35 hX36 hD37 hF38
          · skip
            refine x_iload 0 d_X3_kindFor_76 rfl ?_
            refine x_istore [(4, .int (hoursF (upd (gA g) (24 + 3 * q) (nI i)) h 1)), (6, .int (hoursF (upd (gA g) (24 + 3 * q) (nI i)) h 1)), (5, .int (nI i)), (3, .int b), (0, .ref (E.1 + 0)), (1, .int (nI q)), (2, .int (nI h))] d_X3_kindFor_78 (Nat.le_of_ble_eq_true rfl) rfl ?_
            refine x_iload 2 d_X3_kindFor_80 rfl ?_
            refine x_istore_n [(3, .int (nI i)), (4, .int (hoursF (upd (gA g) (24 + 3 * q) (nI i)) h 1)), (6, .int (hoursF (upd (gA g) (24 + 3 * q) (nI i)) h 1)), (5, .int (nI i)), (0, .ref (E.1 + 0)), (1, .int (nI q)), (2, .int (nI h))] d_X3_kindFor_82 rfl (Nat.le_of_ble_eq_true rfl) rfl ?_
            refine x_iinc [(5, .int (nI (i + 1))), (3, .int (nI i)), (4, .int (hoursF (upd (gA g) (24 + 3 * q) (nI i)) h 1)), (6, .int (hoursF (upd (gA g) (24 + 3 * q) (nI i)) h 1)), (0, .ref (E.1 + 0)), (1, .int (nI q)), (2, .int (nI h))] 3 d_X3_kindFor_83 rfl (x_inc _) (Nat.le_of_ble_eq_true rfl) rfl ?_
            refine x_goto 30 d_X3_kindFor_86 (by decide) ?_
            refine x_lv [0, 2, 1, 4, 5, 6] rfl ?_
            exact ih11 (i + 1) (by omega) (by omega) (nI i) (hoursF (upd (gA g) (24 + 3 * q) (nI i)) h 1) μ32 (by rw [bestTo_t (f := (fun k => hoursF (upd (gA g) (24 + 3 * q) (nI k)) h 1)) (by rw [← hm]; exact c39)] <;> rfl) (by rw [bestTo_t (f := (fun k => hoursF (upd (gA g) (24 + 3 * q) (nI k)) h 1)) (by rw [← hm]; exact c39)] <;> rfl) hL34 hLH35 hX36 hD37 hF38
      exact L10 0 (by omega) 0 (-1) μ (by rfl) (by rfl) hL hH hX hD hF
    · skip
      refine x_aload_n 0 d_X3_kindFor_15 rfl rfl ?_
      refine x_ldc q182 d_X3_kindFor_16 ?_
      refine x_cvi (k := 0) (as := [.int (-1000001)]) (c_X3_finding l E μ (i := 0) hD (by decide) (w := (-1000001)) (by decide)) v_X3_finding w_X3_finding q183 o_X rfl ⟨Nat.le_of_ble_eq_true rfl, Nat.le_of_ble_eq_true rfl⟩ rfl (Nat.le_of_ble_eq_true rfl) d_X3_kindFor_18 ?_
      rintro _ μ40 ⟨rfl, hD41, hF42⟩
      have hL43 := PR.cg hL (μ' := μ40) (fun id hid => (hF42 _ (by omega)))
      have hLH44 := hH
      rw [← (show μ40 1 = μ 1 from (hF42 _ (by omega)))] at hLH44
      have hX45 := XR.cg hX (μ' := μ40) (fun id hid => (hF42 _ (by omega)))
      have hF46 : ∀ id, 41 ≤ id → μ40 id = μ id := fun id hid => (show μ40 id = μ id from (hF42 _ (by omega))).trans (hF id hid)
      refine x_iret rfl d_X3_kindFor_21 ?_
      have e9 : F_kindFor g (nI q) n = fin g 0 := by simp [F_kindFor, x_b_f, x_b_t, c1, c9, nI_clamp (n := q) (by omega)]
      rw [e9]
      exact ⟨rfl, XS.fin hL43 hLH44 hX45 hD41, hF46⟩
def m_X3_seat : x_M := (yX3_seat, prog_1_method_25_code, 7, (some FieldType.int), 6, 141)
theorem v_X3_seat : x_VM m_X3_seat 2 := ⟨q405, q1, by decide +kernel, by decide +kernel, by decide +kernel⟩
theorem w_X3_seat : x_VI m_X3_seat := ⟨q403, q404⟩
theorem d_X3_seat_0 : x_dec m_X3_seat 0 (.aload_n 0) 1 1 := ⟨by decide +kernel, rfl⟩
theorem d_X3_seat_1 : x_dec m_X3_seat 1 (.iload_n 1) 1 2 := ⟨by decide +kernel, rfl⟩
theorem d_X3_seat_2 : x_dec m_X3_seat 2 (.invokevirtual 81) 3 5 := ⟨by decide +kernel, rfl⟩
theorem d_X3_seat_5 : x_dec m_X3_seat 5 (.ifCond .eq 10) 3 8 := ⟨by decide +kernel, rfl⟩
theorem d_X3_seat_8 : x_dec m_X3_seat 8 (.iload_n 2) 1 9 := ⟨by decide +kernel, rfl⟩
theorem d_X3_seat_9 : x_dec m_X3_seat 9 (.invokestatic 145) 3 12 := ⟨by decide +kernel, rfl⟩
theorem d_X3_seat_12 : x_dec m_X3_seat 12 (.ifCond .ne 10) 3 15 := ⟨by decide +kernel, rfl⟩
theorem d_X3_seat_15 : x_dec m_X3_seat 15 (.aload_n 0) 1 16 := ⟨by decide +kernel, rfl⟩
theorem d_X3_seat_16 : x_dec m_X3_seat 16 (.ldc 55) 2 18 := ⟨by decide +kernel, rfl⟩
theorem d_X3_seat_18 : x_dec m_X3_seat 18 (.invokevirtual 56) 3 21 := ⟨by decide +kernel, rfl⟩
theorem d_X3_seat_21 : x_dec m_X3_seat 21 (.ireturn) 1 22 := ⟨by decide +kernel, rfl⟩
theorem d_X3_seat_22 : x_dec m_X3_seat 22 (.iconst 0) 1 23 := ⟨by decide +kernel, rfl⟩
theorem d_X3_seat_23 : x_dec m_X3_seat 23 (.istore_n 3) 1 24 := ⟨by decide +kernel, rfl⟩
theorem d_X3_seat_24 : x_dec m_X3_seat 24 (.iconst (-1)) 1 25 := ⟨by decide +kernel, rfl⟩
theorem d_X3_seat_25 : x_dec m_X3_seat 25 (.istore 4) 2 27 := ⟨by decide +kernel, rfl⟩
theorem d_X3_seat_27 : x_dec m_X3_seat 27 (.iconst 0) 1 28 := ⟨by decide +kernel, rfl⟩
theorem d_X3_seat_28 : x_dec m_X3_seat 28 (.istore 5) 2 30 := ⟨by decide +kernel, rfl⟩
theorem d_X3_seat_30 : x_dec m_X3_seat 30 (.iload 5) 2 32 := ⟨by decide +kernel, rfl⟩
theorem d_X3_seat_32 : x_dec m_X3_seat 32 (.bipush 16) 2 34 := ⟨by decide +kernel, rfl⟩
theorem d_X3_seat_34 : x_dec m_X3_seat 34 (.if_icmp .gt 55) 3 37 := ⟨by decide +kernel, rfl⟩
theorem d_X3_seat_37 : x_dec m_X3_seat 37 (.aload_n 0) 1 38 := ⟨by decide +kernel, rfl⟩
theorem d_X3_seat_38 : x_dec m_X3_seat 38 (.getfield 16) 3 41 := ⟨by decide +kernel, rfl⟩
theorem d_X3_seat_41 : x_dec m_X3_seat 41 (.aload_n 0) 1 42 := ⟨by decide +kernel, rfl⟩
theorem d_X3_seat_42 : x_dec m_X3_seat 42 (.getfield 12) 3 45 := ⟨by decide +kernel, rfl⟩
theorem d_X3_seat_45 : x_dec m_X3_seat 45 (.invokevirtual 133) 3 48 := ⟨by decide +kernel, rfl⟩
theorem d_X3_seat_48 : x_dec m_X3_seat 48 (.aload_n 0) 1 49 := ⟨by decide +kernel, rfl⟩
theorem d_X3_seat_49 : x_dec m_X3_seat 49 (.getfield 16) 3 52 := ⟨by decide +kernel, rfl⟩
theorem d_X3_seat_52 : x_dec m_X3_seat 52 (.getfield 87) 3 55 := ⟨by decide +kernel, rfl⟩
theorem d_X3_seat_55 : x_dec m_X3_seat 55 (.iload_n 1) 1 56 := ⟨by decide +kernel, rfl⟩
theorem d_X3_seat_56 : x_dec m_X3_seat 56 (.iload 5) 2 58 := ⟨by decide +kernel, rfl⟩
theorem d_X3_seat_58 : x_dec m_X3_seat 58 (.iastore) 1 59 := ⟨by decide +kernel, rfl⟩
theorem d_X3_seat_59 : x_dec m_X3_seat 59 (.aload_n 0) 1 60 := ⟨by decide +kernel, rfl⟩
theorem d_X3_seat_60 : x_dec m_X3_seat 60 (.getfield 16) 3 63 := ⟨by decide +kernel, rfl⟩
theorem d_X3_seat_63 : x_dec m_X3_seat 63 (.iload_n 2) 1 64 := ⟨by decide +kernel, rfl⟩
theorem d_X3_seat_64 : x_dec m_X3_seat 64 (.invokevirtual 137) 3 67 := ⟨by decide +kernel, rfl⟩
theorem d_X3_seat_67 : x_dec m_X3_seat 67 (.istore 6) 2 69 := ⟨by decide +kernel, rfl⟩
theorem d_X3_seat_69 : x_dec m_X3_seat 69 (.iload 6) 2 71 := ⟨by decide +kernel, rfl⟩
theorem d_X3_seat_71 : x_dec m_X3_seat 71 (.iload 4) 2 73 := ⟨by decide +kernel, rfl⟩
theorem d_X3_seat_73 : x_dec m_X3_seat 73 (.if_icmp .le 10) 3 76 := ⟨by decide +kernel, rfl⟩
theorem d_X3_seat_76 : x_dec m_X3_seat 76 (.iload 6) 2 78 := ⟨by decide +kernel, rfl⟩
theorem d_X3_seat_78 : x_dec m_X3_seat 78 (.istore 4) 2 80 := ⟨by decide +kernel, rfl⟩
theorem d_X3_seat_80 : x_dec m_X3_seat 80 (.iload 5) 2 82 := ⟨by decide +kernel, rfl⟩
theorem d_X3_seat_82 : x_dec m_X3_seat 82 (.istore_n 3) 1 83 := ⟨by decide +kernel, rfl⟩
theorem d_X3_seat_83 : x_dec m_X3_seat 83 (.iinc 5 1) 3 86 := ⟨by decide +kernel, rfl⟩
theorem d_X3_seat_86 : x_dec m_X3_seat 86 (.goto (-56)) 3 89 := ⟨by decide +kernel, rfl⟩
theorem d_X3_seat_89 : x_dec m_X3_seat 89 (.iload_n 3) 1 90 := ⟨by decide +kernel, rfl⟩
theorem d_X3_seat_90 : x_dec m_X3_seat 90 (.ireturn) 1 91 := ⟨by decide +kernel, rfl⟩
set_option maxHeartbeats 4000000 in
set_option maxRecDepth 100000 in
theorem c_X3_seat (l : Launch) (E : x_E) (μ : x_Mem) (g : x_SG) (hS : XS g μ) (hI : Inv g) (p n : Int32) : x_Met l m_X3_seat E [.ref (E.1 + 0), .int p, .int n] μ (x_I (fun z m => z = (F_seat g p n).1 ∧ XS (F_seat g p n).2 m ∧ ∀ id, 41 ≤ id → m id = μ id)) := by
  obtain ⟨hL, hH, hX, hD⟩ := hS
  have hWF := hI.1.1
  have hn7 := hWF.2.1
  have hpn := hWF.1
  have hF : ∀ id, 41 ≤ id → μ id = μ id := fun _ _ => rfl
  refine x_enter (lv := [(0, .ref (E.1 + 0)), (1, .int p), (2, .int n)]) (by decide +kernel) (Nat.le_of_ble_eq_true rfl) rfl ?_
  refine x_aload_n 0 d_X3_seat_0 rfl rfl ?_
  refine x_iload_n 1 d_X3_seat_1 rfl rfl ?_
  refine x_cvip (k := 0) (as := [.int p]) (c_X3_isPerson l E μ hL p) v_X3_isPerson w_X3_isPerson q234 o_X rfl ⟨Nat.le_of_ble_eq_true rfl, Nat.le_of_ble_eq_true rfl⟩ rfl (Nat.le_of_ble_eq_true rfl) d_X3_seat_2 ?_
  refine x_ifb_eq 15 d_X3_seat_5 (by decide) (fun c1 => ?_) (fun c1 => ?_)
  · skip
    refine x_aload_n 0 d_X3_seat_15 rfl rfl ?_
    refine x_ldc q182 d_X3_seat_16 ?_
    refine x_cvi (k := 0) (as := [.int (-1000001)]) (c_X3_finding l E μ (i := 0) hD (by decide) (w := (-1000001)) (by decide)) v_X3_finding w_X3_finding q183 o_X rfl ⟨Nat.le_of_ble_eq_true rfl, Nat.le_of_ble_eq_true rfl⟩ rfl (Nat.le_of_ble_eq_true rfl) d_X3_seat_18 ?_
    rintro _ μ2 ⟨rfl, hD3, hF4⟩
    have hL5 := PR.cg hL (μ' := μ2) (fun id hid => (hF4 _ (by omega)))
    have hLH6 := hH
    rw [← (show μ2 1 = μ 1 from (hF4 _ (by omega)))] at hLH6
    have hX7 := XR.cg hX (μ' := μ2) (fun id hid => (hF4 _ (by omega)))
    have hF8 : ∀ id, 41 ≤ id → μ2 id = μ id := fun id hid => (show μ2 id = μ id from (hF4 _ (by omega))).trans (hF id hid)
    refine x_iret rfl d_X3_seat_21 ?_
    have e9 : F_seat g p n = fin g 0 := by simp [F_seat, x_b_f, x_b_t, c1]
    rw [e9]
    exact ⟨rfl, XS.fin hL5 hLH6 hX7 hD3, hF8⟩
  · skip
    obtain ⟨q, hq, rfl⟩ := isP_nat hWF c1
    refine x_iload_n 2 d_X3_seat_8 rfl rfl ?_
    refine x_csip (as := [.int n]) (c_X3_isRide l E μ n) v_X3_isRide q344 q343 rfl ⟨Nat.le_of_ble_eq_true rfl, Nat.le_of_ble_eq_true rfl⟩ rfl (Nat.le_of_ble_eq_true rfl) d_X3_seat_9 ?_
    refine x_ifb_ne 22 d_X3_seat_12 (by decide) (fun c9 => ?_) (fun c9 => ?_)
    · skip
      obtain ⟨h, hh, rfl⟩ := inR_nat (n := 60) (by decide) c9
      refine x_iconst (x := 0) d_X3_seat_22 (by decide) ?_
      refine x_istore_n [(3, .int 0), (0, .ref (E.1 + 0)), (1, .int (nI q)), (2, .int (nI h))] d_X3_seat_23 rfl (Nat.le_of_ble_eq_true rfl) rfl ?_
      refine x_iconst (x := (-1)) d_X3_seat_24 (by decide) ?_
      refine x_istore [(4, .int (-1)), (3, .int 0), (0, .ref (E.1 + 0)), (1, .int (nI q)), (2, .int (nI h))] d_X3_seat_25 (Nat.le_of_ble_eq_true rfl) rfl ?_
      refine x_iconst (x := 0) d_X3_seat_27 (by decide) ?_
      refine x_istore [(5, .int 0), (4, .int (-1)), (3, .int 0), (0, .ref (E.1 + 0)), (1, .int (nI q)), (2, .int (nI h))] d_X3_seat_28 (Nat.le_of_ble_eq_true rfl) rfl ?_
      have L10 : ∀ i : Nat, i ≤ 17 → ∀ b : Int32, ∀ m : Int32, ∀ μ13 : x_Mem, (b = (bestTo (fun k => hoursF (upd (gA g) (24 + 3 * q + 1) (nI k)) h 1) i).1) → (m = (bestTo (fun k => hoursF (upd (gA g) (24 + 3 * q + 1) (nI k)) h 1) i).2) → (PR (gA g) 1 μ13) → (μ13 1 11 = gA g 0) → (XR g μ13) → (XD (gF g) μ13) → (∀ id, 41 ≤ id → μ13 id = μ id) → x_G l E m_X3_seat (x_mv E m_X3_seat (x_I (fun z m => z = (F_seat g (nI q) (nI h)).1 ∧ XS (F_seat g (nI q) (nI h)).2 m ∧ ∀ id, 41 ≤ id → m id = μ id))) μ13 30 [(5, .int (nI i)), (4, .int m), (3, .int b), (0, .ref (E.1 + 0)), (1, .int (nI q)), (2, .int (nI h))] [] := by
        refine x_down _ 17 (fun i hi12 ih11 => ?_)
        intro b m μ13 hb hm hL1 hH1 hX1 hD1 hF1
        refine x_iload 0 d_X3_seat_30 rfl ?_
        refine x_bipush (x := 16) d_X3_seat_32 (by decide) ?_
        refine x_icmp_gt 89 d_X3_seat_34 (by decide) (fun c14 => ?_) (fun c14 => ?_)
        · skip
          have hN := (nI_ltI (a := 16) (b := i) (by omega) (by omega)).mp c14
          refine x_iload_n 2 d_X3_seat_89 rfl rfl ?_
          refine x_iret rfl d_X3_seat_90 ?_
          have e7 : i = 17 := by omega
          subst e7
          subst hb
          have e9 : F_seat g (nI q) (nI h) = ((bestTo (fun k => hoursF (upd (gA g) (24 + 3 * q + 1) (nI k)) h 1) 17).1, g) := by simp [F_seat, x_b_f, x_b_t, c1, c9, nI_clamp (n := q) (by omega), nI_clamp (n := h) (by omega)]
          rw [e9]
          exact ⟨rfl, ⟨hL1, hH1, hX1, hD1⟩, hF1⟩
        · skip
          have hN : ¬ 16 < i := fun z => c14 (nI_lt z (by omega))
          refine x_aload_n 3 d_X3_seat_37 rfl rfl ?_
          refine x_getr (j := 1) 10 x_c3 rfl (Nat.le_of_ble_eq_true rfl) q148 rfl d_X3_seat_38 ?_
          refine x_aload_n 3 d_X3_seat_41 rfl rfl ?_
          refine x_getr (j := 0) 1 x_c3 rfl (Nat.le_of_ble_eq_true rfl) q147 rfl d_X3_seat_42 ?_
          refine x_cvv (k := 10) (as := [.ref (E.1 + 1)]) (c_X0_becomes l E μ13 x_pr10 x_pr1 (by decide) hL1 hH1) v_X0_becomes w_X0_becomes q309 (p_ob x_pr10) rfl ⟨Nat.le_of_ble_eq_true rfl, Nat.le_of_ble_eq_true rfl⟩ rfl (Nat.le_of_ble_eq_true rfl) d_X3_seat_45 ?_
          rintro μ15 ⟨hT16, hTH17, hF18⟩
          have hL19 := PR.cg hL1 (μ' := μ15) (fun id hid => (hF18 _ (by omega)))
          have hLH20 := hH1
          rw [← (show μ15 1 = μ13 1 from (hF18 _ (by omega)))] at hLH20
          have hX21 := XR.cg hX1 (μ' := μ15) (fun id hid => (hF18 _ (by omega)))
          have hD22 := XD.cg hD1 (μ' := μ15) (fun id hid => (hF18 _ (by omega)))
          have hF23 : ∀ id, 41 ≤ id → μ15 id = μ id := fun id hid => (show μ15 id = μ13 id from (hF18 _ (by omega))).trans (hF1 id hid)
          refine x_aload_n 3 d_X3_seat_48 rfl rfl ?_
          refine x_getr (j := 1) 10 x_c3 rfl (Nat.le_of_ble_eq_true rfl) q148 rfl d_X3_seat_49 ?_
          refine x_getr (j := 2) (10 + 3) x_c0 (p_kd x_pr10) (Nat.le_of_ble_eq_true rfl) q37 (p_f2 x_pr10) d_X3_seat_52 ?_
          refine x_iload_n 4 d_X3_seat_55 rfl rfl ?_
          refine x_iload 0 d_X3_seat_56 rfl ?_
          refine x_iastNG 8 q (p_k3 x_pr10) (p_l3 x_pr10) (by omega) (by decide) d_X3_seat_58 (fun μ24 eμ24 => ?_)
          have hT25 : PR (upd (gA g) (24 + 3 * q + 1) (nI i)) 10 μ24 := PR.a3 hT16 eμ24 (by omega)
          have hL26 := PR.cg hL19 (μ' := μ24) (fun id hid => (by rw [eμ24, upd2_ne _ _ _ (by omega)]))
          have hLH27 := hLH20
          rw [← (show μ24 1 = μ15 1 from (by rw [eμ24, upd2_ne _ _ _ (by omega)]))] at hLH27
          have hX28 := XR.cg hX21 (μ' := μ24) (fun id hid => (by rw [eμ24, upd2_ne _ _ _ (by omega)]))
          have hD29 := XD.cg hD22 (μ' := μ24) (fun id hid => (by rw [eμ24, upd2_ne _ _ _ (by omega)]))
          have hF30 : ∀ id, 41 ≤ id → μ24 id = μ id := fun id hid => (show μ24 id = μ15 id from (by rw [eμ24, upd2_ne _ _ _ (by omega)])).trans (hF23 id hid)
          have hTH31 := hTH17
          rw [← (show μ24 10 = μ15 10 from (by rw [eμ24, upd2_ne _ _ _ (by omega)]))] at hTH31
          refine x_aload_n 3 d_X3_seat_59 rfl rfl ?_
          refine x_getr (j := 1) 10 x_c3 rfl (Nat.le_of_ble_eq_true rfl) q148 rfl d_X3_seat_60 ?_
          refine x_iload_n 5 d_X3_seat_63 rfl rfl ?_
          refine x_cvi (k := 10) (as := [.int (nI h)]) (c_X0_yardBehind l E μ24 x_pr10 hT25 (hWF.upW (by omega) (Or.inr ⟨i, by omega, rfl⟩)) (n := h) (by omega)) v_X0_yardBehind w_X0_yardBehind q313 (p_ob x_pr10) rfl ⟨Nat.le_of_ble_eq_true rfl, Nat.le_of_ble_eq_true rfl⟩ rfl (Nat.le_of_ble_eq_true rfl) d_X3_seat_64 ?_
          rintro _ μ32 ⟨rfl, hF33⟩
          have hL34 := PR.cg hL26 (μ' := μ32) (fun id hid => (hF33 _ (by omega)))
          have hLH35 := hLH27
          rw [← (show μ32 1 = μ24 1 from (hF33 _ (by omega)))] at hLH35
          have hX36 := XR.cg hX28 (μ' := μ32) (fun id hid => (hF33 _ (by omega)))
          have hD37 := XD.cg hD29 (μ' := μ32) (fun id hid => (hF33 _ (by omega)))
          have hF38 : ∀ id, 41 ≤ id → μ32 id = μ id := fun id hid => (show μ32 id = μ24 id from (hF33 _ (by omega))).trans (hF30 id hid)
          refine x_istore [(6, .int (hoursF (upd (gA g) (24 + 3 * q + 1) (nI i)) h 1)), (5, .int (nI i)), (4, .int m), (3, .int b), (0, .ref (E.1 + 0)), (1, .int (nI q)), (2, .int (nI h))] d_X3_seat_67 (Nat.le_of_ble_eq_true rfl) rfl ?_
          refine x_iload 0 d_X3_seat_69 rfl ?_
          refine x_iload 2 d_X3_seat_71 rfl ?_
          refine x_icmp_le 83 d_X3_seat_73 (by decide) (fun c39 => ?_) (fun c39 => ?_)
          · skip
            refine x_iinc [(5, .int (nI (i + 1))), (6, .int (hoursF (upd (gA g) (24 + 3 * q + 1) (nI i)) h 1)), (4, .int m), (3, .int b), (0, .ref (E.1 + 0)), (1, .int (nI q)), (2, .int (nI h))] 1 d_X3_seat_83 rfl (x_inc _) (Nat.le_of_ble_eq_true rfl) rfl ?_
            refine x_goto 30 d_X3_seat_86 (by decide) ?_
            refine x_lv [0, 2, 3, 4, 5, 6] rfl ?_
            exact ih11 (i + 1) (by omega) (by omega) b m μ32 (by rw [bestTo_f (f := (fun k => hoursF (upd (gA g) (24 + 3 * q + 1) (nI k)) h 1)) (by rw [← hm]; exact c39)]; exact hb) (by rw [bestTo_f (f := (fun k => hoursF (upd (gA g) (24 + 3 * q + 1) (nI k)) h 1)) (by rw [← hm]; exact c39)]; exact hm) hL34 hLH35 hX36 hD37 hF38
          · skip
            refine x_iload 0 d_X3_seat_76 rfl ?_
            refine x_istore [(4, .int (hoursF (upd (gA g) (24 + 3 * q + 1) (nI i)) h 1)), (6, .int (hoursF (upd (gA g) (24 + 3 * q + 1) (nI i)) h 1)), (5, .int (nI i)), (3, .int b), (0, .ref (E.1 + 0)), (1, .int (nI q)), (2, .int (nI h))] d_X3_seat_78 (Nat.le_of_ble_eq_true rfl) rfl ?_
            refine x_iload 2 d_X3_seat_80 rfl ?_
            refine x_istore_n [(3, .int (nI i)), (4, .int (hoursF (upd (gA g) (24 + 3 * q + 1) (nI i)) h 1)), (6, .int (hoursF (upd (gA g) (24 + 3 * q + 1) (nI i)) h 1)), (5, .int (nI i)), (0, .ref (E.1 + 0)), (1, .int (nI q)), (2, .int (nI h))] d_X3_seat_82 rfl (Nat.le_of_ble_eq_true rfl) rfl ?_
            refine x_iinc [(5, .int (nI (i + 1))), (3, .int (nI i)), (4, .int (hoursF (upd (gA g) (24 + 3 * q + 1) (nI i)) h 1)), (6, .int (hoursF (upd (gA g) (24 + 3 * q + 1) (nI i)) h 1)), (0, .ref (E.1 + 0)), (1, .int (nI q)), (2, .int (nI h))] 3 d_X3_seat_83 rfl (x_inc _) (Nat.le_of_ble_eq_true rfl) rfl ?_
            refine x_goto 30 d_X3_seat_86 (by decide) ?_
            refine x_lv [0, 2, 1, 4, 5, 6] rfl ?_
            exact ih11 (i + 1) (by omega) (by omega) (nI i) (hoursF (upd (gA g) (24 + 3 * q + 1) (nI i)) h 1) μ32 (by rw [bestTo_t (f := (fun k => hoursF (upd (gA g) (24 + 3 * q + 1) (nI k)) h 1)) (by rw [← hm]; exact c39)] <;> rfl) (by rw [bestTo_t (f := (fun k => hoursF (upd (gA g) (24 + 3 * q + 1) (nI k)) h 1)) (by rw [← hm]; exact c39)] <;> rfl) hL34 hLH35 hX36 hD37 hF38
      exact L10 0 (by omega) 0 (-1) μ (by rfl) (by rfl) hL hH hX hD hF
    · skip
      refine x_aload_n 0 d_X3_seat_15 rfl rfl ?_
      refine x_ldc q182 d_X3_seat_16 ?_
      refine x_cvi (k := 0) (as := [.int (-1000001)]) (c_X3_finding l E μ (i := 0) hD (by decide) (w := (-1000001)) (by decide)) v_X3_finding w_X3_finding q183 o_X rfl ⟨Nat.le_of_ble_eq_true rfl, Nat.le_of_ble_eq_true rfl⟩ rfl (Nat.le_of_ble_eq_true rfl) d_X3_seat_18 ?_
      rintro _ μ40 ⟨rfl, hD41, hF42⟩
      have hL43 := PR.cg hL (μ' := μ40) (fun id hid => (hF42 _ (by omega)))
      have hLH44 := hH
      rw [← (show μ40 1 = μ 1 from (hF42 _ (by omega)))] at hLH44
      have hX45 := XR.cg hX (μ' := μ40) (fun id hid => (hF42 _ (by omega)))
      have hF46 : ∀ id, 41 ≤ id → μ40 id = μ id := fun id hid => (show μ40 id = μ id from (hF42 _ (by omega))).trans (hF id hid)
      refine x_iret rfl d_X3_seat_21 ?_
      have e9 : F_seat g (nI q) n = fin g 0 := by simp [F_seat, x_b_f, x_b_t, c1, c9, nI_clamp (n := q) (by omega)]
      rw [e9]
      exact ⟨rfl, XS.fin hL43 hLH44 hX45 hD41, hF46⟩
