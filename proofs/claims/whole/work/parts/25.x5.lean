def m_X3_image : x_M := (yX3_image, prog_1_method_51_code, 1, (some FieldType.int), 2, 47)
theorem v_X3_image : x_VM m_X3_image 0 := ⟨q641, q1, by decide +kernel, by decide +kernel, by decide +kernel⟩
theorem w_X3_image : x_VI m_X3_image := ⟨q639, q640⟩
theorem d_X3_image_0 : x_dec m_X3_image 0 (.aload_n 0) 1 1 := ⟨by decide +kernel, rfl⟩
theorem d_X3_image_1 : x_dec m_X3_image 1 (.getfield 19) 3 4 := ⟨by decide +kernel, rfl⟩
theorem d_X3_image_4 : x_dec m_X3_image 4 (.aload_n 0) 1 5 := ⟨by decide +kernel, rfl⟩
theorem d_X3_image_5 : x_dec m_X3_image 5 (.getfield 12) 3 8 := ⟨by decide +kernel, rfl⟩
theorem d_X3_image_8 : x_dec m_X3_image 8 (.invokevirtual 133) 3 11 := ⟨by decide +kernel, rfl⟩
theorem d_X3_image_11 : x_dec m_X3_image 11 (.aload_n 0) 1 12 := ⟨by decide +kernel, rfl⟩
theorem d_X3_image_12 : x_dec m_X3_image 12 (.iconst 1) 1 13 := ⟨by decide +kernel, rfl⟩
theorem d_X3_image_13 : x_dec m_X3_image 13 (.putfield 22) 3 16 := ⟨by decide +kernel, rfl⟩
theorem d_X3_image_16 : x_dec m_X3_image 16 (.iconst 1) 1 17 := ⟨by decide +kernel, rfl⟩
theorem d_X3_image_17 : x_dec m_X3_image 17 (.ireturn) 1 18 := ⟨by decide +kernel, rfl⟩
set_option maxHeartbeats 4000000 in
set_option maxRecDepth 100000 in
theorem c_X3_image (l : Launch) (E : x_E) (μ : x_Mem) (g : x_SG) (hS : XS g μ) (hI : Inv g) : x_Met l m_X3_image E [.ref (E.1 + 0)] μ (x_I (fun z m => z = (F_image g).1 ∧ XS (F_image g).2 m ∧ ∀ id, 41 ≤ id → m id = μ id)) := by
  obtain ⟨hL, hH, hX, hD⟩ := hS
  have hWF := hI.1.1
  have hn7 := hWF.2.1
  have hpn := hWF.1
  have hF : ∀ id, 41 ≤ id → μ id = μ id := fun _ _ => rfl
  have hF2 : ∀ id, (id = 28 ∨ id = 29 ∨ (33 ≤ id ∧ id < 41)) → μ id = μ id := fun _ _ => rfl
  refine x_enter (lv := [(0, .ref (E.1 + 0))]) (by decide +kernel) (Nat.le_of_ble_eq_true rfl) rfl ?_
  refine x_aload_n 0 d_X3_image_0 rfl rfl ?_
  refine x_getr (j := 2) 19 x_c3 rfl (Nat.le_of_ble_eq_true rfl) q149 rfl d_X3_image_1 ?_
  refine x_aload_n 0 d_X3_image_4 rfl rfl ?_
  refine x_getr (j := 0) 1 x_c3 rfl (Nat.le_of_ble_eq_true rfl) q147 rfl d_X3_image_5 ?_
  refine x_cvv (k := 19) (as := [.ref (E.1 + 1)]) (c_X0_becomes l E μ x_pr19 x_pr1 (by decide) hL hH) v_X0_becomes w_X0_becomes q309 (p_ob x_pr19) rfl ⟨Nat.le_of_ble_eq_true rfl, Nat.le_of_ble_eq_true rfl⟩ rfl (Nat.le_of_ble_eq_true rfl) d_X3_image_8 ?_
  rintro μ1 ⟨hKP2, hKPH3, hF4⟩
  have hL5 := PR.cg hL (μ' := μ1) (fun id hid => (hF4 _ (by omega)))
  have hLH6 := hH
  rw [← (show μ1 1 = μ 1 from (hF4 _ (by omega)))] at hLH6
  have hD7 := XD.cg hD (μ' := μ1) (fun id hid => (hF4 _ (by omega)))
  have hF8 : ∀ id, 41 ≤ id → μ1 id = μ id := fun id hid => (show μ1 id = μ id from (hF4 _ (by omega))).trans (hF id hid)
  have hF29 : ∀ id, (id = 28 ∨ id = 29 ∨ (33 ≤ id ∧ id < 41)) → μ1 id = μ id := fun id hid => (show μ1 id = μ id from (hF4 _ (by omega))).trans (hF2 id hid)
  refine x_aload_n 0 d_X3_image_11 rfl rfl ?_
  refine x_iconst (x := 1) d_X3_image_12 (by decide) ?_
  refine x_putzG (j := 3) (q := true) x_c3 rfl (Nat.le_of_ble_eq_true rfl) q150 rfl rfl rfl d_X3_image_13 (fun μ10 eμ10 => ?_)
  have hL11 := PR.cg hL5 (μ' := μ10) (fun id hid => (by rw [eμ10, upd2_ne _ _ _ (by omega)]))
  have hLH12 := hLH6
  rw [← (show μ10 1 = μ1 1 from (by rw [eμ10, upd2_ne _ _ _ (by omega)]))] at hLH12
  have hD13 := XD.cg hD7 (μ' := μ10) (fun id hid => (by rw [eμ10, upd2_ne _ _ _ (by omega)]))
  have hF14 : ∀ id, 41 ≤ id → μ10 id = μ id := fun id hid => (show μ10 id = μ1 id from (by rw [eμ10, upd2_ne _ _ _ (by omega)])).trans (hF8 id hid)
  have hF215 : ∀ id, (id = 28 ∨ id = 29 ∨ (33 ≤ id ∧ id < 41)) → μ10 id = μ id := fun id hid => (show μ10 id = μ1 id from (by rw [eμ10, upd2_ne _ _ _ (by omega)])).trans (hF29 id hid)
  have hKP16 := PR.cg hKP2 (μ' := μ10) (fun id hid => (by rw [eμ10, upd2_ne _ _ _ (by omega)]))
  have hKPH17 := hKPH3
  rw [← (show μ10 19 = μ1 19 from (by rw [eμ10, upd2_ne _ _ _ (by omega)]))] at hKPH17
  refine x_iconst (x := 1) d_X3_image_16 (by decide) ?_
  refine x_iret rfl d_X3_image_17 ?_
  exact ⟨rfl, ⟨hL11, hLH12, XR.img hX (fun _ => ⟨hKP16, hKPH17⟩) (by rw [eμ10, upd2_at, upd_s]) hF215, hD13⟩, hF14⟩
def m_X3_undo : x_M := (yX3_undo, prog_1_method_52_code, 1, (some FieldType.int), 2, 47)
theorem v_X3_undo : x_VM m_X3_undo 0 := ⟨q645, q1, by decide +kernel, by decide +kernel, by decide +kernel⟩
theorem w_X3_undo : x_VI m_X3_undo := ⟨q643, q644⟩
theorem d_X3_undo_0 : x_dec m_X3_undo 0 (.aload_n 0) 1 1 := ⟨by decide +kernel, rfl⟩
theorem d_X3_undo_1 : x_dec m_X3_undo 1 (.getfield 22) 3 4 := ⟨by decide +kernel, rfl⟩
theorem d_X3_undo_4 : x_dec m_X3_undo 4 (.ifCond .ne 10) 3 7 := ⟨by decide +kernel, rfl⟩
theorem d_X3_undo_7 : x_dec m_X3_undo 7 (.aload_n 0) 1 8 := ⟨by decide +kernel, rfl⟩
theorem d_X3_undo_8 : x_dec m_X3_undo 8 (.ldc 144) 2 10 := ⟨by decide +kernel, rfl⟩
theorem d_X3_undo_10 : x_dec m_X3_undo 10 (.invokevirtual 56) 3 13 := ⟨by decide +kernel, rfl⟩
theorem d_X3_undo_13 : x_dec m_X3_undo 13 (.ireturn) 1 14 := ⟨by decide +kernel, rfl⟩
theorem d_X3_undo_14 : x_dec m_X3_undo 14 (.aload_n 0) 1 15 := ⟨by decide +kernel, rfl⟩
theorem d_X3_undo_15 : x_dec m_X3_undo 15 (.getfield 12) 3 18 := ⟨by decide +kernel, rfl⟩
theorem d_X3_undo_18 : x_dec m_X3_undo 18 (.aload_n 0) 1 19 := ⟨by decide +kernel, rfl⟩
theorem d_X3_undo_19 : x_dec m_X3_undo 19 (.getfield 19) 3 22 := ⟨by decide +kernel, rfl⟩
theorem d_X3_undo_22 : x_dec m_X3_undo 22 (.invokevirtual 133) 3 25 := ⟨by decide +kernel, rfl⟩
theorem d_X3_undo_25 : x_dec m_X3_undo 25 (.aload_n 0) 1 26 := ⟨by decide +kernel, rfl⟩
theorem d_X3_undo_26 : x_dec m_X3_undo 26 (.getfield 12) 3 29 := ⟨by decide +kernel, rfl⟩
theorem d_X3_undo_29 : x_dec m_X3_undo 29 (.getfield 112) 3 32 := ⟨by decide +kernel, rfl⟩
theorem d_X3_undo_32 : x_dec m_X3_undo 32 (.ireturn) 1 33 := ⟨by decide +kernel, rfl⟩
set_option maxHeartbeats 4000000 in
set_option maxRecDepth 100000 in
theorem c_X3_undo (l : Launch) (E : x_E) (μ : x_Mem) (g : x_SG) (hS : XS g μ) (hI : Inv g) : x_Met l m_X3_undo E [.ref (E.1 + 0)] μ (x_I (fun z m => z = (F_undo g).1 ∧ XS (F_undo g).2 m ∧ ∀ id, 41 ≤ id → m id = μ id)) := by
  obtain ⟨hL, hH, hX, hD⟩ := hS
  have hWF := hI.1.1
  have hn7 := hWF.2.1
  have hpn := hWF.1
  have hF : ∀ id, 41 ≤ id → μ id = μ id := fun _ _ => rfl
  refine x_enter (lv := [(0, .ref (E.1 + 0))]) (by decide +kernel) (Nat.le_of_ble_eq_true rfl) rfl ?_
  refine x_aload_n 0 d_X3_undo_0 rfl rfl ?_
  refine x_getiV (j := 3) (z := (x_b (gP g))) x_c3 rfl (Nat.le_of_ble_eq_true rfl) q150 rfl (hX.2.1) d_X3_undo_1 ?_
  refine x_ifb_ne 14 d_X3_undo_4 (by decide) (fun c1 => ?_) (fun c1 => ?_)
  · skip
    obtain ⟨hKP, hKH⟩ := hX.1 c1
    refine x_aload_n 0 d_X3_undo_14 rfl rfl ?_
    refine x_getr (j := 0) 1 x_c3 rfl (Nat.le_of_ble_eq_true rfl) q147 rfl d_X3_undo_15 ?_
    refine x_aload_n 0 d_X3_undo_18 rfl rfl ?_
    refine x_getr (j := 2) 19 x_c3 rfl (Nat.le_of_ble_eq_true rfl) q149 rfl d_X3_undo_19 ?_
    refine x_cvv (k := 1) (as := [.ref (E.1 + 19)]) (c_X0_becomes l E μ x_pr1 x_pr19 (by decide) hKP hKH) v_X0_becomes w_X0_becomes q309 (p_ob x_pr1) rfl ⟨Nat.le_of_ble_eq_true rfl, Nat.le_of_ble_eq_true rfl⟩ rfl (Nat.le_of_ble_eq_true rfl) d_X3_undo_22 ?_
    rintro μ2 ⟨hL3, hLH4, hF5⟩
    have hX6 := XR.cg hX (μ' := μ2) (fun id hid => (hF5 _ (by omega)))
    have hD7 := XD.cg hD (μ' := μ2) (fun id hid => (hF5 _ (by omega)))
    have hF8 : ∀ id, 41 ≤ id → μ2 id = μ id := fun id hid => (show μ2 id = μ id from (hF5 _ (by omega))).trans (hF id hid)
    have hKP9 := PR.cg hKP (μ' := μ2) (fun id hid => (hF5 _ (by omega)))
    have hKPH10 := hKH
    rw [← (show μ2 19 = μ 19 from (hF5 _ (by omega)))] at hKPH10
    refine x_aload_n 0 d_X3_undo_25 rfl rfl ?_
    refine x_getr (j := 0) 1 x_c3 rfl (Nat.le_of_ble_eq_true rfl) q147 rfl d_X3_undo_26 ?_
    refine x_getiV (j := 11) (z := gK g 0) x_c0 (p_kd x_pr1) (Nat.le_of_ble_eq_true rfl) q60 (p_n11 x_pr1) hLH4 d_X3_undo_29 ?_
    refine x_iret rfl d_X3_undo_32 ?_
    have e9 : F_undo g = (gK g 0, sA g (gK g)) := by simp [F_undo, x_b_f, x_b_t, c1]
    rw [e9]
    exact ⟨rfl, XS.line hL3 (hLH4) hX6 hD7, hF8⟩
  · skip
    refine x_aload_n 0 d_X3_undo_7 rfl rfl ?_
    refine x_ldc q326 d_X3_undo_8 ?_
    refine x_cvi (k := 0) (as := [.int (-1000004)]) (c_X3_finding l E μ (i := 3) hD (by decide) (w := (-1000004)) (by decide)) v_X3_finding w_X3_finding q183 o_X rfl ⟨Nat.le_of_ble_eq_true rfl, Nat.le_of_ble_eq_true rfl⟩ rfl (Nat.le_of_ble_eq_true rfl) d_X3_undo_10 ?_
    rintro _ μ11 ⟨rfl, hD12, hF13⟩
    have hL14 := PR.cg hL (μ' := μ11) (fun id hid => (hF13 _ (by omega)))
    have hLH15 := hH
    rw [← (show μ11 1 = μ 1 from (hF13 _ (by omega)))] at hLH15
    have hX16 := XR.cg hX (μ' := μ11) (fun id hid => (hF13 _ (by omega)))
    have hF17 : ∀ id, 41 ≤ id → μ11 id = μ id := fun id hid => (show μ11 id = μ id from (hF13 _ (by omega))).trans (hF id hid)
    refine x_iret rfl d_X3_undo_13 ?_
    have e9 : F_undo g = fin g 3 := by simp [F_undo, x_b_f, x_b_t, c1]
    rw [e9]
    exact ⟨rfl, XS.fin hL14 hLH15 hX16 hD12, hF17⟩
def m_X3_tear : x_M := (yX3_tear, prog_1_method_53_code, 2, (some FieldType.int), 0, 0)
theorem v_X3_tear : x_VM m_X3_tear 0 := ⟨q649, q1, by decide +kernel, by decide +kernel, by decide +kernel⟩
theorem w_X3_tear : x_VI m_X3_tear := ⟨q647, q648⟩
theorem d_X3_tear_0 : x_dec m_X3_tear 0 (.aload_n 0) 1 1 := ⟨by decide +kernel, rfl⟩
theorem d_X3_tear_1 : x_dec m_X3_tear 1 (.getfield 22) 3 4 := ⟨by decide +kernel, rfl⟩
theorem d_X3_tear_4 : x_dec m_X3_tear 4 (.ifCond .eq 7) 3 7 := ⟨by decide +kernel, rfl⟩
theorem d_X3_tear_7 : x_dec m_X3_tear 7 (.iconst 1) 1 8 := ⟨by decide +kernel, rfl⟩
theorem d_X3_tear_8 : x_dec m_X3_tear 8 (.goto 4) 3 11 := ⟨by decide +kernel, rfl⟩
theorem d_X3_tear_11 : x_dec m_X3_tear 11 (.iconst 0) 1 12 := ⟨by decide +kernel, rfl⟩
theorem d_X3_tear_12 : x_dec m_X3_tear 12 (.istore_n 1) 1 13 := ⟨by decide +kernel, rfl⟩
theorem d_X3_tear_13 : x_dec m_X3_tear 13 (.aload_n 0) 1 14 := ⟨by decide +kernel, rfl⟩
theorem d_X3_tear_14 : x_dec m_X3_tear 14 (.iconst 0) 1 15 := ⟨by decide +kernel, rfl⟩
theorem d_X3_tear_15 : x_dec m_X3_tear 15 (.putfield 22) 3 18 := ⟨by decide +kernel, rfl⟩
theorem d_X3_tear_18 : x_dec m_X3_tear 18 (.iload_n 1) 1 19 := ⟨by decide +kernel, rfl⟩
theorem d_X3_tear_19 : x_dec m_X3_tear 19 (.ireturn) 1 20 := ⟨by decide +kernel, rfl⟩
set_option maxHeartbeats 4000000 in
set_option maxRecDepth 100000 in
theorem c_X3_tear (l : Launch) (E : x_E) (μ : x_Mem) (g : x_SG) (hS : XS g μ) (hI : Inv g) : x_Met l m_X3_tear E [.ref (E.1 + 0)] μ (x_I (fun z m => z = (F_tear g).1 ∧ XS (F_tear g).2 m ∧ ∀ id, 41 ≤ id → m id = μ id)) := by
  obtain ⟨hL, hH, hX, hD⟩ := hS
  have hWF := hI.1.1
  have hn7 := hWF.2.1
  have hpn := hWF.1
  have hF : ∀ id, 41 ≤ id → μ id = μ id := fun _ _ => rfl
  have hF2 : ∀ id, (id = 28 ∨ id = 29 ∨ (33 ≤ id ∧ id < 41)) → μ id = μ id := fun _ _ => rfl
  refine x_enter (lv := [(0, .ref (E.1 + 0))]) (by decide +kernel) (Nat.le_of_ble_eq_true rfl) rfl ?_
  refine x_aload_n 0 d_X3_tear_0 rfl rfl ?_
  refine x_getiV (j := 3) (z := (x_b (gP g))) x_c3 rfl (Nat.le_of_ble_eq_true rfl) q150 rfl (hX.2.1) d_X3_tear_1 ?_
  refine x_ifb_eq 11 d_X3_tear_4 (by decide) (fun c1 => ?_) (fun c1 => ?_)
  · skip
    refine x_iconst (x := 0) d_X3_tear_11 (by decide) ?_
    refine x_istore_n [(1, .int 0), (0, .ref (E.1 + 0))] d_X3_tear_12 rfl (Nat.le_of_ble_eq_true rfl) rfl ?_
    refine x_aload_n 1 d_X3_tear_13 rfl rfl ?_
    refine x_iconst (x := 0) d_X3_tear_14 (by decide) ?_
    refine x_putzG (j := 3) (q := false) x_c3 rfl (Nat.le_of_ble_eq_true rfl) q150 rfl rfl rfl d_X3_tear_15 (fun μ2 eμ2 => ?_)
    have hL3 := PR.cg hL (μ' := μ2) (fun id hid => (by rw [eμ2, upd2_ne _ _ _ (by omega)]))
    have hLH4 := hH
    rw [← (show μ2 1 = μ 1 from (by rw [eμ2, upd2_ne _ _ _ (by omega)]))] at hLH4
    have hD5 := XD.cg hD (μ' := μ2) (fun id hid => (by rw [eμ2, upd2_ne _ _ _ (by omega)]))
    have hF6 : ∀ id, 41 ≤ id → μ2 id = μ id := fun id hid => (show μ2 id = μ id from (by rw [eμ2, upd2_ne _ _ _ (by omega)])).trans (hF id hid)
    have hF27 : ∀ id, (id = 28 ∨ id = 29 ∨ (33 ≤ id ∧ id < 41)) → μ2 id = μ id := fun id hid => (show μ2 id = μ id from (by rw [eμ2, upd2_ne _ _ _ (by omega)])).trans (hF2 id hid)
    refine x_iload_n 0 d_X3_tear_18 rfl rfl ?_
    refine x_iret rfl d_X3_tear_19 ?_
    have e9 : F_tear g = (0, sK g (gK g) false) := by unfold F_tear; rw [c1]; rfl
    rw [e9]
    exact ⟨rfl, ⟨hL3, hLH4, XR.img hX (fun z => Bool.noConfusion z) (by rw [eμ2, upd2_at, upd_s]) hF27, hD5⟩, hF6⟩
  · skip
    refine x_iconst (x := 1) d_X3_tear_7 (by decide) ?_
    refine x_goto 12 d_X3_tear_8 (by decide) ?_
    refine x_istore_n [(1, .int 1), (0, .ref (E.1 + 0))] d_X3_tear_12 rfl (Nat.le_of_ble_eq_true rfl) rfl ?_
    refine x_aload_n 1 d_X3_tear_13 rfl rfl ?_
    refine x_iconst (x := 0) d_X3_tear_14 (by decide) ?_
    refine x_putzG (j := 3) (q := false) x_c3 rfl (Nat.le_of_ble_eq_true rfl) q150 rfl rfl rfl d_X3_tear_15 (fun μ8 eμ8 => ?_)
    have hL9 := PR.cg hL (μ' := μ8) (fun id hid => (by rw [eμ8, upd2_ne _ _ _ (by omega)]))
    have hLH10 := hH
    rw [← (show μ8 1 = μ 1 from (by rw [eμ8, upd2_ne _ _ _ (by omega)]))] at hLH10
    have hD11 := XD.cg hD (μ' := μ8) (fun id hid => (by rw [eμ8, upd2_ne _ _ _ (by omega)]))
    have hF12 : ∀ id, 41 ≤ id → μ8 id = μ id := fun id hid => (show μ8 id = μ id from (by rw [eμ8, upd2_ne _ _ _ (by omega)])).trans (hF id hid)
    have hF213 : ∀ id, (id = 28 ∨ id = 29 ∨ (33 ≤ id ∧ id < 41)) → μ8 id = μ id := fun id hid => (show μ8 id = μ id from (by rw [eμ8, upd2_ne _ _ _ (by omega)])).trans (hF2 id hid)
    refine x_iload_n 0 d_X3_tear_18 rfl rfl ?_
    refine x_iret rfl d_X3_tear_19 ?_
    have e9 : F_tear g = (1, sK g (gK g) false) := by unfold F_tear; rw [c1]; rfl
    rw [e9]
    exact ⟨rfl, ⟨hL9, hLH10, XR.img hX (fun z => Bool.noConfusion z) (by rw [eμ8, upd2_at, upd_s]) hF213, hD11⟩, hF12⟩
def m_X3_wipe : x_M := (yX3_wipe, prog_1_method_42_code, 2, (some FieldType.int), 0, 0)
theorem v_X3_wipe : x_VM m_X3_wipe 0 := ⟨q478, q1, by decide +kernel, by decide +kernel, by decide +kernel⟩
theorem w_X3_wipe : x_VI m_X3_wipe := ⟨q476, q477⟩
theorem d_X3_wipe_0 : x_dec m_X3_wipe 0 (.aload_n 0) 1 1 := ⟨by decide +kernel, rfl⟩
theorem d_X3_wipe_1 : x_dec m_X3_wipe 1 (.getfield 29) 3 4 := ⟨by decide +kernel, rfl⟩
theorem d_X3_wipe_4 : x_dec m_X3_wipe 4 (.getfield 221) 3 7 := ⟨by decide +kernel, rfl⟩
theorem d_X3_wipe_7 : x_dec m_X3_wipe 7 (.istore_n 1) 1 8 := ⟨by decide +kernel, rfl⟩
theorem d_X3_wipe_8 : x_dec m_X3_wipe 8 (.aload_n 0) 1 9 := ⟨by decide +kernel, rfl⟩
theorem d_X3_wipe_9 : x_dec m_X3_wipe 9 (.getfield 29) 3 12 := ⟨by decide +kernel, rfl⟩
theorem d_X3_wipe_12 : x_dec m_X3_wipe 12 (.iconst 0) 1 13 := ⟨by decide +kernel, rfl⟩
theorem d_X3_wipe_13 : x_dec m_X3_wipe 13 (.putfield 221) 3 16 := ⟨by decide +kernel, rfl⟩
theorem d_X3_wipe_16 : x_dec m_X3_wipe 16 (.iload_n 1) 1 17 := ⟨by decide +kernel, rfl⟩
theorem d_X3_wipe_17 : x_dec m_X3_wipe 17 (.ireturn) 1 18 := ⟨by decide +kernel, rfl⟩
set_option maxHeartbeats 4000000 in
set_option maxRecDepth 100000 in
theorem c_X3_wipe (l : Launch) (E : x_E) (μ : x_Mem) (g : x_SG) (hS : XS g μ) (hI : Inv g) : x_Met l m_X3_wipe E [.ref (E.1 + 0)] μ (x_I (fun z m => z = (F_wipe g).1 ∧ XS (F_wipe g).2 m ∧ ∀ id, 41 ≤ id → m id = μ id)) := by
  obtain ⟨hL, hH, hX, hD⟩ := hS
  have hWF := hI.1.1
  have hn7 := hWF.2.1
  have hpn := hWF.1
  have hF : ∀ id, 41 ≤ id → μ id = μ id := fun _ _ => rfl
  refine x_enter (lv := [(0, .ref (E.1 + 0))]) (by decide +kernel) (Nat.le_of_ble_eq_true rfl) rfl ?_
  refine x_aload_n 0 d_X3_wipe_0 rfl rfl ?_
  refine x_getr (j := 4) 28 x_c3 rfl (Nat.le_of_ble_eq_true rfl) q151 rfl d_X3_wipe_1 ?_
  refine x_getiV (j := 1) (z := nI (gT g)) x_c2 rfl (Nat.le_of_ble_eq_true rfl) q108 rfl (hX.2.2.1) d_X3_wipe_4 ?_
  refine x_istore_n [(1, .int (nI (gT g))), (0, .ref (E.1 + 0))] d_X3_wipe_7 rfl (Nat.le_of_ble_eq_true rfl) rfl ?_
  refine x_aload_n 1 d_X3_wipe_8 rfl rfl ?_
  refine x_getr (j := 4) 28 x_c3 rfl (Nat.le_of_ble_eq_true rfl) q151 rfl d_X3_wipe_9 ?_
  refine x_iconst (x := 0) d_X3_wipe_12 (by decide) ?_
  refine x_putiG (j := 1) x_c2 rfl (Nat.le_of_ble_eq_true rfl) q108 rfl rfl rfl d_X3_wipe_13 (fun μ1 eμ1 => ?_)
  have hX2 : XR (sT g 0 (gB g)) μ1 := XR.tape hX (by rw [eμ1, upd2_at, upd_s]; rfl) (fun _ hj => absurd hj (Nat.not_lt_zero _)) (fun id hid => by rw [eμ1, upd2_ne _ _ _ (by omega)])
  have hL3 := PR.cg hL (μ' := μ1) (fun id hid => (by rw [eμ1, upd2_ne _ _ _ (by omega)]))
  have hLH4 := hH
  rw [← (show μ1 1 = μ 1 from (by rw [eμ1, upd2_ne _ _ _ (by omega)]))] at hLH4
  have hD5 := XD.cg hD (μ' := μ1) (fun id hid => (by rw [eμ1, upd2_ne _ _ _ (by omega)]))
  have hF6 : ∀ id, 41 ≤ id → μ1 id = μ id := fun id hid => (show μ1 id = μ id from (by rw [eμ1, upd2_ne _ _ _ (by omega)])).trans (hF id hid)
  refine x_iload_n 0 d_X3_wipe_16 rfl rfl ?_
  refine x_iret rfl d_X3_wipe_17 ?_
  exact ⟨rfl, ⟨hL3, hLH4, hX2, hD5⟩, hF6⟩
def m_X2_append : x_M := (yX2_append, prog_4_method_2_code, 4, none, 0, 0)
theorem v_X2_append : x_VM m_X2_append 2 := ⟨q474, q4, by decide +kernel, by decide +kernel, by decide +kernel⟩
theorem w_X2_append : x_VI m_X2_append := ⟨q472, q473⟩
theorem d_X2_append_0 : x_dec m_X2_append 0 (.iload_n 2) 1 1 := ⟨by decide +kernel, rfl⟩
theorem d_X2_append_1 : x_dec m_X2_append 1 (.iconst 1) 1 2 := ⟨by decide +kernel, rfl⟩
theorem d_X2_append_2 : x_dec m_X2_append 2 (.isub) 1 3 := ⟨by decide +kernel, rfl⟩
theorem d_X2_append_3 : x_dec m_X2_append 3 (.istore_n 3) 1 4 := ⟨by decide +kernel, rfl⟩
theorem d_X2_append_4 : x_dec m_X2_append 4 (.iload_n 3) 1 5 := ⟨by decide +kernel, rfl⟩
theorem d_X2_append_5 : x_dec m_X2_append 5 (.ifCond .lt 44) 3 8 := ⟨by decide +kernel, rfl⟩
theorem d_X2_append_8 : x_dec m_X2_append 8 (.aload_n 0) 1 9 := ⟨by decide +kernel, rfl⟩
theorem d_X2_append_9 : x_dec m_X2_append 9 (.getfield 15) 3 12 := ⟨by decide +kernel, rfl⟩
theorem d_X2_append_12 : x_dec m_X2_append 12 (.bipush 120) 2 14 := ⟨by decide +kernel, rfl⟩
theorem d_X2_append_14 : x_dec m_X2_append 14 (.if_icmp .ge 35) 3 17 := ⟨by decide +kernel, rfl⟩
theorem d_X2_append_17 : x_dec m_X2_append 17 (.aload_n 0) 1 18 := ⟨by decide +kernel, rfl⟩
theorem d_X2_append_18 : x_dec m_X2_append 18 (.getfield 9) 3 21 := ⟨by decide +kernel, rfl⟩
theorem d_X2_append_21 : x_dec m_X2_append 21 (.aload_n 0) 1 22 := ⟨by decide +kernel, rfl⟩
theorem d_X2_append_22 : x_dec m_X2_append 22 (.getfield 15) 3 25 := ⟨by decide +kernel, rfl⟩
theorem d_X2_append_25 : x_dec m_X2_append 25 (.iload_n 1) 1 26 := ⟨by decide +kernel, rfl⟩
theorem d_X2_append_26 : x_dec m_X2_append 26 (.bipush 8) 2 28 := ⟨by decide +kernel, rfl⟩
theorem d_X2_append_28 : x_dec m_X2_append 28 (.iload_n 3) 1 29 := ⟨by decide +kernel, rfl⟩
theorem d_X2_append_29 : x_dec m_X2_append 29 (.imul) 1 30 := ⟨by decide +kernel, rfl⟩
theorem d_X2_append_30 : x_dec m_X2_append 30 (.iushr) 1 31 := ⟨by decide +kernel, rfl⟩
theorem d_X2_append_31 : x_dec m_X2_append 31 (.i2b) 1 32 := ⟨by decide +kernel, rfl⟩
theorem d_X2_append_32 : x_dec m_X2_append 32 (.bastore) 1 33 := ⟨by decide +kernel, rfl⟩
theorem d_X2_append_33 : x_dec m_X2_append 33 (.aload_n 0) 1 34 := ⟨by decide +kernel, rfl⟩
theorem d_X2_append_34 : x_dec m_X2_append 34 (.dup) 1 35 := ⟨by decide +kernel, rfl⟩
theorem d_X2_append_35 : x_dec m_X2_append 35 (.getfield 15) 3 38 := ⟨by decide +kernel, rfl⟩
theorem d_X2_append_38 : x_dec m_X2_append 38 (.iconst 1) 1 39 := ⟨by decide +kernel, rfl⟩
theorem d_X2_append_39 : x_dec m_X2_append 39 (.iadd) 1 40 := ⟨by decide +kernel, rfl⟩
theorem d_X2_append_40 : x_dec m_X2_append 40 (.putfield 15) 3 43 := ⟨by decide +kernel, rfl⟩
theorem d_X2_append_43 : x_dec m_X2_append 43 (.iinc 3 (-1)) 3 46 := ⟨by decide +kernel, rfl⟩
theorem d_X2_append_46 : x_dec m_X2_append 46 (.goto (-42)) 3 49 := ⟨by decide +kernel, rfl⟩
theorem d_X2_append_49 : x_dec m_X2_append 49 (.return_) 1 50 := ⟨by decide +kernel, rfl⟩
set_option maxHeartbeats 4000000 in
set_option maxRecDepth 100000 in
theorem c_X2_append (l : Launch) (E : x_E) (μ : x_Mem) {t n : Nat} {v : Int32} (hn : n ≤ 4) (ht : t + n ≤ 120) (hL : μ 28 1 = nI t) : x_Met l m_X2_append E [.ref (E.1 + 28), .int v, .int (nI n)] μ (x_J (fun m => m 28 1 = nI (t + n) ∧ (∀ k, k < n → m 29 (t + k) = (byteU v (n - 1 - k)).toInt8.toInt32.toInt8.toInt32) ∧ (∀ j, j < t → m 29 j = μ 29 j) ∧ ∀ id, (id < 28 ∨ 29 < id) → m id = μ id)) := by
  refine x_enter (lv := [(0, .ref (E.1 + 28)), (1, .int v), (2, .int (nI n))]) (by decide +kernel) (Nat.le_of_ble_eq_true rfl) rfl ?_
  refine x_iload_n 2 d_X2_append_0 rfl rfl ?_
  refine x_iconst (x := 1) d_X2_append_1 (by decide) ?_
  refine x_isub d_X2_append_2 ?_
  refine x_istore_n [(3, .int ((nI n) - 1)), (0, .ref (E.1 + 28)), (1, .int v), (2, .int (nI n))] d_X2_append_3 rfl (Nat.le_of_ble_eq_true rfl) rfl ?_
  have L1 : ∀ k : Nat, k ≤ n → ∀ μ4 : x_Mem, (μ4 28 1 = nI (t + k)) → (∀ k1, k1 < k → μ4 29 (t + k1) = (byteU v (n - 1 - k1)).toInt8.toInt32.toInt8.toInt32) → (∀ j, j < t → μ4 29 j = μ 29 j) → (∀ id, (id < 28 ∨ 29 < id) → μ4 id = μ id) → x_G l E m_X2_append (x_mv E m_X2_append (x_J (fun m => m 28 1 = nI (t + n) ∧ (∀ k, k < n → m 29 (t + k) = (byteU v (n - 1 - k)).toInt8.toInt32.toInt8.toInt32) ∧ (∀ j, j < t → m 29 j = μ 29 j) ∧ ∀ id, (id < 28 ∨ 29 < id) → m id = μ id))) μ4 4 [(3, .int (nI (n - k) - 1)), (0, .ref (E.1 + 28)), (1, .int v)] [] := by
    refine x_down _ n (fun k hi3 ih2 => ?_)
    intro μ4 hL1 hA1 hB1 hF1
    refine x_iload_n 0 d_X2_append_4 rfl rfl ?_
    rcases Nat.lt_or_ge k n with hkn | hkn
    · rw [app_up hkn hn]
      refine x_if_lt 49 d_X2_append_5 (by decide) (fun c5 => ?_) (fun c5 => ?_)
      · skip
        exact absurd c5 (nI_pos (by omega))
      · skip
        refine x_aload_n 1 d_X2_append_8 rfl rfl ?_
        refine x_getiV (j := 1) (z := nI (t + k)) x_c2 rfl (Nat.le_of_ble_eq_true rfl) q107 rfl hL1 d_X2_append_9 ?_
        refine x_bipush (x := 120) d_X2_append_12 (by decide) ?_
        refine x_icmp_ge 49 d_X2_append_14 (by decide) (fun c6 => ?_) (fun c6 => ?_)
        · skip
          exact absurd (x_ge (N := 120) c6 rfl rfl (by omega) (by omega)) (by omega)
        · skip
          refine x_aload_n 1 d_X2_append_17 rfl rfl ?_
          refine x_getr (j := 0) 29 x_c2 rfl (Nat.le_of_ble_eq_true rfl) q106 rfl d_X2_append_18 ?_
          refine x_aload_n 1 d_X2_append_21 rfl rfl ?_
          refine x_getiV (j := 1) (z := nI (t + k)) x_c2 rfl (Nat.le_of_ble_eq_true rfl) q107 rfl hL1 d_X2_append_22 ?_
          refine x_iload_n 2 d_X2_append_25 rfl rfl ?_
          refine x_bipush (x := 8) d_X2_append_26 (by decide) ?_
          refine x_iload_n 0 d_X2_append_28 rfl rfl ?_
          refine x_imul d_X2_append_29 ?_
          refine x_iushr d_X2_append_30 ?_
          refine x_i2b d_X2_append_31 ?_
          refine x_bastNG 120 (t + k) rfl rfl (by omega) (by decide) d_X2_append_32 (fun μ7 eμ7 => ?_)
          have hA9 : ∀ k1, k1 < k + 1 → μ7 29 (t + k1) = (byteU v (n - 1 - k1)).toInt8.toInt32.toInt8.toInt32 := app_b hA1 (k := k) eμ7
          have hB9 : ∀ j, j < t → μ7 29 j = μ 29 j := fun j hj => by rw [eμ7, upd2_at, upd_n _ _ (by omega)]; exact hB1 j hj
          have hL9 : μ7 28 1 = nI (t + k) := by rw [eμ7, upd2_ne _ _ _ (by decide)]; exact hL1
          have hF8 : ∀ id, (id < 28 ∨ 29 < id) → μ7 id = μ id := fun id hid => (show μ7 id = μ4 id from (by rw [eμ7, upd2_ne _ _ _ (by omega)])).trans (hF1 id hid)
          refine x_aload_n 1 d_X2_append_33 rfl rfl ?_
          refine x_dup d_X2_append_34 rfl ?_
          refine x_getiV (j := 1) (z := nI (t + k)) x_c2 rfl (Nat.le_of_ble_eq_true rfl) q107 rfl hL9 d_X2_append_35 ?_
          refine x_iconst (x := 1) d_X2_append_38 (by decide) ?_
          refine x_iadd d_X2_append_39 ?_
          refine x_putiG (j := 1) x_c2 rfl (Nat.le_of_ble_eq_true rfl) q107 rfl rfl rfl d_X2_append_40 (fun μ9 eμ9 => ?_)
          have hL8 : μ9 28 1 = nI (t + (k + 1)) := by rw [eμ9, upd2_at, upd_s, show (1 : Int32) = nI 1 from rfl, nI_add]; rfl
          have hA8 : ∀ k1, k1 < k + 1 → μ9 29 (t + k1) = (byteU v (n - 1 - k1)).toInt8.toInt32.toInt8.toInt32 := fun k1 hk1 => by rw [eμ9, upd2_ne _ _ _ (by decide)]; exact hA9 k1 hk1
          have hB8 : ∀ j, j < t → μ9 29 j = μ 29 j := fun j hj => by rw [eμ9, upd2_ne _ _ _ (by decide)]; exact hB9 j hj
          have hF10 : ∀ id, (id < 28 ∨ 29 < id) → μ9 id = μ id := fun id hid => (show μ9 id = μ7 id from (by rw [eμ9, upd2_ne _ _ _ (by omega)])).trans (hF8 id hid)
          refine x_iinc [(3, .int ((nI (n - 1 - k)) + (-1))), (0, .ref (E.1 + 28)), (1, .int v)] 0 d_X2_append_43 rfl rfl (Nat.le_of_ble_eq_true rfl) rfl ?_
          rw [app_nx]
          refine x_goto 4 d_X2_append_46 (by decide) ?_
          exact ih2 (k + 1) (by omega) (by omega) μ9 hL8 hA8 hB8 hF10
    · rw [app_dn hkn]
      refine x_if_lt 49 d_X2_append_5 (by decide) (fun c11 => ?_) (fun c11 => ?_)
      rotate_left
      · exact absurd c11 (by decide)
      refine x_vret rfl d_X2_append_49 ?_
      have e7 : k = n := by omega
      subst e7
      exact ⟨hL1, hA1, hB1, hF1⟩
  refine x_lv [0, 1, 2] rfl ?_
  exact L1 0 (by omega) μ hL (fun _ hj => absurd hj (Nat.not_lt_zero _)) (fun _ _ => rfl) (fun _ _ => rfl)
def m_X3_feed : x_M := (yX3_feed, prog_1_method_41_code, 3, (some FieldType.int), 1, 23)
theorem v_X3_feed : x_VM m_X3_feed 2 := ⟨q470, q1, by decide +kernel, by decide +kernel, by decide +kernel⟩
theorem w_X3_feed : x_VI m_X3_feed := ⟨q468, q469⟩
theorem d_X3_feed_0 : x_dec m_X3_feed 0 (.iload_n 2) 1 1 := ⟨by decide +kernel, rfl⟩
theorem d_X3_feed_1 : x_dec m_X3_feed 1 (.iconst 1) 1 2 := ⟨by decide +kernel, rfl⟩
theorem d_X3_feed_2 : x_dec m_X3_feed 2 (.iconst 4) 1 3 := ⟨by decide +kernel, rfl⟩
theorem d_X3_feed_3 : x_dec m_X3_feed 3 (.invokestatic 51) 3 6 := ⟨by decide +kernel, rfl⟩
theorem d_X3_feed_6 : x_dec m_X3_feed 6 (.ifCond .ne 10) 3 9 := ⟨by decide +kernel, rfl⟩
theorem d_X3_feed_9 : x_dec m_X3_feed 9 (.aload_n 0) 1 10 := ⟨by decide +kernel, rfl⟩
theorem d_X3_feed_10 : x_dec m_X3_feed 10 (.ldc 55) 2 12 := ⟨by decide +kernel, rfl⟩
theorem d_X3_feed_12 : x_dec m_X3_feed 12 (.invokevirtual 56) 3 15 := ⟨by decide +kernel, rfl⟩
theorem d_X3_feed_15 : x_dec m_X3_feed 15 (.ireturn) 1 16 := ⟨by decide +kernel, rfl⟩
theorem d_X3_feed_16 : x_dec m_X3_feed 16 (.aload_n 0) 1 17 := ⟨by decide +kernel, rfl⟩
theorem d_X3_feed_17 : x_dec m_X3_feed 17 (.getfield 29) 3 20 := ⟨by decide +kernel, rfl⟩
theorem d_X3_feed_20 : x_dec m_X3_feed 20 (.getfield 221) 3 23 := ⟨by decide +kernel, rfl⟩
theorem d_X3_feed_23 : x_dec m_X3_feed 23 (.iload_n 2) 1 24 := ⟨by decide +kernel, rfl⟩
theorem d_X3_feed_24 : x_dec m_X3_feed 24 (.iadd) 1 25 := ⟨by decide +kernel, rfl⟩
theorem d_X3_feed_25 : x_dec m_X3_feed 25 (.bipush 120) 2 27 := ⟨by decide +kernel, rfl⟩
theorem d_X3_feed_27 : x_dec m_X3_feed 27 (.if_icmp .le 10) 3 30 := ⟨by decide +kernel, rfl⟩
theorem d_X3_feed_30 : x_dec m_X3_feed 30 (.aload_n 0) 1 31 := ⟨by decide +kernel, rfl⟩
theorem d_X3_feed_31 : x_dec m_X3_feed 31 (.ldc 76) 2 33 := ⟨by decide +kernel, rfl⟩
theorem d_X3_feed_33 : x_dec m_X3_feed 33 (.invokevirtual 56) 3 36 := ⟨by decide +kernel, rfl⟩
theorem d_X3_feed_36 : x_dec m_X3_feed 36 (.ireturn) 1 37 := ⟨by decide +kernel, rfl⟩
theorem d_X3_feed_37 : x_dec m_X3_feed 37 (.aload_n 0) 1 38 := ⟨by decide +kernel, rfl⟩
theorem d_X3_feed_38 : x_dec m_X3_feed 38 (.getfield 29) 3 41 := ⟨by decide +kernel, rfl⟩
theorem d_X3_feed_41 : x_dec m_X3_feed 41 (.iload_n 1) 1 42 := ⟨by decide +kernel, rfl⟩
theorem d_X3_feed_42 : x_dec m_X3_feed 42 (.iload_n 2) 1 43 := ⟨by decide +kernel, rfl⟩
theorem d_X3_feed_43 : x_dec m_X3_feed 43 (.invokevirtual 222) 3 46 := ⟨by decide +kernel, rfl⟩
theorem d_X3_feed_46 : x_dec m_X3_feed 46 (.aload_n 0) 1 47 := ⟨by decide +kernel, rfl⟩
theorem d_X3_feed_47 : x_dec m_X3_feed 47 (.getfield 29) 3 50 := ⟨by decide +kernel, rfl⟩
theorem d_X3_feed_50 : x_dec m_X3_feed 50 (.getfield 221) 3 53 := ⟨by decide +kernel, rfl⟩
theorem d_X3_feed_53 : x_dec m_X3_feed 53 (.ireturn) 1 54 := ⟨by decide +kernel, rfl⟩
set_option maxHeartbeats 4000000 in
set_option maxRecDepth 100000 in
theorem c_X3_feed (l : Launch) (E : x_E) (μ : x_Mem) (g : x_SG) (hS : XS g μ) (hI : Inv g) (v n : Int32) : x_Met l m_X3_feed E [.ref (E.1 + 0), .int v, .int n] μ (x_I (fun z m => z = (F_feed g v n).1 ∧ XS (F_feed g v n).2 m ∧ ∀ id, 41 ≤ id → m id = μ id)) := by
  obtain ⟨hL, hH, hX, hD⟩ := hS
  have hWF := hI.1.1
  have hn7 := hWF.2.1
  have hpn := hWF.1
  have hF : ∀ id, 41 ≤ id → μ id = μ id := fun _ _ => rfl
  have hT120 := hI.2.2.1
  refine x_enter (lv := [(0, .ref (E.1 + 0)), (1, .int v), (2, .int n)]) (by decide +kernel) (Nat.le_of_ble_eq_true rfl) rfl ?_
  refine x_iload_n 2 d_X3_feed_0 rfl rfl ?_
  refine x_iconst (x := 1) d_X3_feed_1 (by decide) ?_
  refine x_iconst (x := 4) d_X3_feed_2 (by decide) ?_
  refine x_csip (as := [.int n, .int 1, .int 4]) (c_X3_isWithin l E μ n 1 4) v_X3_isWithin q180 q179 rfl ⟨Nat.le_of_ble_eq_true rfl, Nat.le_of_ble_eq_true rfl⟩ rfl (Nat.le_of_ble_eq_true rfl) d_X3_feed_3 ?_
  refine x_ifb_ne 16 d_X3_feed_6 (by decide) (fun c1 => ?_) (fun c1 => ?_)
  · skip
    obtain ⟨h, hh, rfl⟩ := (inR_nat2 (a := 1) (n := 4) (by decide) (by decide) c1)
    refine x_aload_n 0 d_X3_feed_16 rfl rfl ?_
    refine x_getr (j := 4) 28 x_c3 rfl (Nat.le_of_ble_eq_true rfl) q151 rfl d_X3_feed_17 ?_
    refine x_getiV (j := 1) (z := nI (gT g)) x_c2 rfl (Nat.le_of_ble_eq_true rfl) q108 rfl (hX.2.2.1) d_X3_feed_20 ?_
    refine x_iload_n 2 d_X3_feed_23 rfl rfl ?_
    refine x_iadd d_X3_feed_24 ?_
    rw [nI_add]
    refine x_bipush (x := 120) d_X3_feed_25 (by decide) ?_
    refine x_icmp_le 37 d_X3_feed_27 (by decide) (fun c2 => ?_) (fun c2 => ?_)
    · skip
      have hN : ¬ 120 < gT g + h := Nat.not_lt.mpr ((nI_leI (a := gT g + h) (b := 120) (by omega) (by decide)).mp c2)
      refine x_aload_n 0 d_X3_feed_37 rfl rfl ?_
      refine x_getr (j := 4) 28 x_c3 rfl (Nat.le_of_ble_eq_true rfl) q151 rfl d_X3_feed_38 ?_
      refine x_iload_n 1 d_X3_feed_41 rfl rfl ?_
      refine x_iload_n 2 d_X3_feed_42 rfl rfl ?_
      refine x_cvv (k := 28) (as := [.int v, .int (nI h)]) (c_X2_append l E μ (t := gT g) (n := h) (v := v) (by omega) (by omega) hX.2.2.1) v_X2_append w_X2_append q471 o_T rfl ⟨Nat.le_of_ble_eq_true rfl, Nat.le_of_ble_eq_true rfl⟩ rfl (Nat.le_of_ble_eq_true rfl) d_X3_feed_43 ?_
      rintro μ3 ⟨hp1, hp2, hp3, hp4⟩
      have hX4 : XR (sT g (gT g + h) (feedTo g v h h)) μ3 := XR.tape hX hp1 (feed_all (by omega) hp2 hp3 hX.2.2.2.1) (fun id hid => hp4 id (by omega))
      have hL5 := PR.cg hL (μ' := μ3) (fun id hid => (hp4 _ (by omega)))
      have hLH6 := hH
      rw [← (show μ3 1 = μ 1 from (hp4 _ (by omega)))] at hLH6
      have hD7 := XD.cg hD (μ' := μ3) (fun id hid => (hp4 _ (by omega)))
      have hF8 : ∀ id, 41 ≤ id → μ3 id = μ id := fun id hid => (show μ3 id = μ id from (hp4 _ (by omega))).trans (hF id hid)
      refine x_aload_n 0 d_X3_feed_46 rfl rfl ?_
      refine x_getr (j := 4) 28 x_c3 rfl (Nat.le_of_ble_eq_true rfl) q151 rfl d_X3_feed_47 ?_
      refine x_getiV (j := 1) (z := nI (gT g + h)) x_c2 rfl (Nat.le_of_ble_eq_true rfl) q108 rfl hp1 d_X3_feed_50 ?_
      refine x_iret rfl d_X3_feed_53 ?_
      have e9 : F_feed g v (nI h) = (nI (gT g + h), sT g (gT g + h) (feedTo g v h h)) := by simp [F_feed, x_b_f, x_b_t, c1, nI_clamp (n := h) (by omega), hN]
      rw [e9]
      exact ⟨rfl, ⟨hL5, hLH6, hX4, hD7⟩, hF8⟩
    · skip
      have hN : 120 < gT g + h := Nat.not_le.mp (fun z => c2 (nI_le z (by decide)))
      refine x_aload_n 0 d_X3_feed_30 rfl rfl ?_
      refine x_ldc q225 d_X3_feed_31 ?_
      refine x_cvi (k := 0) (as := [.int (-1000002)]) (c_X3_finding l E μ (i := 1) hD (by decide) (w := (-1000002)) (by decide)) v_X3_finding w_X3_finding q183 o_X rfl ⟨Nat.le_of_ble_eq_true rfl, Nat.le_of_ble_eq_true rfl⟩ rfl (Nat.le_of_ble_eq_true rfl) d_X3_feed_33 ?_
      rintro _ μ9 ⟨rfl, hD10, hF11⟩
      have hL12 := PR.cg hL (μ' := μ9) (fun id hid => (hF11 _ (by omega)))
      have hLH13 := hH
      rw [← (show μ9 1 = μ 1 from (hF11 _ (by omega)))] at hLH13
      have hX14 := XR.cg hX (μ' := μ9) (fun id hid => (hF11 _ (by omega)))
      have hF15 : ∀ id, 41 ≤ id → μ9 id = μ id := fun id hid => (show μ9 id = μ id from (hF11 _ (by omega))).trans (hF id hid)
      refine x_iret rfl d_X3_feed_36 ?_
      have e9 : F_feed g v (nI h) = fin g 1 := by simp [F_feed, x_b_f, x_b_t, c1, nI_clamp (n := h) (by omega), hN]
      rw [e9]
      exact ⟨rfl, XS.fin hL12 hLH13 hX14 hD10, hF15⟩
  · skip
    refine x_aload_n 0 d_X3_feed_9 rfl rfl ?_
    refine x_ldc q182 d_X3_feed_10 ?_
    refine x_cvi (k := 0) (as := [.int (-1000001)]) (c_X3_finding l E μ (i := 0) hD (by decide) (w := (-1000001)) (by decide)) v_X3_finding w_X3_finding q183 o_X rfl ⟨Nat.le_of_ble_eq_true rfl, Nat.le_of_ble_eq_true rfl⟩ rfl (Nat.le_of_ble_eq_true rfl) d_X3_feed_12 ?_
    rintro _ μ16 ⟨rfl, hD17, hF18⟩
    have hL19 := PR.cg hL (μ' := μ16) (fun id hid => (hF18 _ (by omega)))
    have hLH20 := hH
    rw [← (show μ16 1 = μ 1 from (hF18 _ (by omega)))] at hLH20
    have hX21 := XR.cg hX (μ' := μ16) (fun id hid => (hF18 _ (by omega)))
    have hF22 : ∀ id, 41 ≤ id → μ16 id = μ id := fun id hid => (show μ16 id = μ id from (hF18 _ (by omega))).trans (hF id hid)
    refine x_iret rfl d_X3_feed_15 ?_
    have e9 : F_feed g v n = fin g 0 := by simp [F_feed, x_b_f, x_b_t, c1]
    rw [e9]
    exact ⟨rfl, XS.fin hL19 hLH20 hX21 hD17, hF22⟩
def m_X3_sheetAt : x_M := (yX3_sheetAt, prog_1_method_65_code, 2, (some (FieldType.object "FaithRails$Sheet")), 0, 0)
theorem v_X3_sheetAt : x_VM m_X3_sheetAt 1 := ⟨q413, q1, by decide +kernel, by decide +kernel, by decide +kernel⟩
theorem w_X3_sheetAt : x_VI m_X3_sheetAt := ⟨q412, qs10⟩
theorem d_X3_sheetAt_0 : x_dec m_X3_sheetAt 0 (.iload_n 1) 1 1 := ⟨by decide +kernel, rfl⟩
theorem d_X3_sheetAt_1 : x_dec m_X3_sheetAt 1 (.ifCond .lt 17) 3 4 := ⟨by decide +kernel, rfl⟩
theorem d_X3_sheetAt_4 : x_dec m_X3_sheetAt 4 (.iload_n 1) 1 5 := ⟨by decide +kernel, rfl⟩
theorem d_X3_sheetAt_5 : x_dec m_X3_sheetAt 5 (.iconst 4) 1 6 := ⟨by decide +kernel, rfl⟩
theorem d_X3_sheetAt_6 : x_dec m_X3_sheetAt 6 (.if_icmp .ge 12) 3 9 := ⟨by decide +kernel, rfl⟩
theorem d_X3_sheetAt_9 : x_dec m_X3_sheetAt 9 (.aload_n 0) 1 10 := ⟨by decide +kernel, rfl⟩
theorem d_X3_sheetAt_10 : x_dec m_X3_sheetAt 10 (.getfield 35) 3 13 := ⟨by decide +kernel, rfl⟩
theorem d_X3_sheetAt_13 : x_dec m_X3_sheetAt 13 (.iload_n 1) 1 14 := ⟨by decide +kernel, rfl⟩
theorem d_X3_sheetAt_14 : x_dec m_X3_sheetAt 14 (.aaload) 1 15 := ⟨by decide +kernel, rfl⟩
theorem d_X3_sheetAt_15 : x_dec m_X3_sheetAt 15 (.goto 4) 3 18 := ⟨by decide +kernel, rfl⟩
theorem d_X3_sheetAt_18 : x_dec m_X3_sheetAt 18 (.aconst_null) 1 19 := ⟨by decide +kernel, rfl⟩
theorem d_X3_sheetAt_19 : x_dec m_X3_sheetAt 19 (.areturn) 1 20 := ⟨by decide +kernel, rfl⟩
set_option maxHeartbeats 4000000 in
set_option maxRecDepth 100000 in
theorem c_X3_sheetAt (l : Launch) (E : x_E) (μ : x_Mem) (s : Int32) : x_Met l m_X3_sheetAt E [.ref (E.1 + 0), .int s] μ ((fun r m => m = μ ∧ ((isSh s = true ∧ r = some (.ref (E.1 + (33 + 2 * s.toNatClampNeg)))) ∨ (isSh s = false ∧ r = some .null)))) := by
  refine x_enter (lv := [(0, .ref (E.1 + 0)), (1, .int s)]) (by decide +kernel) (Nat.le_of_ble_eq_true rfl) rfl ?_
  refine x_iload_n 1 d_X3_sheetAt_0 rfl rfl ?_
  refine x_if_lt 18 d_X3_sheetAt_1 (by decide) (fun c1 => ?_) (fun c1 => ?_)
  · skip
    refine x_null d_X3_sheetAt_18 ?_
    refine x_aret rfl (Or.inl rfl) d_X3_sheetAt_19 ?_
    exact ⟨rfl, Or.inr ⟨inR_f1 c1, rfl⟩⟩
  · skip
    refine x_iload_n 1 d_X3_sheetAt_4 rfl rfl ?_
    refine x_iconst (x := 4) d_X3_sheetAt_5 (by decide) ?_
    refine x_icmp_ge 18 d_X3_sheetAt_6 (by decide) (fun c2 => ?_) (fun c2 => ?_)
    · skip
      refine x_null d_X3_sheetAt_18 ?_
      refine x_aret rfl (Or.inl rfl) d_X3_sheetAt_19 ?_
      exact ⟨rfl, Or.inr ⟨inR_f2 (n := 3) (by decide) c2, rfl⟩⟩
    · skip
      have ksh : isSh s = true := inR_t (n := 3) (by decide) c1 c2
      obtain ⟨i, hi, rfl⟩ := inR_nat (n := 3) (by decide) ksh
      refine x_aload_n 0 d_X3_sheetAt_9 rfl rfl ?_
      refine x_getr (j := 5) 30 x_c3 rfl (Nat.le_of_ble_eq_true rfl) q152 rfl d_X3_sheetAt_10 ?_
      refine x_iload_n 1 d_X3_sheetAt_13 rfl rfl ?_
      refine x_aald (i := nI i) (vp_in_nI (by omega) (by decide)) d_X3_sheetAt_14 ?_
      rw [nI_clamp (by omega)]
      refine x_goto 19 d_X3_sheetAt_15 (by decide) ?_
      refine x_aret rfl (Or.inr ⟨_, rfl⟩) d_X3_sheetAt_19 ?_
      exact ⟨rfl, Or.inl ⟨ksh, by first | rfl | rw [nI_clamp (by omega)]⟩⟩
def m_X1_lowest : x_M := (yX1_lowest, prog_3_method_3_code, 2, (some FieldType.int), 0, 0)
theorem v_X1_lowest : x_VM m_X1_lowest 1 := ⟨q620, q5, by decide +kernel, by decide +kernel, by decide +kernel⟩
theorem w_X1_lowest : x_VI m_X1_lowest := ⟨q618, q619⟩
theorem d_X1_lowest_0 : x_dec m_X1_lowest 0 (.aload_n 0) 1 1 := ⟨by decide +kernel, rfl⟩
theorem d_X1_lowest_1 : x_dec m_X1_lowest 1 (.getfield 9) 3 4 := ⟨by decide +kernel, rfl⟩
theorem d_X1_lowest_4 : x_dec m_X1_lowest 4 (.lookupswitch 34 #[(8, 28), (16, 31)]) 28 32 := ⟨by decide +kernel, rfl⟩
theorem d_X1_lowest_32 : x_dec m_X1_lowest 32 (.iload_n 1) 1 33 := ⟨by decide +kernel, rfl⟩
theorem d_X1_lowest_33 : x_dec m_X1_lowest 33 (.i2b) 1 34 := ⟨by decide +kernel, rfl⟩
theorem d_X1_lowest_34 : x_dec m_X1_lowest 34 (.ireturn) 1 35 := ⟨by decide +kernel, rfl⟩
theorem d_X1_lowest_35 : x_dec m_X1_lowest 35 (.iload_n 1) 1 36 := ⟨by decide +kernel, rfl⟩
theorem d_X1_lowest_36 : x_dec m_X1_lowest 36 (.i2s) 1 37 := ⟨by decide +kernel, rfl⟩
theorem d_X1_lowest_37 : x_dec m_X1_lowest 37 (.ireturn) 1 38 := ⟨by decide +kernel, rfl⟩
theorem d_X1_lowest_38 : x_dec m_X1_lowest 38 (.iload_n 1) 1 39 := ⟨by decide +kernel, rfl⟩
theorem d_X1_lowest_39 : x_dec m_X1_lowest 39 (.ireturn) 1 40 := ⟨by decide +kernel, rfl⟩
set_option maxHeartbeats 4000000 in
set_option maxRecDepth 100000 in
theorem c_X1_lowest (l : Launch) (E : x_E) (μ : x_Mem) {q : Nat} (hq : q < 4) {b : Int32} (hb : μ (33 + 2 * q) 0 = b) (v : Int32) : x_Met l m_X1_lowest E [.ref (E.1 + (33 + 2 * q)), .int v] μ (x_I (fun z m => z = lowF b v ∧ m = μ)) := by
  refine x_enter (lv := [(0, .ref (E.1 + (33 + 2 * q))), (1, .int v)]) (by decide +kernel) (Nat.le_of_ble_eq_true rfl) rfl ?_
  refine x_aload_n 0 d_X1_lowest_0 rfl rfl ?_
  refine x_getiV (j := 0) (z := b) x_c1 (s_kd (x_sqs (i := q) (by omega))) (Nat.le_of_ble_eq_true rfl) q134 (s_n0 (x_sqs (i := q) (by omega))) hb d_X1_lowest_1 ?_
  by_cases k1 : b = 8
  · have k1T : (b).toInt = 8 := by rw [k1]; decide
    refine x_lsw 32 (off := 28) d_X1_lowest_4 (by decide) (by rw [k1T]; decide) (by decide) ?_
    refine x_iload_n 1 d_X1_lowest_32 rfl rfl ?_
    refine x_i2b d_X1_lowest_33 ?_
    refine x_iret rfl d_X1_lowest_34 ?_
    exact ⟨by unfold lowF; simp [k1], rfl⟩
  by_cases k2 : b = 16
  · have k2T : (b).toInt = 16 := by rw [k2]; decide
    refine x_lsw 35 (off := 31) d_X1_lowest_4 (by decide) (by rw [k2T]; decide) (by decide) ?_
    refine x_iload_n 1 d_X1_lowest_35 rfl rfl ?_
    refine x_i2s d_X1_lowest_36 ?_
    refine x_iret rfl d_X1_lowest_37 ?_
    exact ⟨by unfold lowF; simp [k2], rfl⟩
  refine x_lsw 38 (off := 34) d_X1_lowest_4 (by decide) (by show Op.lookupswitch.offset [(8, 28), (16, 31)] _ _ = _; rw [lv_osw k1 (by decide)]; rw [lv_osw k2 (by decide)]; rfl) (by decide) ?_
  refine x_iload_n 1 d_X1_lowest_38 rfl rfl ?_
  refine x_iret rfl d_X1_lowest_39 ?_
  exact ⟨by unfold lowF; simp [k1, k2], rfl⟩
def m_X1_hasRow : x_M := (yX1_hasRow, prog_3_method_4_code, 3, (some FieldType.boolean), 0, 0)
theorem v_X1_hasRow : x_VM m_X1_hasRow 2 := ⟨q628, q5, by decide +kernel, by decide +kernel, by decide +kernel⟩
theorem w_X1_hasRow : x_VI m_X1_hasRow := ⟨q626, q627⟩
theorem d_X1_hasRow_0 : x_dec m_X1_hasRow 0 (.iload_n 1) 1 1 := ⟨by decide +kernel, rfl⟩
theorem d_X1_hasRow_1 : x_dec m_X1_hasRow 1 (.ifCond .lt 21) 3 4 := ⟨by decide +kernel, rfl⟩
theorem d_X1_hasRow_4 : x_dec m_X1_hasRow 4 (.iload_n 2) 1 5 := ⟨by decide +kernel, rfl⟩
theorem d_X1_hasRow_5 : x_dec m_X1_hasRow 5 (.ifCond .lt 17) 3 8 := ⟨by decide +kernel, rfl⟩
theorem d_X1_hasRow_8 : x_dec m_X1_hasRow 8 (.iload_n 2) 1 9 := ⟨by decide +kernel, rfl⟩
theorem d_X1_hasRow_9 : x_dec m_X1_hasRow 9 (.aload_n 0) 1 10 := ⟨by decide +kernel, rfl⟩
theorem d_X1_hasRow_10 : x_dec m_X1_hasRow 10 (.getfield 15) 3 13 := ⟨by decide +kernel, rfl⟩
theorem d_X1_hasRow_13 : x_dec m_X1_hasRow 13 (.iload_n 1) 1 14 := ⟨by decide +kernel, rfl⟩
theorem d_X1_hasRow_14 : x_dec m_X1_hasRow 14 (.isub) 1 15 := ⟨by decide +kernel, rfl⟩
theorem d_X1_hasRow_15 : x_dec m_X1_hasRow 15 (.if_icmp .gt 7) 3 18 := ⟨by decide +kernel, rfl⟩
theorem d_X1_hasRow_18 : x_dec m_X1_hasRow 18 (.iconst 1) 1 19 := ⟨by decide +kernel, rfl⟩
theorem d_X1_hasRow_19 : x_dec m_X1_hasRow 19 (.goto 4) 3 22 := ⟨by decide +kernel, rfl⟩
theorem d_X1_hasRow_22 : x_dec m_X1_hasRow 22 (.iconst 0) 1 23 := ⟨by decide +kernel, rfl⟩
theorem d_X1_hasRow_23 : x_dec m_X1_hasRow 23 (.ireturn) 1 24 := ⟨by decide +kernel, rfl⟩
set_option maxHeartbeats 4000000 in
set_option maxRecDepth 100000 in
theorem c_X1_hasRow (l : Launch) (E : x_E) (μ : x_Mem) {q : Nat} (hq : q < 4) {z0 : Nat} (hz : μ (33 + 2 * q) 1 = nI z0) (f n : Int32) : x_Met l m_X1_hasRow E [.ref (E.1 + (33 + 2 * q)), .int f, .int n] μ (x_I (fun z m => z = x_b (rowOk z0 f n) ∧ m = μ)) := by
  refine x_enter (lv := [(0, .ref (E.1 + (33 + 2 * q))), (1, .int f), (2, .int n)]) (by decide +kernel) (Nat.le_of_ble_eq_true rfl) rfl ?_
  refine x_iload_n 1 d_X1_hasRow_0 rfl rfl ?_
  refine x_if_lt 22 d_X1_hasRow_1 (by decide) (fun c1 => ?_) (fun c1 => ?_)
  · skip
    refine x_iconst (x := 0) d_X1_hasRow_22 (by decide) ?_
    refine x_zret0 rfl d_X1_hasRow_23 ?_
    exact ⟨congrArg x_b (rowOk_f1 c1).symm, rfl⟩
  · skip
    refine x_iload_n 2 d_X1_hasRow_4 rfl rfl ?_
    refine x_if_lt 22 d_X1_hasRow_5 (by decide) (fun c2 => ?_) (fun c2 => ?_)
    · skip
      refine x_iconst (x := 0) d_X1_hasRow_22 (by decide) ?_
      refine x_zret0 rfl d_X1_hasRow_23 ?_
      exact ⟨congrArg x_b (rowOk_f2 c2).symm, rfl⟩
    · skip
      refine x_iload_n 2 d_X1_hasRow_8 rfl rfl ?_
      refine x_aload_n 0 d_X1_hasRow_9 rfl rfl ?_
      refine x_getiV (j := 1) (z := nI z0) x_c1 (s_kd (x_sqs (i := q) (by omega))) (Nat.le_of_ble_eq_true rfl) q136 (s_n1 (x_sqs (i := q) (by omega))) hz d_X1_hasRow_10 ?_
      refine x_iload_n 1 d_X1_hasRow_13 rfl rfl ?_
      refine x_isub d_X1_hasRow_14 ?_
      refine x_icmp_gt 22 d_X1_hasRow_15 (by decide) (fun c3 => ?_) (fun c3 => ?_)
      · skip
        refine x_iconst (x := 0) d_X1_hasRow_22 (by decide) ?_
        refine x_zret0 rfl d_X1_hasRow_23 ?_
        exact ⟨congrArg x_b (rowOk_f3 c3).symm, rfl⟩
      · skip
        refine x_iconst (x := 1) d_X1_hasRow_18 (by decide) ?_
        refine x_goto 23 d_X1_hasRow_19 (by decide) ?_
        refine x_zret1 rfl d_X1_hasRow_23 ?_
        exact ⟨congrArg x_b (rowOk_t c1 c2 c3).symm, rfl⟩
def m_X1_begin : x_M := (yX1_begin, prog_3_method_2_code, 3, none, 1, 23)
theorem v_X1_begin : x_VM m_X1_begin 2 := ⟨q611, q5, by decide +kernel, by decide +kernel, by decide +kernel⟩
theorem w_X1_begin : x_VI m_X1_begin := ⟨q609, q610⟩
theorem d_X1_begin_0 : x_dec m_X1_begin 0 (.aload_n 0) 1 1 := ⟨by decide +kernel, rfl⟩
theorem d_X1_begin_1 : x_dec m_X1_begin 1 (.iload_n 1) 1 2 := ⟨by decide +kernel, rfl⟩
theorem d_X1_begin_2 : x_dec m_X1_begin 2 (.putfield 9) 3 5 := ⟨by decide +kernel, rfl⟩
theorem d_X1_begin_5 : x_dec m_X1_begin 5 (.aload_n 0) 1 6 := ⟨by decide +kernel, rfl⟩
theorem d_X1_begin_6 : x_dec m_X1_begin 6 (.iload_n 2) 1 7 := ⟨by decide +kernel, rfl⟩
theorem d_X1_begin_7 : x_dec m_X1_begin 7 (.putfield 15) 3 10 := ⟨by decide +kernel, rfl⟩
theorem d_X1_begin_10 : x_dec m_X1_begin 10 (.aload_n 0) 1 11 := ⟨by decide +kernel, rfl⟩
theorem d_X1_begin_11 : x_dec m_X1_begin 11 (.getfield 18) 3 14 := ⟨by decide +kernel, rfl⟩
theorem d_X1_begin_14 : x_dec m_X1_begin 14 (.iconst 0) 1 15 := ⟨by decide +kernel, rfl⟩
theorem d_X1_begin_15 : x_dec m_X1_begin 15 (.invokestatic 22) 3 18 := ⟨by decide +kernel, rfl⟩
theorem d_X1_begin_18 : x_dec m_X1_begin 18 (.return_) 1 19 := ⟨by decide +kernel, rfl⟩
set_option maxHeartbeats 4000000 in
set_option maxRecDepth 100000 in
theorem c_X1_begin (l : Launch) (E : x_E) (μ : x_Mem) {q : Nat} (hq : q < 4) (b : Int32) (z : Nat) : x_Met l m_X1_begin E [.ref (E.1 + (33 + 2 * q)), .int b, .int (nI z)] μ (x_J (fun m => m (33 + 2 * q) 0 = b ∧ m (33 + 2 * q) 1 = nI z ∧ (∀ j, j < 40 → m (33 + 2 * q + 1) j = 0) ∧ ∀ id, (id < 33 + 2 * q ∨ 33 + 2 * q + 1 < id) → m id = μ id)) := by
  have hF : ∀ id, (id < 33 + 2 * q ∨ 33 + 2 * q + 1 < id) → μ id = μ id := fun _ _ => rfl
  refine x_enter (lv := [(0, .ref (E.1 + (33 + 2 * q))), (1, .int b), (2, .int (nI z))]) (by decide +kernel) (Nat.le_of_ble_eq_true rfl) rfl ?_
  refine x_aload_n 0 d_X1_begin_0 rfl rfl ?_
  refine x_iload_n 1 d_X1_begin_1 rfl rfl ?_
  refine x_putiG (j := 0) x_c1 (s_kd (x_sqs (i := q) (by omega))) (Nat.le_of_ble_eq_true rfl) q134 (s_n0 (x_sqs (i := q) (by omega))) rfl rfl d_X1_begin_2 (fun μ1 eμ1 => ?_)
  have hb0 : μ1 (33 + 2 * q) 0 = b := by rw [eμ1, upd2_at, upd_s]
  have hF2 : ∀ id, (id < 33 + 2 * q ∨ 33 + 2 * q + 1 < id) → μ1 id = μ id := fun id hid => (show μ1 id = μ id from (by rw [eμ1, upd2_ne _ _ _ (by omega)])).trans (hF id hid)
  refine x_aload_n 0 d_X1_begin_5 rfl rfl ?_
  refine x_iload_n 2 d_X1_begin_6 rfl rfl ?_
  refine x_putiG (j := 1) x_c1 (s_kd (x_sqs (i := q) (by omega))) (Nat.le_of_ble_eq_true rfl) q136 (s_n1 (x_sqs (i := q) (by omega))) rfl rfl d_X1_begin_7 (fun μ3 eμ3 => ?_)
  have hb1 : μ3 (33 + 2 * q) 0 = b := by rw [eμ3, upd2_at, upd_n _ _ (by decide)]; exact hb0
  have hz1 : μ3 (33 + 2 * q) 1 = nI z := by rw [eμ3, upd2_at, upd_s]
  have hF4 : ∀ id, (id < 33 + 2 * q ∨ 33 + 2 * q + 1 < id) → μ3 id = μ id := fun id hid => (show μ3 id = μ1 id from (by rw [eμ3, upd2_ne _ _ _ (by omega)])).trans (hF2 id hid)
  refine x_aload_n 0 d_X1_begin_10 rfl rfl ?_
  refine x_getr (j := 2) ((33 + 2 * q) + 1) x_c1 (s_kd (x_sqs (i := q) (by omega))) (Nat.le_of_ble_eq_true rfl) q138 (s_f2 (x_sqs (i := q) (by omega))) d_X1_begin_11 ?_
  refine x_iconst (x := 0) d_X1_begin_14 (by decide) ?_
  refine x_csv (as := [.ref (E.1 + ((33 + 2 * q) + 1)), .int 0]) (c_J_fill l E μ3 (k := ((33 + 2 * q) + 1)) (n := 40) (v := 0) (s_k1 (x_sqs (i := q) (by omega))) (s_l1 (x_sqs (i := q) (by omega))) (by decide)) v_J_fill q29 q612 rfl ⟨Nat.le_of_ble_eq_true rfl, Nat.le_of_ble_eq_true rfl⟩ rfl (Nat.le_of_ble_eq_true rfl) d_X1_begin_15 ?_
  rintro μ5 ⟨hfa, hff⟩
  have hF6 : ∀ id, (id < 33 + 2 * q ∨ 33 + 2 * q + 1 < id) → μ5 id = μ id := fun id hid => (show μ5 id = μ3 id from (hff _ (by omega))).trans (hF4 id hid)
  refine x_vret rfl d_X1_begin_18 ?_
  exact ⟨by rw [hff _ (by omega)]; exact hb1, by rw [hff _ (by omega)]; exact hz1, hfa, hF6⟩
def m_X3_sheet : x_M := (yX3_sheet, prog_1_method_46_code, 5, (some FieldType.int), 2, 45)
theorem v_X3_sheet : x_VM m_X3_sheet 3 := ⟨q606, q1, by decide +kernel, by decide +kernel, by decide +kernel⟩
theorem w_X3_sheet : x_VI m_X3_sheet := ⟨q604, q605⟩
theorem d_X3_sheet_0 : x_dec m_X3_sheet 0 (.aload_n 0) 1 1 := ⟨by decide +kernel, rfl⟩
theorem d_X3_sheet_1 : x_dec m_X3_sheet 1 (.iload_n 1) 1 2 := ⟨by decide +kernel, rfl⟩
theorem d_X3_sheet_2 : x_dec m_X3_sheet 2 (.invokevirtual 180) 3 5 := ⟨by decide +kernel, rfl⟩
theorem d_X3_sheet_5 : x_dec m_X3_sheet 5 (.astore 4) 2 7 := ⟨by decide +kernel, rfl⟩
theorem d_X3_sheet_7 : x_dec m_X3_sheet 7 (.aload 4) 2 9 := ⟨by decide +kernel, rfl⟩
theorem d_X3_sheet_9 : x_dec m_X3_sheet 9 (.ifnull 25) 3 12 := ⟨by decide +kernel, rfl⟩
theorem d_X3_sheet_12 : x_dec m_X3_sheet 12 (.iload_n 2) 1 13 := ⟨by decide +kernel, rfl⟩
theorem d_X3_sheet_13 : x_dec m_X3_sheet 13 (.ifCond .eq 28) 3 16 := ⟨by decide +kernel, rfl⟩
theorem d_X3_sheet_16 : x_dec m_X3_sheet 16 (.iload_n 2) 1 17 := ⟨by decide +kernel, rfl⟩
theorem d_X3_sheet_17 : x_dec m_X3_sheet 17 (.bipush 8) 2 19 := ⟨by decide +kernel, rfl⟩
theorem d_X3_sheet_19 : x_dec m_X3_sheet 19 (.if_icmp .eq 22) 3 22 := ⟨by decide +kernel, rfl⟩
theorem d_X3_sheet_22 : x_dec m_X3_sheet 22 (.iload_n 2) 1 23 := ⟨by decide +kernel, rfl⟩
theorem d_X3_sheet_23 : x_dec m_X3_sheet 23 (.bipush 16) 2 25 := ⟨by decide +kernel, rfl⟩
theorem d_X3_sheet_25 : x_dec m_X3_sheet 25 (.if_icmp .eq 16) 3 28 := ⟨by decide +kernel, rfl⟩
theorem d_X3_sheet_28 : x_dec m_X3_sheet 28 (.iload_n 2) 1 29 := ⟨by decide +kernel, rfl⟩
theorem d_X3_sheet_29 : x_dec m_X3_sheet 29 (.bipush 32) 2 31 := ⟨by decide +kernel, rfl⟩
theorem d_X3_sheet_31 : x_dec m_X3_sheet 31 (.if_icmp .eq 10) 3 34 := ⟨by decide +kernel, rfl⟩
theorem d_X3_sheet_34 : x_dec m_X3_sheet 34 (.aload_n 0) 1 35 := ⟨by decide +kernel, rfl⟩
theorem d_X3_sheet_35 : x_dec m_X3_sheet 35 (.ldc 55) 2 37 := ⟨by decide +kernel, rfl⟩
theorem d_X3_sheet_37 : x_dec m_X3_sheet 37 (.invokevirtual 56) 3 40 := ⟨by decide +kernel, rfl⟩
theorem d_X3_sheet_40 : x_dec m_X3_sheet 40 (.ireturn) 1 41 := ⟨by decide +kernel, rfl⟩
theorem d_X3_sheet_41 : x_dec m_X3_sheet 41 (.iload_n 3) 1 42 := ⟨by decide +kernel, rfl⟩
theorem d_X3_sheet_42 : x_dec m_X3_sheet 42 (.ifCond .ge 10) 3 45 := ⟨by decide +kernel, rfl⟩
theorem d_X3_sheet_45 : x_dec m_X3_sheet 45 (.aload_n 0) 1 46 := ⟨by decide +kernel, rfl⟩
theorem d_X3_sheet_46 : x_dec m_X3_sheet 46 (.ldc 240) 2 48 := ⟨by decide +kernel, rfl⟩
theorem d_X3_sheet_48 : x_dec m_X3_sheet 48 (.invokevirtual 56) 3 51 := ⟨by decide +kernel, rfl⟩
theorem d_X3_sheet_51 : x_dec m_X3_sheet 51 (.ireturn) 1 52 := ⟨by decide +kernel, rfl⟩
theorem d_X3_sheet_52 : x_dec m_X3_sheet 52 (.iload_n 3) 1 53 := ⟨by decide +kernel, rfl⟩
theorem d_X3_sheet_53 : x_dec m_X3_sheet 53 (.bipush 40) 2 55 := ⟨by decide +kernel, rfl⟩
theorem d_X3_sheet_55 : x_dec m_X3_sheet 55 (.if_icmp .le 10) 3 58 := ⟨by decide +kernel, rfl⟩
theorem d_X3_sheet_58 : x_dec m_X3_sheet 58 (.aload_n 0) 1 59 := ⟨by decide +kernel, rfl⟩
theorem d_X3_sheet_59 : x_dec m_X3_sheet 59 (.ldc 55) 2 61 := ⟨by decide +kernel, rfl⟩
theorem d_X3_sheet_61 : x_dec m_X3_sheet 61 (.invokevirtual 56) 3 64 := ⟨by decide +kernel, rfl⟩
theorem d_X3_sheet_64 : x_dec m_X3_sheet 64 (.ireturn) 1 65 := ⟨by decide +kernel, rfl⟩
theorem d_X3_sheet_65 : x_dec m_X3_sheet 65 (.aload 4) 2 67 := ⟨by decide +kernel, rfl⟩
theorem d_X3_sheet_67 : x_dec m_X3_sheet 67 (.iload_n 2) 1 68 := ⟨by decide +kernel, rfl⟩
theorem d_X3_sheet_68 : x_dec m_X3_sheet 68 (.iload_n 2) 1 69 := ⟨by decide +kernel, rfl⟩
theorem d_X3_sheet_69 : x_dec m_X3_sheet 69 (.ifCond .ne 7) 3 72 := ⟨by decide +kernel, rfl⟩
theorem d_X3_sheet_72 : x_dec m_X3_sheet 72 (.iconst 0) 1 73 := ⟨by decide +kernel, rfl⟩
theorem d_X3_sheet_73 : x_dec m_X3_sheet 73 (.goto 4) 3 76 := ⟨by decide +kernel, rfl⟩
theorem d_X3_sheet_76 : x_dec m_X3_sheet 76 (.iload_n 3) 1 77 := ⟨by decide +kernel, rfl⟩
theorem d_X3_sheet_77 : x_dec m_X3_sheet 77 (.invokevirtual 241) 3 80 := ⟨by decide +kernel, rfl⟩
theorem d_X3_sheet_80 : x_dec m_X3_sheet 80 (.aload 4) 2 82 := ⟨by decide +kernel, rfl⟩
theorem d_X3_sheet_82 : x_dec m_X3_sheet 82 (.getfield 192) 3 85 := ⟨by decide +kernel, rfl⟩
theorem d_X3_sheet_85 : x_dec m_X3_sheet 85 (.ireturn) 1 86 := ⟨by decide +kernel, rfl⟩
set_option maxHeartbeats 4000000 in
set_option maxRecDepth 100000 in
theorem c_X3_sheet (l : Launch) (E : x_E) (μ : x_Mem) (g : x_SG) (hS : XS g μ) (hI : Inv g) (s b n : Int32) : x_Met l m_X3_sheet E [.ref (E.1 + 0), .int s, .int b, .int n] μ (x_I (fun z m => z = (F_sheet g s b n).1 ∧ XS (F_sheet g s b n).2 m ∧ ∀ id, 41 ≤ id → m id = μ id)) := by
  obtain ⟨hL, hH, hX, hD⟩ := hS
  have hWF := hI.1.1
  have hn7 := hWF.2.1
  have hpn := hWF.1
  have hF : ∀ id, 41 ≤ id → μ id = μ id := fun _ _ => rfl
  refine x_enter (lv := [(0, .ref (E.1 + 0)), (1, .int s), (2, .int b), (3, .int n)]) (by decide +kernel) (Nat.le_of_ble_eq_true rfl) rfl ?_
  refine x_aload_n 0 d_X3_sheet_0 rfl rfl ?_
  refine x_iload_n 1 d_X3_sheet_1 rfl rfl ?_
  refine x_cv (k := 0) (as := [.int s]) (c_X3_sheetAt l E μ s) v_X3_sheetAt w_X3_sheetAt q410 o_X rfl ⟨Nat.le_of_ble_eq_true rfl, Nat.le_of_ble_eq_true rfl⟩ rfl (Nat.le_of_ble_eq_true rfl) d_X3_sheet_2 ?_
  rintro r2 μ1 ⟨hm9, ⟨ks3, rfl⟩ | ⟨ks3, rfl⟩⟩ <;> replace hm9 := hm9.symm <;> subst hm9
  · obtain ⟨y, hy, rfl⟩ := inR_nat (n := 3) (by decide) ks3
    rw [nI_clamp (by omega)]
    have hz_y := hI.2.2.2.2.1 y (by omega)
    refine x_eqst (st' := [.ref (E.1 + (33 + 2 * y))]) rfl ?_
    refine x_astore [(4, .ref (E.1 + (33 + 2 * y))), (0, .ref (E.1 + 0)), (1, .int (nI y)), (2, .int b), (3, .int n)] d_X3_sheet_5 (Nat.le_of_ble_eq_true rfl) rfl ?_
    refine x_aload 0 d_X3_sheet_7 rfl ?_
    refine x_ifnull d_X3_sheet_9 ?_
    refine x_iload_n 3 d_X3_sheet_12 rfl rfl ?_
    refine x_if_eq 41 d_X3_sheet_13 (by decide) (fun c4 => ?_) (fun c4 => ?_)
    · skip
      refine x_iload_n 4 d_X3_sheet_41 rfl rfl ?_
      refine x_if_ge 52 d_X3_sheet_42 (by decide) (fun c5 => ?_) (fun c5 => ?_)
      · skip
        refine x_iload_n 4 d_X3_sheet_52 rfl rfl ?_
        refine x_bipush (x := 40) d_X3_sheet_53 (by decide) ?_
        refine x_icmp_le 65 d_X3_sheet_55 (by decide) (fun c6 => ?_) (fun c6 => ?_)
        · skip
          obtain ⟨m, hm0, rfl⟩ := nI_of (Int32.not_lt.mpr c5)
          have hm := (nI_leI (a := m) (b := 40) hm0 (by decide)).mp c6
          refine x_aload 0 d_X3_sheet_65 rfl ?_
          refine x_iload_n 3 d_X3_sheet_67 rfl rfl ?_
          refine x_iload_n 3 d_X3_sheet_68 rfl rfl ?_
          refine x_if_ne 76 d_X3_sheet_69 (by decide) (fun c7 => ?_) (fun c7 => ?_)
          · skip
            exact absurd c4 c7
          · skip
            refine x_iconst (x := 0) d_X3_sheet_72 (by decide) ?_
            refine x_goto 77 d_X3_sheet_73 (by decide) ?_
            refine x_cvv (k := (33 + 2 * y)) (as := [.int b, .int 0]) (c_X1_begin l E μ (q := y) (by omega) b 0) v_X1_begin w_X1_begin q608 (s_ob (x_sqs (i := y) (by omega))) rfl ⟨Nat.le_of_ble_eq_true rfl, Nat.le_of_ble_eq_true rfl⟩ rfl (Nat.le_of_ble_eq_true rfl) d_X3_sheet_77 ?_
            rintro μ8 ⟨hp1, hp2, hp3, hp4⟩
            have hX9 : XR (sS g (upd (gSb g) y b) (upn (gSz g) y 0) (upr (gSn g) y (fun _ => 0))) μ8 := XR.sheet hX hp1 hp2 hp3 hp4
            have hL10 := PR.cg hL (μ' := μ8) (fun id hid => (hp4 _ (by omega)))
            have hLH11 := hH
            rw [← (show μ8 1 = μ 1 from (hp4 _ (by omega)))] at hLH11
            have hD12 := XD.cg hD (μ' := μ8) (fun id hid => (hp4 _ (by omega)))
            have hF13 : ∀ id, 41 ≤ id → μ8 id = μ id := fun id hid => (show μ8 id = μ id from (hp4 _ (by omega))).trans (hF id hid)
            refine x_aload 0 d_X3_sheet_80 rfl ?_
            refine x_getiV (j := 1) (z := nI 0) x_c1 (s_kd (x_sqs (i := y) (by omega))) (Nat.le_of_ble_eq_true rfl) q137 (s_n1 (x_sqs (i := y) (by omega))) hp2 d_X3_sheet_82 ?_
            refine x_iret rfl d_X3_sheet_85 ?_
            have e9 : F_sheet g (nI y) b (nI m) = (nI 0, sS g (upd (gSb g) y b) (upn (gSz g) y 0) (upr (gSn g) y (fun _ => 0))) := by simp [F_sheet, x_b_f, x_b_t, ks3, c4, c7, nI_clamp (n := y) (by omega), nI_clamp (n := m) (by omega), show ¬ (nI m) < 0 from Int32.not_lt.mpr c5, show ¬ 40 < nI m from Int32.not_lt.mpr c6] <;> rfl
            rw [e9]
            exact ⟨rfl, ⟨hL10, hLH11, hX9, hD12⟩, hF13⟩
        · skip
          refine x_aload_n 1 d_X3_sheet_58 rfl rfl ?_
          refine x_ldc q182 d_X3_sheet_59 ?_
          refine x_cvi (k := 0) (as := [.int (-1000001)]) (c_X3_finding l E μ (i := 0) hD (by decide) (w := (-1000001)) (by decide)) v_X3_finding w_X3_finding q183 o_X rfl ⟨Nat.le_of_ble_eq_true rfl, Nat.le_of_ble_eq_true rfl⟩ rfl (Nat.le_of_ble_eq_true rfl) d_X3_sheet_61 ?_
          rintro _ μ14 ⟨rfl, hD15, hF16⟩
          have hL17 := PR.cg hL (μ' := μ14) (fun id hid => (hF16 _ (by omega)))
          have hLH18 := hH
          rw [← (show μ14 1 = μ 1 from (hF16 _ (by omega)))] at hLH18
          have hX19 := XR.cg hX (μ' := μ14) (fun id hid => (hF16 _ (by omega)))
          have hF20 : ∀ id, 41 ≤ id → μ14 id = μ id := fun id hid => (show μ14 id = μ id from (hF16 _ (by omega))).trans (hF id hid)
          refine x_iret rfl d_X3_sheet_64 ?_
          have e9 : F_sheet g (nI y) b n = fin g 0 := by simp [F_sheet, x_b_f, x_b_t, ks3, c4, nI_clamp (n := y) (by omega), show ¬ n < 0 from Int32.not_lt.mpr c5, show 40 < n from Int32.not_le.mp c6]
          rw [e9]
          exact ⟨rfl, XS.fin hL17 hLH18 hX19 hD15, hF20⟩
      · skip
        refine x_aload_n 1 d_X3_sheet_45 rfl rfl ?_
        refine x_ldc q607 d_X3_sheet_46 ?_
        refine x_cvi (k := 0) (as := [.int (-1000007)]) (c_X3_finding l E μ (i := 6) hD (by decide) (w := (-1000007)) (by decide)) v_X3_finding w_X3_finding q183 o_X rfl ⟨Nat.le_of_ble_eq_true rfl, Nat.le_of_ble_eq_true rfl⟩ rfl (Nat.le_of_ble_eq_true rfl) d_X3_sheet_48 ?_
        rintro _ μ21 ⟨rfl, hD22, hF23⟩
        have hL24 := PR.cg hL (μ' := μ21) (fun id hid => (hF23 _ (by omega)))
        have hLH25 := hH
        rw [← (show μ21 1 = μ 1 from (hF23 _ (by omega)))] at hLH25
        have hX26 := XR.cg hX (μ' := μ21) (fun id hid => (hF23 _ (by omega)))
        have hF27 : ∀ id, 41 ≤ id → μ21 id = μ id := fun id hid => (show μ21 id = μ id from (hF23 _ (by omega))).trans (hF id hid)
        refine x_iret rfl d_X3_sheet_51 ?_
        have e9 : F_sheet g (nI y) b n = fin g 6 := by simp [F_sheet, x_b_f, x_b_t, ks3, c4, nI_clamp (n := y) (by omega), show n < 0 from Int32.not_le.mp c5]
        rw [e9]
        exact ⟨rfl, XS.fin hL24 hLH25 hX26 hD22, hF27⟩
    · skip
      refine x_iload_n 3 d_X3_sheet_16 rfl rfl ?_
      refine x_bipush (x := 8) d_X3_sheet_17 (by decide) ?_
      refine x_icmp_eq 41 d_X3_sheet_19 (by decide) (fun c28 => ?_) (fun c28 => ?_)
      · skip
        refine x_iload_n 4 d_X3_sheet_41 rfl rfl ?_
        refine x_if_ge 52 d_X3_sheet_42 (by decide) (fun c29 => ?_) (fun c29 => ?_)
        · skip
          refine x_iload_n 4 d_X3_sheet_52 rfl rfl ?_
          refine x_bipush (x := 40) d_X3_sheet_53 (by decide) ?_
          refine x_icmp_le 65 d_X3_sheet_55 (by decide) (fun c30 => ?_) (fun c30 => ?_)
          · skip
            obtain ⟨m, hm0, rfl⟩ := nI_of (Int32.not_lt.mpr c29)
            have hm := (nI_leI (a := m) (b := 40) hm0 (by decide)).mp c30
            refine x_aload 0 d_X3_sheet_65 rfl ?_
            refine x_iload_n 3 d_X3_sheet_67 rfl rfl ?_
            refine x_iload_n 3 d_X3_sheet_68 rfl rfl ?_
            refine x_if_ne 76 d_X3_sheet_69 (by decide) (fun c31 => ?_) (fun c31 => ?_)
            · skip
              refine x_iload_n 4 d_X3_sheet_76 rfl rfl ?_
              refine x_cvv (k := (33 + 2 * y)) (as := [.int b, .int (nI m)]) (c_X1_begin l E μ (q := y) (by omega) b m) v_X1_begin w_X1_begin q608 (s_ob (x_sqs (i := y) (by omega))) rfl ⟨Nat.le_of_ble_eq_true rfl, Nat.le_of_ble_eq_true rfl⟩ rfl (Nat.le_of_ble_eq_true rfl) d_X3_sheet_77 ?_
              rintro μ32 ⟨hp1, hp2, hp3, hp4⟩
              have hX33 : XR (sS g (upd (gSb g) y b) (upn (gSz g) y m) (upr (gSn g) y (fun _ => 0))) μ32 := XR.sheet hX hp1 hp2 hp3 hp4
              have hL34 := PR.cg hL (μ' := μ32) (fun id hid => (hp4 _ (by omega)))
              have hLH35 := hH
              rw [← (show μ32 1 = μ 1 from (hp4 _ (by omega)))] at hLH35
              have hD36 := XD.cg hD (μ' := μ32) (fun id hid => (hp4 _ (by omega)))
              have hF37 : ∀ id, 41 ≤ id → μ32 id = μ id := fun id hid => (show μ32 id = μ id from (hp4 _ (by omega))).trans (hF id hid)
              refine x_aload 0 d_X3_sheet_80 rfl ?_
              refine x_getiV (j := 1) (z := nI m) x_c1 (s_kd (x_sqs (i := y) (by omega))) (Nat.le_of_ble_eq_true rfl) q137 (s_n1 (x_sqs (i := y) (by omega))) hp2 d_X3_sheet_82 ?_
              refine x_iret rfl d_X3_sheet_85 ?_
              have e9 : F_sheet g (nI y) b (nI m) = (nI m, sS g (upd (gSb g) y b) (upn (gSz g) y m) (upr (gSn g) y (fun _ => 0))) := by simp [F_sheet, x_b_f, x_b_t, ks3, c4, c28, c31, nI_clamp (n := y) (by omega), nI_clamp (n := m) (by omega), show ¬ (nI m) < 0 from Int32.not_lt.mpr c29, show ¬ 40 < nI m from Int32.not_lt.mpr c30]
              rw [e9]
              exact ⟨rfl, ⟨hL34, hLH35, hX33, hD36⟩, hF37⟩
            · skip
              exact absurd (c28.symm.trans c31) (by decide)
          · skip
            refine x_aload_n 1 d_X3_sheet_58 rfl rfl ?_
            refine x_ldc q182 d_X3_sheet_59 ?_
            refine x_cvi (k := 0) (as := [.int (-1000001)]) (c_X3_finding l E μ (i := 0) hD (by decide) (w := (-1000001)) (by decide)) v_X3_finding w_X3_finding q183 o_X rfl ⟨Nat.le_of_ble_eq_true rfl, Nat.le_of_ble_eq_true rfl⟩ rfl (Nat.le_of_ble_eq_true rfl) d_X3_sheet_61 ?_
            rintro _ μ38 ⟨rfl, hD39, hF40⟩
            have hL41 := PR.cg hL (μ' := μ38) (fun id hid => (hF40 _ (by omega)))
            have hLH42 := hH
            rw [← (show μ38 1 = μ 1 from (hF40 _ (by omega)))] at hLH42
            have hX43 := XR.cg hX (μ' := μ38) (fun id hid => (hF40 _ (by omega)))
            have hF44 : ∀ id, 41 ≤ id → μ38 id = μ id := fun id hid => (show μ38 id = μ id from (hF40 _ (by omega))).trans (hF id hid)
            refine x_iret rfl d_X3_sheet_64 ?_
            have e9 : F_sheet g (nI y) b n = fin g 0 := by simp [F_sheet, x_b_f, x_b_t, ks3, c4, c28, nI_clamp (n := y) (by omega), show ¬ n < 0 from Int32.not_lt.mpr c29, show 40 < n from Int32.not_le.mp c30]
            rw [e9]
            exact ⟨rfl, XS.fin hL41 hLH42 hX43 hD39, hF44⟩
        · skip
          refine x_aload_n 1 d_X3_sheet_45 rfl rfl ?_
          refine x_ldc q607 d_X3_sheet_46 ?_
          refine x_cvi (k := 0) (as := [.int (-1000007)]) (c_X3_finding l E μ (i := 6) hD (by decide) (w := (-1000007)) (by decide)) v_X3_finding w_X3_finding q183 o_X rfl ⟨Nat.le_of_ble_eq_true rfl, Nat.le_of_ble_eq_true rfl⟩ rfl (Nat.le_of_ble_eq_true rfl) d_X3_sheet_48 ?_
          rintro _ μ45 ⟨rfl, hD46, hF47⟩
          have hL48 := PR.cg hL (μ' := μ45) (fun id hid => (hF47 _ (by omega)))
          have hLH49 := hH
          rw [← (show μ45 1 = μ 1 from (hF47 _ (by omega)))] at hLH49
          have hX50 := XR.cg hX (μ' := μ45) (fun id hid => (hF47 _ (by omega)))
          have hF51 : ∀ id, 41 ≤ id → μ45 id = μ id := fun id hid => (show μ45 id = μ id from (hF47 _ (by omega))).trans (hF id hid)
          refine x_iret rfl d_X3_sheet_51 ?_
          have e9 : F_sheet g (nI y) b n = fin g 6 := by simp [F_sheet, x_b_f, x_b_t, ks3, c4, c28, nI_clamp (n := y) (by omega), show n < 0 from Int32.not_le.mp c29]
          rw [e9]
          exact ⟨rfl, XS.fin hL48 hLH49 hX50 hD46, hF51⟩
      · skip
        refine x_iload_n 3 d_X3_sheet_22 rfl rfl ?_
        refine x_bipush (x := 16) d_X3_sheet_23 (by decide) ?_
        refine x_icmp_eq 41 d_X3_sheet_25 (by decide) (fun c52 => ?_) (fun c52 => ?_)
        · skip
          refine x_iload_n 4 d_X3_sheet_41 rfl rfl ?_
          refine x_if_ge 52 d_X3_sheet_42 (by decide) (fun c53 => ?_) (fun c53 => ?_)
          · skip
            refine x_iload_n 4 d_X3_sheet_52 rfl rfl ?_
            refine x_bipush (x := 40) d_X3_sheet_53 (by decide) ?_
            refine x_icmp_le 65 d_X3_sheet_55 (by decide) (fun c54 => ?_) (fun c54 => ?_)
            · skip
              obtain ⟨m, hm0, rfl⟩ := nI_of (Int32.not_lt.mpr c53)
              have hm := (nI_leI (a := m) (b := 40) hm0 (by decide)).mp c54
              refine x_aload 0 d_X3_sheet_65 rfl ?_
              refine x_iload_n 3 d_X3_sheet_67 rfl rfl ?_
              refine x_iload_n 3 d_X3_sheet_68 rfl rfl ?_
              refine x_if_ne 76 d_X3_sheet_69 (by decide) (fun c55 => ?_) (fun c55 => ?_)
              · skip
                refine x_iload_n 4 d_X3_sheet_76 rfl rfl ?_
                refine x_cvv (k := (33 + 2 * y)) (as := [.int b, .int (nI m)]) (c_X1_begin l E μ (q := y) (by omega) b m) v_X1_begin w_X1_begin q608 (s_ob (x_sqs (i := y) (by omega))) rfl ⟨Nat.le_of_ble_eq_true rfl, Nat.le_of_ble_eq_true rfl⟩ rfl (Nat.le_of_ble_eq_true rfl) d_X3_sheet_77 ?_
                rintro μ56 ⟨hp1, hp2, hp3, hp4⟩
                have hX57 : XR (sS g (upd (gSb g) y b) (upn (gSz g) y m) (upr (gSn g) y (fun _ => 0))) μ56 := XR.sheet hX hp1 hp2 hp3 hp4
                have hL58 := PR.cg hL (μ' := μ56) (fun id hid => (hp4 _ (by omega)))
                have hLH59 := hH
                rw [← (show μ56 1 = μ 1 from (hp4 _ (by omega)))] at hLH59
                have hD60 := XD.cg hD (μ' := μ56) (fun id hid => (hp4 _ (by omega)))
                have hF61 : ∀ id, 41 ≤ id → μ56 id = μ id := fun id hid => (show μ56 id = μ id from (hp4 _ (by omega))).trans (hF id hid)
                refine x_aload 0 d_X3_sheet_80 rfl ?_
                refine x_getiV (j := 1) (z := nI m) x_c1 (s_kd (x_sqs (i := y) (by omega))) (Nat.le_of_ble_eq_true rfl) q137 (s_n1 (x_sqs (i := y) (by omega))) hp2 d_X3_sheet_82 ?_
                refine x_iret rfl d_X3_sheet_85 ?_
                have e9 : F_sheet g (nI y) b (nI m) = (nI m, sS g (upd (gSb g) y b) (upn (gSz g) y m) (upr (gSn g) y (fun _ => 0))) := by simp [F_sheet, x_b_f, x_b_t, ks3, c4, c28, c52, c55, nI_clamp (n := y) (by omega), nI_clamp (n := m) (by omega), show ¬ (nI m) < 0 from Int32.not_lt.mpr c53, show ¬ 40 < nI m from Int32.not_lt.mpr c54]
                rw [e9]
                exact ⟨rfl, ⟨hL58, hLH59, hX57, hD60⟩, hF61⟩
              · skip
                exact absurd (c52.symm.trans c55) (by decide)
            · skip
              refine x_aload_n 1 d_X3_sheet_58 rfl rfl ?_
              refine x_ldc q182 d_X3_sheet_59 ?_
              refine x_cvi (k := 0) (as := [.int (-1000001)]) (c_X3_finding l E μ (i := 0) hD (by decide) (w := (-1000001)) (by decide)) v_X3_finding w_X3_finding q183 o_X rfl ⟨Nat.le_of_ble_eq_true rfl, Nat.le_of_ble_eq_true rfl⟩ rfl (Nat.le_of_ble_eq_true rfl) d_X3_sheet_61 ?_
              rintro _ μ62 ⟨rfl, hD63, hF64⟩
              have hL65 := PR.cg hL (μ' := μ62) (fun id hid => (hF64 _ (by omega)))
              have hLH66 := hH
              rw [← (show μ62 1 = μ 1 from (hF64 _ (by omega)))] at hLH66
              have hX67 := XR.cg hX (μ' := μ62) (fun id hid => (hF64 _ (by omega)))
              have hF68 : ∀ id, 41 ≤ id → μ62 id = μ id := fun id hid => (show μ62 id = μ id from (hF64 _ (by omega))).trans (hF id hid)
              refine x_iret rfl d_X3_sheet_64 ?_
              have e9 : F_sheet g (nI y) b n = fin g 0 := by simp [F_sheet, x_b_f, x_b_t, ks3, c4, c28, c52, nI_clamp (n := y) (by omega), show ¬ n < 0 from Int32.not_lt.mpr c53, show 40 < n from Int32.not_le.mp c54]
              rw [e9]
              exact ⟨rfl, XS.fin hL65 hLH66 hX67 hD63, hF68⟩
          · skip
            refine x_aload_n 1 d_X3_sheet_45 rfl rfl ?_
            refine x_ldc q607 d_X3_sheet_46 ?_
            refine x_cvi (k := 0) (as := [.int (-1000007)]) (c_X3_finding l E μ (i := 6) hD (by decide) (w := (-1000007)) (by decide)) v_X3_finding w_X3_finding q183 o_X rfl ⟨Nat.le_of_ble_eq_true rfl, Nat.le_of_ble_eq_true rfl⟩ rfl (Nat.le_of_ble_eq_true rfl) d_X3_sheet_48 ?_
            rintro _ μ69 ⟨rfl, hD70, hF71⟩
            have hL72 := PR.cg hL (μ' := μ69) (fun id hid => (hF71 _ (by omega)))
            have hLH73 := hH
            rw [← (show μ69 1 = μ 1 from (hF71 _ (by omega)))] at hLH73
            have hX74 := XR.cg hX (μ' := μ69) (fun id hid => (hF71 _ (by omega)))
            have hF75 : ∀ id, 41 ≤ id → μ69 id = μ id := fun id hid => (show μ69 id = μ id from (hF71 _ (by omega))).trans (hF id hid)
            refine x_iret rfl d_X3_sheet_51 ?_
            have e9 : F_sheet g (nI y) b n = fin g 6 := by simp [F_sheet, x_b_f, x_b_t, ks3, c4, c28, c52, nI_clamp (n := y) (by omega), show n < 0 from Int32.not_le.mp c53]
            rw [e9]
            exact ⟨rfl, XS.fin hL72 hLH73 hX74 hD70, hF75⟩
        · skip
          refine x_iload_n 3 d_X3_sheet_28 rfl rfl ?_
          refine x_bipush (x := 32) d_X3_sheet_29 (by decide) ?_
          refine x_icmp_eq 41 d_X3_sheet_31 (by decide) (fun c76 => ?_) (fun c76 => ?_)
          · skip
            refine x_iload_n 4 d_X3_sheet_41 rfl rfl ?_
            refine x_if_ge 52 d_X3_sheet_42 (by decide) (fun c77 => ?_) (fun c77 => ?_)
            · skip
              refine x_iload_n 4 d_X3_sheet_52 rfl rfl ?_
              refine x_bipush (x := 40) d_X3_sheet_53 (by decide) ?_
              refine x_icmp_le 65 d_X3_sheet_55 (by decide) (fun c78 => ?_) (fun c78 => ?_)
              · skip
                obtain ⟨m, hm0, rfl⟩ := nI_of (Int32.not_lt.mpr c77)
                have hm := (nI_leI (a := m) (b := 40) hm0 (by decide)).mp c78
                refine x_aload 0 d_X3_sheet_65 rfl ?_
                refine x_iload_n 3 d_X3_sheet_67 rfl rfl ?_
                refine x_iload_n 3 d_X3_sheet_68 rfl rfl ?_
                refine x_if_ne 76 d_X3_sheet_69 (by decide) (fun c79 => ?_) (fun c79 => ?_)
                · skip
                  refine x_iload_n 4 d_X3_sheet_76 rfl rfl ?_
                  refine x_cvv (k := (33 + 2 * y)) (as := [.int b, .int (nI m)]) (c_X1_begin l E μ (q := y) (by omega) b m) v_X1_begin w_X1_begin q608 (s_ob (x_sqs (i := y) (by omega))) rfl ⟨Nat.le_of_ble_eq_true rfl, Nat.le_of_ble_eq_true rfl⟩ rfl (Nat.le_of_ble_eq_true rfl) d_X3_sheet_77 ?_
                  rintro μ80 ⟨hp1, hp2, hp3, hp4⟩
                  have hX81 : XR (sS g (upd (gSb g) y b) (upn (gSz g) y m) (upr (gSn g) y (fun _ => 0))) μ80 := XR.sheet hX hp1 hp2 hp3 hp4
                  have hL82 := PR.cg hL (μ' := μ80) (fun id hid => (hp4 _ (by omega)))
                  have hLH83 := hH
                  rw [← (show μ80 1 = μ 1 from (hp4 _ (by omega)))] at hLH83
                  have hD84 := XD.cg hD (μ' := μ80) (fun id hid => (hp4 _ (by omega)))
                  have hF85 : ∀ id, 41 ≤ id → μ80 id = μ id := fun id hid => (show μ80 id = μ id from (hp4 _ (by omega))).trans (hF id hid)
                  refine x_aload 0 d_X3_sheet_80 rfl ?_
                  refine x_getiV (j := 1) (z := nI m) x_c1 (s_kd (x_sqs (i := y) (by omega))) (Nat.le_of_ble_eq_true rfl) q137 (s_n1 (x_sqs (i := y) (by omega))) hp2 d_X3_sheet_82 ?_
                  refine x_iret rfl d_X3_sheet_85 ?_
                  have e9 : F_sheet g (nI y) b (nI m) = (nI m, sS g (upd (gSb g) y b) (upn (gSz g) y m) (upr (gSn g) y (fun _ => 0))) := by simp [F_sheet, x_b_f, x_b_t, ks3, c4, c28, c52, c76, c79, nI_clamp (n := y) (by omega), nI_clamp (n := m) (by omega), show ¬ (nI m) < 0 from Int32.not_lt.mpr c77, show ¬ 40 < nI m from Int32.not_lt.mpr c78]
                  rw [e9]
                  exact ⟨rfl, ⟨hL82, hLH83, hX81, hD84⟩, hF85⟩
                · skip
                  exact absurd (c76.symm.trans c79) (by decide)
              · skip
                refine x_aload_n 1 d_X3_sheet_58 rfl rfl ?_
                refine x_ldc q182 d_X3_sheet_59 ?_
                refine x_cvi (k := 0) (as := [.int (-1000001)]) (c_X3_finding l E μ (i := 0) hD (by decide) (w := (-1000001)) (by decide)) v_X3_finding w_X3_finding q183 o_X rfl ⟨Nat.le_of_ble_eq_true rfl, Nat.le_of_ble_eq_true rfl⟩ rfl (Nat.le_of_ble_eq_true rfl) d_X3_sheet_61 ?_
                rintro _ μ86 ⟨rfl, hD87, hF88⟩
                have hL89 := PR.cg hL (μ' := μ86) (fun id hid => (hF88 _ (by omega)))
                have hLH90 := hH
                rw [← (show μ86 1 = μ 1 from (hF88 _ (by omega)))] at hLH90
                have hX91 := XR.cg hX (μ' := μ86) (fun id hid => (hF88 _ (by omega)))
                have hF92 : ∀ id, 41 ≤ id → μ86 id = μ id := fun id hid => (show μ86 id = μ id from (hF88 _ (by omega))).trans (hF id hid)
                refine x_iret rfl d_X3_sheet_64 ?_
                have e9 : F_sheet g (nI y) b n = fin g 0 := by simp [F_sheet, x_b_f, x_b_t, ks3, c4, c28, c52, c76, nI_clamp (n := y) (by omega), show ¬ n < 0 from Int32.not_lt.mpr c77, show 40 < n from Int32.not_le.mp c78]
                rw [e9]
                exact ⟨rfl, XS.fin hL89 hLH90 hX91 hD87, hF92⟩
            · skip
              refine x_aload_n 1 d_X3_sheet_45 rfl rfl ?_
              refine x_ldc q607 d_X3_sheet_46 ?_
              refine x_cvi (k := 0) (as := [.int (-1000007)]) (c_X3_finding l E μ (i := 6) hD (by decide) (w := (-1000007)) (by decide)) v_X3_finding w_X3_finding q183 o_X rfl ⟨Nat.le_of_ble_eq_true rfl, Nat.le_of_ble_eq_true rfl⟩ rfl (Nat.le_of_ble_eq_true rfl) d_X3_sheet_48 ?_
              rintro _ μ93 ⟨rfl, hD94, hF95⟩
              have hL96 := PR.cg hL (μ' := μ93) (fun id hid => (hF95 _ (by omega)))
              have hLH97 := hH
              rw [← (show μ93 1 = μ 1 from (hF95 _ (by omega)))] at hLH97
              have hX98 := XR.cg hX (μ' := μ93) (fun id hid => (hF95 _ (by omega)))
              have hF99 : ∀ id, 41 ≤ id → μ93 id = μ id := fun id hid => (show μ93 id = μ id from (hF95 _ (by omega))).trans (hF id hid)
              refine x_iret rfl d_X3_sheet_51 ?_
              have e9 : F_sheet g (nI y) b n = fin g 6 := by simp [F_sheet, x_b_f, x_b_t, ks3, c4, c28, c52, c76, nI_clamp (n := y) (by omega), show n < 0 from Int32.not_le.mp c77]
              rw [e9]
              exact ⟨rfl, XS.fin hL96 hLH97 hX98 hD94, hF99⟩
          · skip
            refine x_aload_n 1 d_X3_sheet_34 rfl rfl ?_
            refine x_ldc q182 d_X3_sheet_35 ?_
            refine x_cvi (k := 0) (as := [.int (-1000001)]) (c_X3_finding l E μ (i := 0) hD (by decide) (w := (-1000001)) (by decide)) v_X3_finding w_X3_finding q183 o_X rfl ⟨Nat.le_of_ble_eq_true rfl, Nat.le_of_ble_eq_true rfl⟩ rfl (Nat.le_of_ble_eq_true rfl) d_X3_sheet_37 ?_
            rintro _ μ100 ⟨rfl, hD101, hF102⟩
            have hL103 := PR.cg hL (μ' := μ100) (fun id hid => (hF102 _ (by omega)))
            have hLH104 := hH
            rw [← (show μ100 1 = μ 1 from (hF102 _ (by omega)))] at hLH104
            have hX105 := XR.cg hX (μ' := μ100) (fun id hid => (hF102 _ (by omega)))
            have hF106 : ∀ id, 41 ≤ id → μ100 id = μ id := fun id hid => (show μ100 id = μ id from (hF102 _ (by omega))).trans (hF id hid)
            refine x_iret rfl d_X3_sheet_40 ?_
            have e9 : F_sheet g (nI y) b n = fin g 0 := by simp [F_sheet, x_b_f, x_b_t, ks3, c4, c28, c52, c76, nI_clamp (n := y) (by omega)]
            rw [e9]
            exact ⟨rfl, XS.fin hL103 hLH104 hX105 hD101, hF106⟩
  · skip
    refine x_eqst (st' := [.null]) rfl ?_
    refine x_astoreN [(4, .null), (0, .ref (E.1 + 0)), (1, .int s), (2, .int b), (3, .int n)] d_X3_sheet_5 (Nat.le_of_ble_eq_true rfl) rfl ?_
    refine x_aloadN 0 d_X3_sheet_7 rfl ?_
    refine x_ifnullN 34 d_X3_sheet_9 (by decide) ?_
    refine x_aload_n 1 d_X3_sheet_34 rfl rfl ?_
    refine x_ldc q182 d_X3_sheet_35 ?_
    refine x_cvi (k := 0) (as := [.int (-1000001)]) (c_X3_finding l E μ (i := 0) hD (by decide) (w := (-1000001)) (by decide)) v_X3_finding w_X3_finding q183 o_X rfl ⟨Nat.le_of_ble_eq_true rfl, Nat.le_of_ble_eq_true rfl⟩ rfl (Nat.le_of_ble_eq_true rfl) d_X3_sheet_37 ?_
    rintro _ μ107 ⟨rfl, hD108, hF109⟩
    have hL110 := PR.cg hL (μ' := μ107) (fun id hid => (hF109 _ (by omega)))
    have hLH111 := hH
    rw [← (show μ107 1 = μ 1 from (hF109 _ (by omega)))] at hLH111
    have hX112 := XR.cg hX (μ' := μ107) (fun id hid => (hF109 _ (by omega)))
    have hF113 : ∀ id, 41 ≤ id → μ107 id = μ id := fun id hid => (show μ107 id = μ id from (hF109 _ (by omega))).trans (hF id hid)
    refine x_iret rfl d_X3_sheet_40 ?_
    have e9 : F_sheet g s b n = fin g 0 := by simp [F_sheet, x_b_f, x_b_t, ks3]
    rw [e9]
    exact ⟨rfl, XS.fin hL110 hLH111 hX112 hD108, hF113⟩
def m_X3_write : x_M := (yX3_write, prog_1_method_47_code, 5, (some FieldType.int), 1, 22)
theorem v_X3_write : x_VM m_X3_write 3 := ⟨q616, q1, by decide +kernel, by decide +kernel, by decide +kernel⟩
theorem w_X3_write : x_VI m_X3_write := ⟨q614, q615⟩
theorem d_X3_write_0 : x_dec m_X3_write 0 (.aload_n 0) 1 1 := ⟨by decide +kernel, rfl⟩
theorem d_X3_write_1 : x_dec m_X3_write 1 (.iload_n 1) 1 2 := ⟨by decide +kernel, rfl⟩
theorem d_X3_write_2 : x_dec m_X3_write 2 (.invokevirtual 180) 3 5 := ⟨by decide +kernel, rfl⟩
theorem d_X3_write_5 : x_dec m_X3_write 5 (.astore 4) 2 7 := ⟨by decide +kernel, rfl⟩
theorem d_X3_write_7 : x_dec m_X3_write 7 (.aload 4) 2 9 := ⟨by decide +kernel, rfl⟩
theorem d_X3_write_9 : x_dec m_X3_write 9 (.ifnonnull 10) 3 12 := ⟨by decide +kernel, rfl⟩
theorem d_X3_write_12 : x_dec m_X3_write 12 (.aload_n 0) 1 13 := ⟨by decide +kernel, rfl⟩
theorem d_X3_write_13 : x_dec m_X3_write 13 (.ldc 55) 2 15 := ⟨by decide +kernel, rfl⟩
theorem d_X3_write_15 : x_dec m_X3_write 15 (.invokevirtual 56) 3 18 := ⟨by decide +kernel, rfl⟩
theorem d_X3_write_18 : x_dec m_X3_write 18 (.ireturn) 1 19 := ⟨by decide +kernel, rfl⟩
theorem d_X3_write_19 : x_dec m_X3_write 19 (.aload 4) 2 21 := ⟨by decide +kernel, rfl⟩
theorem d_X3_write_21 : x_dec m_X3_write 21 (.getfield 184) 3 24 := ⟨by decide +kernel, rfl⟩
theorem d_X3_write_24 : x_dec m_X3_write 24 (.ifCond .ne 10) 3 27 := ⟨by decide +kernel, rfl⟩
theorem d_X3_write_27 : x_dec m_X3_write 27 (.aload_n 0) 1 28 := ⟨by decide +kernel, rfl⟩
theorem d_X3_write_28 : x_dec m_X3_write 28 (.ldc 187) 2 30 := ⟨by decide +kernel, rfl⟩
theorem d_X3_write_30 : x_dec m_X3_write 30 (.invokevirtual 56) 3 33 := ⟨by decide +kernel, rfl⟩
theorem d_X3_write_33 : x_dec m_X3_write 33 (.ireturn) 1 34 := ⟨by decide +kernel, rfl⟩
theorem d_X3_write_34 : x_dec m_X3_write 34 (.iload_n 2) 1 35 := ⟨by decide +kernel, rfl⟩
theorem d_X3_write_35 : x_dec m_X3_write 35 (.ifCond .lt 12) 3 38 := ⟨by decide +kernel, rfl⟩
theorem d_X3_write_38 : x_dec m_X3_write 38 (.iload_n 2) 1 39 := ⟨by decide +kernel, rfl⟩
theorem d_X3_write_39 : x_dec m_X3_write 39 (.aload 4) 2 41 := ⟨by decide +kernel, rfl⟩
theorem d_X3_write_41 : x_dec m_X3_write 41 (.getfield 192) 3 44 := ⟨by decide +kernel, rfl⟩
theorem d_X3_write_44 : x_dec m_X3_write 44 (.if_icmp .lt 10) 3 47 := ⟨by decide +kernel, rfl⟩
theorem d_X3_write_47 : x_dec m_X3_write 47 (.aload_n 0) 1 48 := ⟨by decide +kernel, rfl⟩
theorem d_X3_write_48 : x_dec m_X3_write 48 (.ldc 55) 2 50 := ⟨by decide +kernel, rfl⟩
theorem d_X3_write_50 : x_dec m_X3_write 50 (.invokevirtual 56) 3 53 := ⟨by decide +kernel, rfl⟩
theorem d_X3_write_53 : x_dec m_X3_write 53 (.ireturn) 1 54 := ⟨by decide +kernel, rfl⟩
theorem d_X3_write_54 : x_dec m_X3_write 54 (.aload 4) 2 56 := ⟨by decide +kernel, rfl⟩
theorem d_X3_write_56 : x_dec m_X3_write 56 (.getfield 195) 3 59 := ⟨by decide +kernel, rfl⟩
theorem d_X3_write_59 : x_dec m_X3_write 59 (.iload_n 2) 1 60 := ⟨by decide +kernel, rfl⟩
theorem d_X3_write_60 : x_dec m_X3_write 60 (.aload 4) 2 62 := ⟨by decide +kernel, rfl⟩
theorem d_X3_write_62 : x_dec m_X3_write 62 (.iload_n 3) 1 63 := ⟨by decide +kernel, rfl⟩
theorem d_X3_write_63 : x_dec m_X3_write 63 (.invokevirtual 244) 3 66 := ⟨by decide +kernel, rfl⟩
theorem d_X3_write_66 : x_dec m_X3_write 66 (.iastore) 1 67 := ⟨by decide +kernel, rfl⟩
theorem d_X3_write_67 : x_dec m_X3_write 67 (.iconst 1) 1 68 := ⟨by decide +kernel, rfl⟩
theorem d_X3_write_68 : x_dec m_X3_write 68 (.ireturn) 1 69 := ⟨by decide +kernel, rfl⟩
set_option maxHeartbeats 4000000 in
set_option maxRecDepth 100000 in
theorem c_X3_write (l : Launch) (E : x_E) (μ : x_Mem) (g : x_SG) (hS : XS g μ) (hI : Inv g) (s i v : Int32) : x_Met l m_X3_write E [.ref (E.1 + 0), .int s, .int i, .int v] μ (x_I (fun z m => z = (F_write g s i v).1 ∧ XS (F_write g s i v).2 m ∧ ∀ id, 41 ≤ id → m id = μ id)) := by
  obtain ⟨hL, hH, hX, hD⟩ := hS
  have hWF := hI.1.1
  have hn7 := hWF.2.1
  have hpn := hWF.1
  have hF : ∀ id, 41 ≤ id → μ id = μ id := fun _ _ => rfl
  refine x_enter (lv := [(0, .ref (E.1 + 0)), (1, .int s), (2, .int i), (3, .int v)]) (by decide +kernel) (Nat.le_of_ble_eq_true rfl) rfl ?_
  refine x_aload_n 0 d_X3_write_0 rfl rfl ?_
  refine x_iload_n 1 d_X3_write_1 rfl rfl ?_
  refine x_cv (k := 0) (as := [.int s]) (c_X3_sheetAt l E μ s) v_X3_sheetAt w_X3_sheetAt q410 o_X rfl ⟨Nat.le_of_ble_eq_true rfl, Nat.le_of_ble_eq_true rfl⟩ rfl (Nat.le_of_ble_eq_true rfl) d_X3_write_2 ?_
  rintro r2 μ1 ⟨hm9, ⟨ks3, rfl⟩ | ⟨ks3, rfl⟩⟩ <;> replace hm9 := hm9.symm <;> subst hm9
  · obtain ⟨y, hy, rfl⟩ := inR_nat (n := 3) (by decide) ks3
    rw [nI_clamp (by omega)]
    have hz_y := hI.2.2.2.2.1 y (by omega)
    refine x_eqst (st' := [.ref (E.1 + (33 + 2 * y))]) rfl ?_
    refine x_astore [(4, .ref (E.1 + (33 + 2 * y))), (0, .ref (E.1 + 0)), (1, .int (nI y)), (2, .int i), (3, .int v)] d_X3_write_5 (Nat.le_of_ble_eq_true rfl) rfl ?_
    refine x_aload 0 d_X3_write_7 rfl ?_
    refine x_ifnonnull 19 d_X3_write_9 (by decide) ?_
    refine x_aload 0 d_X3_write_19 rfl ?_
    refine x_getiV (j := 0) (z := gSb g y) x_c1 (s_kd (x_sqs (i := y) (by omega))) (Nat.le_of_ble_eq_true rfl) q135 (s_n0 (x_sqs (i := y) (by omega))) (hX.2.2.2.2.1 y (by omega)) d_X3_write_21 ?_
    refine x_if_ne 34 d_X3_write_24 (by decide) (fun c4 => ?_) (fun c4 => ?_)
    · skip
      refine x_iload_n 3 d_X3_write_34 rfl rfl ?_
      refine x_if_lt 47 d_X3_write_35 (by decide) (fun c5 => ?_) (fun c5 => ?_)
      · skip
        refine x_aload_n 1 d_X3_write_47 rfl rfl ?_
        refine x_ldc q182 d_X3_write_48 ?_
        refine x_cvi (k := 0) (as := [.int (-1000001)]) (c_X3_finding l E μ (i := 0) hD (by decide) (w := (-1000001)) (by decide)) v_X3_finding w_X3_finding q183 o_X rfl ⟨Nat.le_of_ble_eq_true rfl, Nat.le_of_ble_eq_true rfl⟩ rfl (Nat.le_of_ble_eq_true rfl) d_X3_write_50 ?_
        rintro _ μ6 ⟨rfl, hD7, hF8⟩
        have hL9 := PR.cg hL (μ' := μ6) (fun id hid => (hF8 _ (by omega)))
        have hLH10 := hH
        rw [← (show μ6 1 = μ 1 from (hF8 _ (by omega)))] at hLH10
        have hX11 := XR.cg hX (μ' := μ6) (fun id hid => (hF8 _ (by omega)))
        have hF12 : ∀ id, 41 ≤ id → μ6 id = μ id := fun id hid => (show μ6 id = μ id from (hF8 _ (by omega))).trans (hF id hid)
        refine x_iret rfl d_X3_write_53 ?_
        have e9 : F_write g (nI y) i v = fin g 0 := by simp [F_write, x_b_f, x_b_t, ks3, c4, nI_clamp (n := y) (by omega), shO, Int32.not_le.mpr c5]
        rw [e9]
        exact ⟨rfl, XS.fin hL9 hLH10 hX11 hD7, hF12⟩
      · skip
        refine x_iload_n 3 d_X3_write_38 rfl rfl ?_
        refine x_aload 0 d_X3_write_39 rfl ?_
        refine x_getiV (j := 1) (z := nI (gSz g y)) x_c1 (s_kd (x_sqs (i := y) (by omega))) (Nat.le_of_ble_eq_true rfl) q137 (s_n1 (x_sqs (i := y) (by omega))) (hX.2.2.2.2.2.1 y (by omega)) d_X3_write_41 ?_
        refine x_icmp_lt 54 d_X3_write_44 (by decide) (fun c13 => ?_) (fun c13 => ?_)
        · skip
          obtain ⟨x, hx, rfl⟩ := inR_p (n := gSz g y) (by omega) c5 c13
          refine x_aload 0 d_X3_write_54 rfl ?_
          refine x_getr (j := 2) ((33 + 2 * y) + 1) x_c1 (s_kd (x_sqs (i := y) (by omega))) (Nat.le_of_ble_eq_true rfl) q139 (s_f2 (x_sqs (i := y) (by omega))) d_X3_write_56 ?_
          refine x_iload_n 3 d_X3_write_59 rfl rfl ?_
          refine x_aload 0 d_X3_write_60 rfl ?_
          refine x_iload_n 4 d_X3_write_62 rfl rfl ?_
          refine x_cvip (k := (33 + 2 * y)) (as := [.int v]) (c_X1_lowest l E μ (q := y) (by omega) (hX.2.2.2.2.1 y (by omega)) v) v_X1_lowest w_X1_lowest q617 (s_ob (x_sqs (i := y) (by omega))) rfl ⟨Nat.le_of_ble_eq_true rfl, Nat.le_of_ble_eq_true rfl⟩ rfl (Nat.le_of_ble_eq_true rfl) d_X3_write_63 ?_
          refine x_iastNG 40 x (s_k1 (x_sqs (i := y) (by omega))) (s_l1 (x_sqs (i := y) (by omega))) (by omega) (by decide) d_X3_write_66 (fun μ14 eμ14 => ?_)
          have hX15 : XR (sS g (gSb g) (gSz g) (upr (gSn g) y (upd (gSn g y) x (lowF (gSb g y) v)))) μ14 := XR.row hX (fun j hj => by rw [eμ14, upd2_at]; unfold upd; split; rfl; exact hX.2.2.2.2.2.2 y (by omega) j hj) (fun id hid => by rw [eμ14, upd2_ne _ _ _ (by omega)])
          have hL16 := PR.cg hL (μ' := μ14) (fun id hid => (by rw [eμ14, upd2_ne _ _ _ (by omega)]))
          have hLH17 := hH
          rw [← (show μ14 1 = μ 1 from (by rw [eμ14, upd2_ne _ _ _ (by omega)]))] at hLH17
          have hD18 := XD.cg hD (μ' := μ14) (fun id hid => (by rw [eμ14, upd2_ne _ _ _ (by omega)]))
          have hF19 : ∀ id, 41 ≤ id → μ14 id = μ id := fun id hid => (show μ14 id = μ id from (by rw [eμ14, upd2_ne _ _ _ (by omega)])).trans (hF id hid)
          refine x_iconst (x := 1) d_X3_write_67 (by decide) ?_
          refine x_iret rfl d_X3_write_68 ?_
          have e9 : F_write g (nI y) (nI x) v = (1, sS g (gSb g) (gSz g) (upr (gSn g) y (upd (gSn g y) x (lowF (gSb g y) v)))) := by simp [F_write, x_b_f, x_b_t, ks3, c4, c13, nI_clamp (n := y) (by omega), nI_clamp (n := x) (by omega), shO, Int32.not_lt.mp c5]
          rw [e9]
          exact ⟨rfl, ⟨hL16, hLH17, hX15, hD18⟩, hF19⟩
        · skip
          refine x_aload_n 1 d_X3_write_47 rfl rfl ?_
          refine x_ldc q182 d_X3_write_48 ?_
          refine x_cvi (k := 0) (as := [.int (-1000001)]) (c_X3_finding l E μ (i := 0) hD (by decide) (w := (-1000001)) (by decide)) v_X3_finding w_X3_finding q183 o_X rfl ⟨Nat.le_of_ble_eq_true rfl, Nat.le_of_ble_eq_true rfl⟩ rfl (Nat.le_of_ble_eq_true rfl) d_X3_write_50 ?_
          rintro _ μ20 ⟨rfl, hD21, hF22⟩
          have hL23 := PR.cg hL (μ' := μ20) (fun id hid => (hF22 _ (by omega)))
          have hLH24 := hH
          rw [← (show μ20 1 = μ 1 from (hF22 _ (by omega)))] at hLH24
          have hX25 := XR.cg hX (μ' := μ20) (fun id hid => (hF22 _ (by omega)))
          have hF26 : ∀ id, 41 ≤ id → μ20 id = μ id := fun id hid => (show μ20 id = μ id from (hF22 _ (by omega))).trans (hF id hid)
          refine x_iret rfl d_X3_write_53 ?_
          have e9 : F_write g (nI y) i v = fin g 0 := by simp [F_write, x_b_f, x_b_t, ks3, c4, nI_clamp (n := y) (by omega), shO, Int32.not_lt.mp c5, show ¬ i < nI (gSz g y) from c13]
          rw [e9]
          exact ⟨rfl, XS.fin hL23 hLH24 hX25 hD21, hF26⟩
    · skip
      refine x_aload_n 1 d_X3_write_27 rfl rfl ?_
      refine x_ldc q414 d_X3_write_28 ?_
      refine x_cvi (k := 0) (as := [.int (-1000006)]) (c_X3_finding l E μ (i := 5) hD (by decide) (w := (-1000006)) (by decide)) v_X3_finding w_X3_finding q183 o_X rfl ⟨Nat.le_of_ble_eq_true rfl, Nat.le_of_ble_eq_true rfl⟩ rfl (Nat.le_of_ble_eq_true rfl) d_X3_write_30 ?_
      rintro _ μ27 ⟨rfl, hD28, hF29⟩
      have hL30 := PR.cg hL (μ' := μ27) (fun id hid => (hF29 _ (by omega)))
      have hLH31 := hH
      rw [← (show μ27 1 = μ 1 from (hF29 _ (by omega)))] at hLH31
      have hX32 := XR.cg hX (μ' := μ27) (fun id hid => (hF29 _ (by omega)))
      have hF33 : ∀ id, 41 ≤ id → μ27 id = μ id := fun id hid => (show μ27 id = μ id from (hF29 _ (by omega))).trans (hF id hid)
      refine x_iret rfl d_X3_write_33 ?_
      have e9 : F_write g (nI y) i v = fin g 5 := by simp [F_write, x_b_f, x_b_t, ks3, c4, nI_clamp (n := y) (by omega), shO]
      rw [e9]
      exact ⟨rfl, XS.fin hL30 hLH31 hX32 hD28, hF33⟩
  · skip
    refine x_eqst (st' := [.null]) rfl ?_
    refine x_astoreN [(4, .null), (0, .ref (E.1 + 0)), (1, .int s), (2, .int i), (3, .int v)] d_X3_write_5 (Nat.le_of_ble_eq_true rfl) rfl ?_
    refine x_aloadN 0 d_X3_write_7 rfl ?_
    refine x_ifnonnullN d_X3_write_9 ?_
    refine x_aload_n 1 d_X3_write_12 rfl rfl ?_
    refine x_ldc q182 d_X3_write_13 ?_
    refine x_cvi (k := 0) (as := [.int (-1000001)]) (c_X3_finding l E μ (i := 0) hD (by decide) (w := (-1000001)) (by decide)) v_X3_finding w_X3_finding q183 o_X rfl ⟨Nat.le_of_ble_eq_true rfl, Nat.le_of_ble_eq_true rfl⟩ rfl (Nat.le_of_ble_eq_true rfl) d_X3_write_15 ?_
    rintro _ μ34 ⟨rfl, hD35, hF36⟩
    have hL37 := PR.cg hL (μ' := μ34) (fun id hid => (hF36 _ (by omega)))
    have hLH38 := hH
    rw [← (show μ34 1 = μ 1 from (hF36 _ (by omega)))] at hLH38
    have hX39 := XR.cg hX (μ' := μ34) (fun id hid => (hF36 _ (by omega)))
    have hF40 : ∀ id, 41 ≤ id → μ34 id = μ id := fun id hid => (show μ34 id = μ id from (hF36 _ (by omega))).trans (hF id hid)
    refine x_iret rfl d_X3_write_18 ?_
    have e9 : F_write g s i v = fin g 0 := by simp [F_write, x_b_f, x_b_t, ks3, shO]
    rw [e9]
    exact ⟨rfl, XS.fin hL37 hLH38 hX39 hD35, hF40⟩
def m_X3_copy : x_M := (yX3_copy, prog_1_method_48_code, 8, (some FieldType.int), 1, 26)
theorem v_X3_copy : x_VM m_X3_copy 5 := ⟨q624, q1, by decide +kernel, by decide +kernel, by decide +kernel⟩
theorem w_X3_copy : x_VI m_X3_copy := ⟨q622, q623⟩
theorem d_X3_copy_0 : x_dec m_X3_copy 0 (.aload_n 0) 1 1 := ⟨by decide +kernel, rfl⟩
theorem d_X3_copy_1 : x_dec m_X3_copy 1 (.iload_n 1) 1 2 := ⟨by decide +kernel, rfl⟩
theorem d_X3_copy_2 : x_dec m_X3_copy 2 (.invokevirtual 180) 3 5 := ⟨by decide +kernel, rfl⟩
theorem d_X3_copy_5 : x_dec m_X3_copy 5 (.astore 6) 2 7 := ⟨by decide +kernel, rfl⟩
theorem d_X3_copy_7 : x_dec m_X3_copy 7 (.aload_n 0) 1 8 := ⟨by decide +kernel, rfl⟩
theorem d_X3_copy_8 : x_dec m_X3_copy 8 (.iload_n 3) 1 9 := ⟨by decide +kernel, rfl⟩
theorem d_X3_copy_9 : x_dec m_X3_copy 9 (.invokevirtual 180) 3 12 := ⟨by decide +kernel, rfl⟩
theorem d_X3_copy_12 : x_dec m_X3_copy 12 (.astore 7) 2 14 := ⟨by decide +kernel, rfl⟩
theorem d_X3_copy_14 : x_dec m_X3_copy 14 (.aload 6) 2 16 := ⟨by decide +kernel, rfl⟩
theorem d_X3_copy_16 : x_dec m_X3_copy 16 (.ifnull 8) 3 19 := ⟨by decide +kernel, rfl⟩
theorem d_X3_copy_19 : x_dec m_X3_copy 19 (.aload 7) 2 21 := ⟨by decide +kernel, rfl⟩
theorem d_X3_copy_21 : x_dec m_X3_copy 21 (.ifnonnull 10) 3 24 := ⟨by decide +kernel, rfl⟩
theorem d_X3_copy_24 : x_dec m_X3_copy 24 (.aload_n 0) 1 25 := ⟨by decide +kernel, rfl⟩
theorem d_X3_copy_25 : x_dec m_X3_copy 25 (.ldc 55) 2 27 := ⟨by decide +kernel, rfl⟩
theorem d_X3_copy_27 : x_dec m_X3_copy 27 (.invokevirtual 56) 3 30 := ⟨by decide +kernel, rfl⟩
theorem d_X3_copy_30 : x_dec m_X3_copy 30 (.ireturn) 1 31 := ⟨by decide +kernel, rfl⟩
theorem d_X3_copy_31 : x_dec m_X3_copy 31 (.aload 6) 2 33 := ⟨by decide +kernel, rfl⟩
theorem d_X3_copy_33 : x_dec m_X3_copy 33 (.getfield 184) 3 36 := ⟨by decide +kernel, rfl⟩
theorem d_X3_copy_36 : x_dec m_X3_copy 36 (.ifCond .eq 11) 3 39 := ⟨by decide +kernel, rfl⟩
theorem d_X3_copy_39 : x_dec m_X3_copy 39 (.aload 7) 2 41 := ⟨by decide +kernel, rfl⟩
theorem d_X3_copy_41 : x_dec m_X3_copy 41 (.getfield 184) 3 44 := ⟨by decide +kernel, rfl⟩
theorem d_X3_copy_44 : x_dec m_X3_copy 44 (.ifCond .ne 10) 3 47 := ⟨by decide +kernel, rfl⟩
theorem d_X3_copy_47 : x_dec m_X3_copy 47 (.aload_n 0) 1 48 := ⟨by decide +kernel, rfl⟩
theorem d_X3_copy_48 : x_dec m_X3_copy 48 (.ldc 187) 2 50 := ⟨by decide +kernel, rfl⟩
theorem d_X3_copy_50 : x_dec m_X3_copy 50 (.invokevirtual 56) 3 53 := ⟨by decide +kernel, rfl⟩
theorem d_X3_copy_53 : x_dec m_X3_copy 53 (.ireturn) 1 54 := ⟨by decide +kernel, rfl⟩
theorem d_X3_copy_54 : x_dec m_X3_copy 54 (.aload 6) 2 56 := ⟨by decide +kernel, rfl⟩
theorem d_X3_copy_56 : x_dec m_X3_copy 56 (.getfield 184) 3 59 := ⟨by decide +kernel, rfl⟩
theorem d_X3_copy_59 : x_dec m_X3_copy 59 (.aload 7) 2 61 := ⟨by decide +kernel, rfl⟩
theorem d_X3_copy_61 : x_dec m_X3_copy 61 (.getfield 184) 3 64 := ⟨by decide +kernel, rfl⟩
theorem d_X3_copy_64 : x_dec m_X3_copy 64 (.if_icmp .eq 10) 3 67 := ⟨by decide +kernel, rfl⟩
theorem d_X3_copy_67 : x_dec m_X3_copy 67 (.aload_n 0) 1 68 := ⟨by decide +kernel, rfl⟩
theorem d_X3_copy_68 : x_dec m_X3_copy 68 (.ldc 239) 2 70 := ⟨by decide +kernel, rfl⟩
theorem d_X3_copy_70 : x_dec m_X3_copy 70 (.invokevirtual 56) 3 73 := ⟨by decide +kernel, rfl⟩
theorem d_X3_copy_73 : x_dec m_X3_copy 73 (.ireturn) 1 74 := ⟨by decide +kernel, rfl⟩
theorem d_X3_copy_74 : x_dec m_X3_copy 74 (.aload 6) 2 76 := ⟨by decide +kernel, rfl⟩
theorem d_X3_copy_76 : x_dec m_X3_copy 76 (.iload_n 2) 1 77 := ⟨by decide +kernel, rfl⟩
theorem d_X3_copy_77 : x_dec m_X3_copy 77 (.iload 5) 2 79 := ⟨by decide +kernel, rfl⟩
theorem d_X3_copy_79 : x_dec m_X3_copy 79 (.invokevirtual 247) 3 82 := ⟨by decide +kernel, rfl⟩
theorem d_X3_copy_82 : x_dec m_X3_copy 82 (.ifCond .eq 15) 3 85 := ⟨by decide +kernel, rfl⟩
theorem d_X3_copy_85 : x_dec m_X3_copy 85 (.aload 7) 2 87 := ⟨by decide +kernel, rfl⟩
theorem d_X3_copy_87 : x_dec m_X3_copy 87 (.iload 4) 2 89 := ⟨by decide +kernel, rfl⟩
theorem d_X3_copy_89 : x_dec m_X3_copy 89 (.iload 5) 2 91 := ⟨by decide +kernel, rfl⟩
theorem d_X3_copy_91 : x_dec m_X3_copy 91 (.invokevirtual 247) 3 94 := ⟨by decide +kernel, rfl⟩
theorem d_X3_copy_94 : x_dec m_X3_copy 94 (.ifCond .ne 10) 3 97 := ⟨by decide +kernel, rfl⟩
theorem d_X3_copy_97 : x_dec m_X3_copy 97 (.aload_n 0) 1 98 := ⟨by decide +kernel, rfl⟩
theorem d_X3_copy_98 : x_dec m_X3_copy 98 (.ldc 55) 2 100 := ⟨by decide +kernel, rfl⟩
theorem d_X3_copy_100 : x_dec m_X3_copy 100 (.invokevirtual 56) 3 103 := ⟨by decide +kernel, rfl⟩
theorem d_X3_copy_103 : x_dec m_X3_copy 103 (.ireturn) 1 104 := ⟨by decide +kernel, rfl⟩
theorem d_X3_copy_104 : x_dec m_X3_copy 104 (.aload 6) 2 106 := ⟨by decide +kernel, rfl⟩
theorem d_X3_copy_106 : x_dec m_X3_copy 106 (.getfield 195) 3 109 := ⟨by decide +kernel, rfl⟩
theorem d_X3_copy_109 : x_dec m_X3_copy 109 (.iload_n 2) 1 110 := ⟨by decide +kernel, rfl⟩
theorem d_X3_copy_110 : x_dec m_X3_copy 110 (.aload 7) 2 112 := ⟨by decide +kernel, rfl⟩
theorem d_X3_copy_112 : x_dec m_X3_copy 112 (.getfield 195) 3 115 := ⟨by decide +kernel, rfl⟩
theorem d_X3_copy_115 : x_dec m_X3_copy 115 (.iload 4) 2 117 := ⟨by decide +kernel, rfl⟩
theorem d_X3_copy_117 : x_dec m_X3_copy 117 (.iload 5) 2 119 := ⟨by decide +kernel, rfl⟩
theorem d_X3_copy_119 : x_dec m_X3_copy 119 (.invokestatic 250) 3 122 := ⟨by decide +kernel, rfl⟩
theorem d_X3_copy_122 : x_dec m_X3_copy 122 (.iload 5) 2 124 := ⟨by decide +kernel, rfl⟩
theorem d_X3_copy_124 : x_dec m_X3_copy 124 (.ireturn) 1 125 := ⟨by decide +kernel, rfl⟩
set_option maxHeartbeats 4000000 in
set_option maxRecDepth 100000 in
theorem c_X3_copy (l : Launch) (E : x_E) (μ : x_Mem) (g : x_SG) (hS : XS g μ) (hI : Inv g) (s f t d n : Int32) : x_Met l m_X3_copy E [.ref (E.1 + 0), .int s, .int f, .int t, .int d, .int n] μ (x_I (fun z m => z = (F_copy g s f t d n).1 ∧ XS (F_copy g s f t d n).2 m ∧ ∀ id, 41 ≤ id → m id = μ id)) := by
  obtain ⟨hL, hH, hX, hD⟩ := hS
  have hWF := hI.1.1
  have hn7 := hWF.2.1
  have hpn := hWF.1
  have hF : ∀ id, 41 ≤ id → μ id = μ id := fun _ _ => rfl
  refine x_enter (lv := [(0, .ref (E.1 + 0)), (1, .int s), (2, .int f), (3, .int t), (4, .int d), (5, .int n)]) (by decide +kernel) (Nat.le_of_ble_eq_true rfl) rfl ?_
  refine x_aload_n 0 d_X3_copy_0 rfl rfl ?_
  refine x_iload_n 1 d_X3_copy_1 rfl rfl ?_
  refine x_cv (k := 0) (as := [.int s]) (c_X3_sheetAt l E μ s) v_X3_sheetAt w_X3_sheetAt q410 o_X rfl ⟨Nat.le_of_ble_eq_true rfl, Nat.le_of_ble_eq_true rfl⟩ rfl (Nat.le_of_ble_eq_true rfl) d_X3_copy_2 ?_
  rintro r2 μ1 ⟨hm9, ⟨ks3, rfl⟩ | ⟨ks3, rfl⟩⟩ <;> replace hm9 := hm9.symm <;> subst hm9
  · obtain ⟨y, hy, rfl⟩ := inR_nat (n := 3) (by decide) ks3
    rw [nI_clamp (by omega)]
    have hz_y := hI.2.2.2.2.1 y (by omega)
    refine x_eqst (st' := [.ref (E.1 + (33 + 2 * y))]) rfl ?_
    refine x_astore [(6, .ref (E.1 + (33 + 2 * y))), (0, .ref (E.1 + 0)), (1, .int (nI y)), (2, .int f), (3, .int t), (4, .int d), (5, .int n)] d_X3_copy_5 (Nat.le_of_ble_eq_true rfl) rfl ?_
    refine x_aload_n 1 d_X3_copy_7 rfl rfl ?_
    refine x_iload_n 4 d_X3_copy_8 rfl rfl ?_
    refine x_cv (k := 0) (as := [.int t]) (c_X3_sheetAt l E μ t) v_X3_sheetAt w_X3_sheetAt q410 o_X rfl ⟨Nat.le_of_ble_eq_true rfl, Nat.le_of_ble_eq_true rfl⟩ rfl (Nat.le_of_ble_eq_true rfl) d_X3_copy_9 ?_
    rintro r5 μ4 ⟨hm9, ⟨ks6, rfl⟩ | ⟨ks6, rfl⟩⟩ <;> replace hm9 := hm9.symm <;> subst hm9
    · obtain ⟨u, hu, rfl⟩ := inR_nat (n := 3) (by decide) ks6
      rw [nI_clamp (by omega)]
      have hz_u := hI.2.2.2.2.1 u (by omega)
      refine x_eqst (st' := [.ref (E.1 + (33 + 2 * u))]) rfl ?_
      refine x_astore [(7, .ref (E.1 + (33 + 2 * u))), (6, .ref (E.1 + (33 + 2 * y))), (0, .ref (E.1 + 0)), (1, .int (nI y)), (2, .int f), (3, .int (nI u)), (4, .int d), (5, .int n)] d_X3_copy_12 (Nat.le_of_ble_eq_true rfl) rfl ?_
      refine x_aload 1 d_X3_copy_14 rfl ?_
      refine x_ifnull d_X3_copy_16 ?_
      refine x_aload 0 d_X3_copy_19 rfl ?_
      refine x_ifnonnull 31 d_X3_copy_21 (by decide) ?_
      refine x_aload 1 d_X3_copy_31 rfl ?_
      refine x_getiV (j := 0) (z := gSb g y) x_c1 (s_kd (x_sqs (i := y) (by omega))) (Nat.le_of_ble_eq_true rfl) q135 (s_n0 (x_sqs (i := y) (by omega))) (hX.2.2.2.2.1 y (by omega)) d_X3_copy_33 ?_
      refine x_if_eq 47 d_X3_copy_36 (by decide) (fun c7 => ?_) (fun c7 => ?_)
      · skip
        refine x_aload_n 2 d_X3_copy_47 rfl rfl ?_
        refine x_ldc q414 d_X3_copy_48 ?_
        refine x_cvi (k := 0) (as := [.int (-1000006)]) (c_X3_finding l E μ (i := 5) hD (by decide) (w := (-1000006)) (by decide)) v_X3_finding w_X3_finding q183 o_X rfl ⟨Nat.le_of_ble_eq_true rfl, Nat.le_of_ble_eq_true rfl⟩ rfl (Nat.le_of_ble_eq_true rfl) d_X3_copy_50 ?_
        rintro _ μ8 ⟨rfl, hD9, hF10⟩
        have hL11 := PR.cg hL (μ' := μ8) (fun id hid => (hF10 _ (by omega)))
        have hLH12 := hH
        rw [← (show μ8 1 = μ 1 from (hF10 _ (by omega)))] at hLH12
        have hX13 := XR.cg hX (μ' := μ8) (fun id hid => (hF10 _ (by omega)))
        have hF14 : ∀ id, 41 ≤ id → μ8 id = μ id := fun id hid => (show μ8 id = μ id from (hF10 _ (by omega))).trans (hF id hid)
        refine x_iret rfl d_X3_copy_53 ?_
        have e9 : F_copy g (nI y) f (nI u) d n = fin g 5 := by simp [F_copy, x_b_f, x_b_t, ks3, ks6, c7, nI_clamp (n := y) (by omega), nI_clamp (n := u) (by omega)]
        rw [e9]
        exact ⟨rfl, XS.fin hL11 hLH12 hX13 hD9, hF14⟩
      · skip
        refine x_aload 0 d_X3_copy_39 rfl ?_
        refine x_getiV (j := 0) (z := gSb g u) x_c1 (s_kd (x_sqs (i := u) (by omega))) (Nat.le_of_ble_eq_true rfl) q135 (s_n0 (x_sqs (i := u) (by omega))) (hX.2.2.2.2.1 u (by omega)) d_X3_copy_41 ?_
        refine x_if_ne 54 d_X3_copy_44 (by decide) (fun c15 => ?_) (fun c15 => ?_)
        · skip
          refine x_aload 1 d_X3_copy_54 rfl ?_
          refine x_getiV (j := 0) (z := gSb g y) x_c1 (s_kd (x_sqs (i := y) (by omega))) (Nat.le_of_ble_eq_true rfl) q135 (s_n0 (x_sqs (i := y) (by omega))) (hX.2.2.2.2.1 y (by omega)) d_X3_copy_56 ?_
          refine x_aload 0 d_X3_copy_59 rfl ?_
          refine x_getiV (j := 0) (z := gSb g u) x_c1 (s_kd (x_sqs (i := u) (by omega))) (Nat.le_of_ble_eq_true rfl) q135 (s_n0 (x_sqs (i := u) (by omega))) (hX.2.2.2.2.1 u (by omega)) d_X3_copy_61 ?_
          refine x_icmp_eq 74 d_X3_copy_64 (by decide) (fun c16 => ?_) (fun c16 => ?_)
          · skip
            refine x_aload 1 d_X3_copy_74 rfl ?_
            refine x_iload_n 4 d_X3_copy_76 rfl rfl ?_
            refine x_iload 7 d_X3_copy_77 rfl ?_
            refine x_cvip (k := (33 + 2 * y)) (as := [.int f, .int n]) (c_X1_hasRow l E μ (q := y) (by omega) (hX.2.2.2.2.2.1 y (by omega)) f n) v_X1_hasRow w_X1_hasRow q625 (s_ob (x_sqs (i := y) (by omega))) rfl ⟨Nat.le_of_ble_eq_true rfl, Nat.le_of_ble_eq_true rfl⟩ rfl (Nat.le_of_ble_eq_true rfl) d_X3_copy_79 ?_
            refine x_ifb_eq 97 d_X3_copy_82 (by decide) (fun c17 => ?_) (fun c17 => ?_)
            · skip
              refine x_aload_n 2 d_X3_copy_97 rfl rfl ?_
              refine x_ldc q182 d_X3_copy_98 ?_
              refine x_cvi (k := 0) (as := [.int (-1000001)]) (c_X3_finding l E μ (i := 0) hD (by decide) (w := (-1000001)) (by decide)) v_X3_finding w_X3_finding q183 o_X rfl ⟨Nat.le_of_ble_eq_true rfl, Nat.le_of_ble_eq_true rfl⟩ rfl (Nat.le_of_ble_eq_true rfl) d_X3_copy_100 ?_
              rintro _ μ18 ⟨rfl, hD19, hF20⟩
              have hL21 := PR.cg hL (μ' := μ18) (fun id hid => (hF20 _ (by omega)))
              have hLH22 := hH
              rw [← (show μ18 1 = μ 1 from (hF20 _ (by omega)))] at hLH22
              have hX23 := XR.cg hX (μ' := μ18) (fun id hid => (hF20 _ (by omega)))
              have hF24 : ∀ id, 41 ≤ id → μ18 id = μ id := fun id hid => (show μ18 id = μ id from (hF20 _ (by omega))).trans (hF id hid)
              refine x_iret rfl d_X3_copy_103 ?_
              have e9 : F_copy g (nI y) f (nI u) d n = fin g 0 := by simp [F_copy, x_b_f, x_b_t, ks3, ks6, c7, c15, c16, c17, nI_clamp (n := y) (by omega), nI_clamp (n := u) (by omega)]
              rw [e9]
              exact ⟨rfl, XS.fin hL21 hLH22 hX23 hD19, hF24⟩
            · skip
              refine x_aload 0 d_X3_copy_85 rfl ?_
              refine x_iload 6 d_X3_copy_87 rfl ?_
              refine x_iload 7 d_X3_copy_89 rfl ?_
              refine x_cvip (k := (33 + 2 * u)) (as := [.int d, .int n]) (c_X1_hasRow l E μ (q := u) (by omega) (hX.2.2.2.2.2.1 u (by omega)) d n) v_X1_hasRow w_X1_hasRow q625 (s_ob (x_sqs (i := u) (by omega))) rfl ⟨Nat.le_of_ble_eq_true rfl, Nat.le_of_ble_eq_true rfl⟩ rfl (Nat.le_of_ble_eq_true rfl) d_X3_copy_91 ?_
              refine x_ifb_ne 104 d_X3_copy_94 (by decide) (fun c25 => ?_) (fun c25 => ?_)
              · skip
                have hr1 := c17
                have hr2 := c25
                obtain ⟨x, n', rfl, rfl, hxn⟩ := rowOk_n hz_y c17
                obtain ⟨d', n2, rfl, en2, hdn⟩ := rowOk_n hz_u c25
                have en3 := (nI_eq (by omega) (by omega)).mp en2
                subst en3
                refine x_aload 1 d_X3_copy_104 rfl ?_
                refine x_getr (j := 2) ((33 + 2 * y) + 1) x_c1 (s_kd (x_sqs (i := y) (by omega))) (Nat.le_of_ble_eq_true rfl) q139 (s_f2 (x_sqs (i := y) (by omega))) d_X3_copy_106 ?_
                refine x_iload_n 4 d_X3_copy_109 rfl rfl ?_
                refine x_aload 0 d_X3_copy_110 rfl ?_
                refine x_getr (j := 2) ((33 + 2 * u) + 1) x_c1 (s_kd (x_sqs (i := u) (by omega))) (Nat.le_of_ble_eq_true rfl) q139 (s_f2 (x_sqs (i := u) (by omega))) d_X3_copy_112 ?_
                refine x_iload 6 d_X3_copy_115 rfl ?_
                refine x_iload 7 d_X3_copy_117 rfl ?_
                refine x_copyG 40 40 x d' n' (s_k1 (x_sqs (i := y) (by omega))) (s_k1 (x_sqs (i := u) (by omega))) (s_l1 (x_sqs (i := y) (by omega))) (s_l1 (x_sqs (i := u) (by omega))) q629 q274 q273 q8 (by omega) (by omega) (by decide) (by decide) (Nat.le_of_ble_eq_true rfl) (Nat.le_of_ble_eq_true rfl) d_X3_copy_119 (fun μ26 eμ26 => ?_)
                have hX27 : XR (sS g (gSb g) (gSz g) (upr (gSn g) u (va_cpy (gSn g y) (gSn g u) x d' n'))) μ26 := XR.row hX (fun j hj => by rw [eμ26]; show (if 33 + 2 * u + 1 = 33 + 2 * u + 1 then va_cpy (μ (33 + 2 * y + 1)) (μ (33 + 2 * u + 1)) x d' n' else μ (33 + 2 * u + 1)) j = _; rw [if_pos rfl]; exact cpy_row (fun j hj => hX.2.2.2.2.2.2 y (by omega) j hj) (fun j hj => hX.2.2.2.2.2.2 u (by omega) j hj) (by omega) j hj) (fun id hid => by rw [eμ26]; exact if_neg hid)
                have hL28 := PR.cg hL (μ' := μ26) (fun id hid => (by rw [eμ26]; exact if_neg (by omega)))
                have hLH29 := hH
                rw [← (show μ26 1 = μ 1 from (by rw [eμ26]; exact if_neg (by omega)))] at hLH29
                have hD30 := XD.cg hD (μ' := μ26) (fun id hid => (by rw [eμ26]; exact if_neg (by omega)))
                have hF31 : ∀ id, 41 ≤ id → μ26 id = μ id := fun id hid => (show μ26 id = μ id from (by rw [eμ26]; exact if_neg (by omega))).trans (hF id hid)
                refine x_iload 7 d_X3_copy_122 rfl ?_
                refine x_iret rfl d_X3_copy_124 ?_
                have e9 : F_copy g (nI y) (nI x) (nI u) (nI d') (nI n') = (nI n', sS g (gSb g) (gSz g) (upr (gSn g) u (va_cpy (gSn g y) (gSn g u) x d' n'))) := by simp [F_copy, x_b_f, x_b_t, ks3, ks6, c7, c15, c16, c17, c25, nI_clamp (n := y) (by omega), nI_clamp (n := u) (by omega), nI_clamp (n := x) (by omega), nI_clamp (n := d') (by omega), nI_clamp (n := n') (by omega), hr1, hr2]
                rw [e9]
                exact ⟨rfl, ⟨hL28, hLH29, hX27, hD30⟩, hF31⟩
              · skip
                refine x_aload_n 2 d_X3_copy_97 rfl rfl ?_
                refine x_ldc q182 d_X3_copy_98 ?_
                refine x_cvi (k := 0) (as := [.int (-1000001)]) (c_X3_finding l E μ (i := 0) hD (by decide) (w := (-1000001)) (by decide)) v_X3_finding w_X3_finding q183 o_X rfl ⟨Nat.le_of_ble_eq_true rfl, Nat.le_of_ble_eq_true rfl⟩ rfl (Nat.le_of_ble_eq_true rfl) d_X3_copy_100 ?_
                rintro _ μ32 ⟨rfl, hD33, hF34⟩
                have hL35 := PR.cg hL (μ' := μ32) (fun id hid => (hF34 _ (by omega)))
                have hLH36 := hH
                rw [← (show μ32 1 = μ 1 from (hF34 _ (by omega)))] at hLH36
                have hX37 := XR.cg hX (μ' := μ32) (fun id hid => (hF34 _ (by omega)))
                have hF38 : ∀ id, 41 ≤ id → μ32 id = μ id := fun id hid => (show μ32 id = μ id from (hF34 _ (by omega))).trans (hF id hid)
                refine x_iret rfl d_X3_copy_103 ?_
                have e9 : F_copy g (nI y) f (nI u) d n = fin g 0 := by simp [F_copy, x_b_f, x_b_t, ks3, ks6, c7, c15, c16, c17, c25, nI_clamp (n := y) (by omega), nI_clamp (n := u) (by omega)]
                rw [e9]
                exact ⟨rfl, XS.fin hL35 hLH36 hX37 hD33, hF38⟩
          · skip
            refine x_aload_n 2 d_X3_copy_67 rfl rfl ?_
            refine x_ldc q602 d_X3_copy_68 ?_
            refine x_cvi (k := 0) (as := [.int (-1000003)]) (c_X3_finding l E μ (i := 2) hD (by decide) (w := (-1000003)) (by decide)) v_X3_finding w_X3_finding q183 o_X rfl ⟨Nat.le_of_ble_eq_true rfl, Nat.le_of_ble_eq_true rfl⟩ rfl (Nat.le_of_ble_eq_true rfl) d_X3_copy_70 ?_
            rintro _ μ39 ⟨rfl, hD40, hF41⟩
            have hL42 := PR.cg hL (μ' := μ39) (fun id hid => (hF41 _ (by omega)))
            have hLH43 := hH
            rw [← (show μ39 1 = μ 1 from (hF41 _ (by omega)))] at hLH43
            have hX44 := XR.cg hX (μ' := μ39) (fun id hid => (hF41 _ (by omega)))
            have hF45 : ∀ id, 41 ≤ id → μ39 id = μ id := fun id hid => (show μ39 id = μ id from (hF41 _ (by omega))).trans (hF id hid)
            refine x_iret rfl d_X3_copy_73 ?_
            have e9 : F_copy g (nI y) f (nI u) d n = fin g 2 := by simp [F_copy, x_b_f, x_b_t, ks3, ks6, c7, c15, c16, nI_clamp (n := y) (by omega), nI_clamp (n := u) (by omega)]
            rw [e9]
            exact ⟨rfl, XS.fin hL42 hLH43 hX44 hD40, hF45⟩
        · skip
          refine x_aload_n 2 d_X3_copy_47 rfl rfl ?_
          refine x_ldc q414 d_X3_copy_48 ?_
          refine x_cvi (k := 0) (as := [.int (-1000006)]) (c_X3_finding l E μ (i := 5) hD (by decide) (w := (-1000006)) (by decide)) v_X3_finding w_X3_finding q183 o_X rfl ⟨Nat.le_of_ble_eq_true rfl, Nat.le_of_ble_eq_true rfl⟩ rfl (Nat.le_of_ble_eq_true rfl) d_X3_copy_50 ?_
          rintro _ μ46 ⟨rfl, hD47, hF48⟩
          have hL49 := PR.cg hL (μ' := μ46) (fun id hid => (hF48 _ (by omega)))
          have hLH50 := hH
          rw [← (show μ46 1 = μ 1 from (hF48 _ (by omega)))] at hLH50
          have hX51 := XR.cg hX (μ' := μ46) (fun id hid => (hF48 _ (by omega)))
          have hF52 : ∀ id, 41 ≤ id → μ46 id = μ id := fun id hid => (show μ46 id = μ id from (hF48 _ (by omega))).trans (hF id hid)
          refine x_iret rfl d_X3_copy_53 ?_
          have e9 : F_copy g (nI y) f (nI u) d n = fin g 5 := by simp [F_copy, x_b_f, x_b_t, ks3, ks6, c7, c15, nI_clamp (n := y) (by omega), nI_clamp (n := u) (by omega)]
          rw [e9]
          exact ⟨rfl, XS.fin hL49 hLH50 hX51 hD47, hF52⟩
    · skip
      refine x_eqst (st' := [.null]) rfl ?_
      refine x_astoreN [(7, .null), (6, .ref (E.1 + (33 + 2 * y))), (0, .ref (E.1 + 0)), (1, .int (nI y)), (2, .int f), (3, .int t), (4, .int d), (5, .int n)] d_X3_copy_12 (Nat.le_of_ble_eq_true rfl) rfl ?_
      refine x_aload 1 d_X3_copy_14 rfl ?_
      refine x_ifnull d_X3_copy_16 ?_
      refine x_aloadN 0 d_X3_copy_19 rfl ?_
      refine x_ifnonnullN d_X3_copy_21 ?_
      refine x_aload_n 2 d_X3_copy_24 rfl rfl ?_
      refine x_ldc q182 d_X3_copy_25 ?_
      refine x_cvi (k := 0) (as := [.int (-1000001)]) (c_X3_finding l E μ (i := 0) hD (by decide) (w := (-1000001)) (by decide)) v_X3_finding w_X3_finding q183 o_X rfl ⟨Nat.le_of_ble_eq_true rfl, Nat.le_of_ble_eq_true rfl⟩ rfl (Nat.le_of_ble_eq_true rfl) d_X3_copy_27 ?_
      rintro _ μ53 ⟨rfl, hD54, hF55⟩
      have hL56 := PR.cg hL (μ' := μ53) (fun id hid => (hF55 _ (by omega)))
      have hLH57 := hH
      rw [← (show μ53 1 = μ 1 from (hF55 _ (by omega)))] at hLH57
      have hX58 := XR.cg hX (μ' := μ53) (fun id hid => (hF55 _ (by omega)))
      have hF59 : ∀ id, 41 ≤ id → μ53 id = μ id := fun id hid => (show μ53 id = μ id from (hF55 _ (by omega))).trans (hF id hid)
      refine x_iret rfl d_X3_copy_30 ?_
      have e9 : F_copy g (nI y) f t d n = fin g 0 := by simp [F_copy, x_b_f, x_b_t, ks3, ks6, nI_clamp (n := y) (by omega)]
      rw [e9]
      exact ⟨rfl, XS.fin hL56 hLH57 hX58 hD54, hF59⟩
  · skip
    refine x_eqst (st' := [.null]) rfl ?_
    refine x_astoreN [(6, .null), (0, .ref (E.1 + 0)), (1, .int s), (2, .int f), (3, .int t), (4, .int d), (5, .int n)] d_X3_copy_5 (Nat.le_of_ble_eq_true rfl) rfl ?_
    refine x_aload_n 1 d_X3_copy_7 rfl rfl ?_
    refine x_iload_n 4 d_X3_copy_8 rfl rfl ?_
    refine x_cv (k := 0) (as := [.int t]) (c_X3_sheetAt l E μ t) v_X3_sheetAt w_X3_sheetAt q410 o_X rfl ⟨Nat.le_of_ble_eq_true rfl, Nat.le_of_ble_eq_true rfl⟩ rfl (Nat.le_of_ble_eq_true rfl) d_X3_copy_9 ?_
    rintro r61 μ60 ⟨hm9, ⟨ks62, rfl⟩ | ⟨ks62, rfl⟩⟩ <;> replace hm9 := hm9.symm <;> subst hm9
    · obtain ⟨u, hu, rfl⟩ := inR_nat (n := 3) (by decide) ks62
      rw [nI_clamp (by omega)]
      have hz_u := hI.2.2.2.2.1 u (by omega)
      refine x_eqst (st' := [.ref (E.1 + (33 + 2 * u))]) rfl ?_
      refine x_astore [(7, .ref (E.1 + (33 + 2 * u))), (6, .null), (0, .ref (E.1 + 0)), (1, .int s), (2, .int f), (3, .int (nI u)), (4, .int d), (5, .int n)] d_X3_copy_12 (Nat.le_of_ble_eq_true rfl) rfl ?_
      refine x_aloadN 1 d_X3_copy_14 rfl ?_
      refine x_ifnullN 24 d_X3_copy_16 (by decide) ?_
      refine x_aload_n 2 d_X3_copy_24 rfl rfl ?_
      refine x_ldc q182 d_X3_copy_25 ?_
      refine x_cvi (k := 0) (as := [.int (-1000001)]) (c_X3_finding l E μ (i := 0) hD (by decide) (w := (-1000001)) (by decide)) v_X3_finding w_X3_finding q183 o_X rfl ⟨Nat.le_of_ble_eq_true rfl, Nat.le_of_ble_eq_true rfl⟩ rfl (Nat.le_of_ble_eq_true rfl) d_X3_copy_27 ?_
      rintro _ μ63 ⟨rfl, hD64, hF65⟩
      have hL66 := PR.cg hL (μ' := μ63) (fun id hid => (hF65 _ (by omega)))
      have hLH67 := hH
      rw [← (show μ63 1 = μ 1 from (hF65 _ (by omega)))] at hLH67
      have hX68 := XR.cg hX (μ' := μ63) (fun id hid => (hF65 _ (by omega)))
      have hF69 : ∀ id, 41 ≤ id → μ63 id = μ id := fun id hid => (show μ63 id = μ id from (hF65 _ (by omega))).trans (hF id hid)
      refine x_iret rfl d_X3_copy_30 ?_
      have e9 : F_copy g s f (nI u) d n = fin g 0 := by simp [F_copy, x_b_f, x_b_t, ks3, ks62, nI_clamp (n := u) (by omega)]
      rw [e9]
      exact ⟨rfl, XS.fin hL66 hLH67 hX68 hD64, hF69⟩
    · skip
      refine x_eqst (st' := [.null]) rfl ?_
      refine x_astoreN [(7, .null), (6, .null), (0, .ref (E.1 + 0)), (1, .int s), (2, .int f), (3, .int t), (4, .int d), (5, .int n)] d_X3_copy_12 (Nat.le_of_ble_eq_true rfl) rfl ?_
      refine x_aloadN 1 d_X3_copy_14 rfl ?_
      refine x_ifnullN 24 d_X3_copy_16 (by decide) ?_
      refine x_aload_n 2 d_X3_copy_24 rfl rfl ?_
      refine x_ldc q182 d_X3_copy_25 ?_
      refine x_cvi (k := 0) (as := [.int (-1000001)]) (c_X3_finding l E μ (i := 0) hD (by decide) (w := (-1000001)) (by decide)) v_X3_finding w_X3_finding q183 o_X rfl ⟨Nat.le_of_ble_eq_true rfl, Nat.le_of_ble_eq_true rfl⟩ rfl (Nat.le_of_ble_eq_true rfl) d_X3_copy_27 ?_
      rintro _ μ70 ⟨rfl, hD71, hF72⟩
      have hL73 := PR.cg hL (μ' := μ70) (fun id hid => (hF72 _ (by omega)))
      have hLH74 := hH
      rw [← (show μ70 1 = μ 1 from (hF72 _ (by omega)))] at hLH74
      have hX75 := XR.cg hX (μ' := μ70) (fun id hid => (hF72 _ (by omega)))
      have hF76 : ∀ id, 41 ≤ id → μ70 id = μ id := fun id hid => (show μ70 id = μ id from (hF72 _ (by omega))).trans (hF id hid)
      refine x_iret rfl d_X3_copy_30 ?_
      have e9 : F_copy g s f t d n = fin g 0 := by simp [F_copy, x_b_f, x_b_t, ks3, ks62]
      rw [e9]
      exact ⟨rfl, XS.fin hL73 hLH74 hX75 hD71, hF76⟩
def m_X3_load : x_M := (yX3_load, prog_1_method_49_code, 5, (some FieldType.int), 1, 26)
theorem v_X3_load : x_VM m_X3_load 1 := ⟨q633, q1, by decide +kernel, by decide +kernel, by decide +kernel⟩
theorem w_X3_load : x_VI m_X3_load := ⟨q631, q632⟩
theorem d_X3_load_0 : x_dec m_X3_load 0 (.aload_n 0) 1 1 := ⟨by decide +kernel, rfl⟩
theorem d_X3_load_1 : x_dec m_X3_load 1 (.iload_n 1) 1 2 := ⟨by decide +kernel, rfl⟩
theorem d_X3_load_2 : x_dec m_X3_load 2 (.invokevirtual 180) 3 5 := ⟨by decide +kernel, rfl⟩
theorem d_X3_load_5 : x_dec m_X3_load 5 (.astore_n 2) 1 6 := ⟨by decide +kernel, rfl⟩
theorem d_X3_load_6 : x_dec m_X3_load 6 (.aload_n 2) 1 7 := ⟨by decide +kernel, rfl⟩
theorem d_X3_load_7 : x_dec m_X3_load 7 (.ifnonnull 10) 3 10 := ⟨by decide +kernel, rfl⟩
theorem d_X3_load_10 : x_dec m_X3_load 10 (.aload_n 0) 1 11 := ⟨by decide +kernel, rfl⟩
theorem d_X3_load_11 : x_dec m_X3_load 11 (.ldc 55) 2 13 := ⟨by decide +kernel, rfl⟩
theorem d_X3_load_13 : x_dec m_X3_load 13 (.invokevirtual 56) 3 16 := ⟨by decide +kernel, rfl⟩
theorem d_X3_load_16 : x_dec m_X3_load 16 (.ireturn) 1 17 := ⟨by decide +kernel, rfl⟩
theorem d_X3_load_17 : x_dec m_X3_load 17 (.aload_n 2) 1 18 := ⟨by decide +kernel, rfl⟩
theorem d_X3_load_18 : x_dec m_X3_load 18 (.getfield 184) 3 21 := ⟨by decide +kernel, rfl⟩
theorem d_X3_load_21 : x_dec m_X3_load 21 (.ifCond .ne 10) 3 24 := ⟨by decide +kernel, rfl⟩
theorem d_X3_load_24 : x_dec m_X3_load 24 (.aload_n 0) 1 25 := ⟨by decide +kernel, rfl⟩
theorem d_X3_load_25 : x_dec m_X3_load 25 (.ldc 187) 2 27 := ⟨by decide +kernel, rfl⟩
theorem d_X3_load_27 : x_dec m_X3_load 27 (.invokevirtual 56) 3 30 := ⟨by decide +kernel, rfl⟩
theorem d_X3_load_30 : x_dec m_X3_load 30 (.ireturn) 1 31 := ⟨by decide +kernel, rfl⟩
theorem d_X3_load_31 : x_dec m_X3_load 31 (.iconst 0) 1 32 := ⟨by decide +kernel, rfl⟩
theorem d_X3_load_32 : x_dec m_X3_load 32 (.istore_n 3) 1 33 := ⟨by decide +kernel, rfl⟩
theorem d_X3_load_33 : x_dec m_X3_load 33 (.aload_n 2) 1 34 := ⟨by decide +kernel, rfl⟩
theorem d_X3_load_34 : x_dec m_X3_load 34 (.getfield 192) 3 37 := ⟨by decide +kernel, rfl⟩
theorem d_X3_load_37 : x_dec m_X3_load 37 (.bipush 16) 2 39 := ⟨by decide +kernel, rfl⟩
theorem d_X3_load_39 : x_dec m_X3_load 39 (.invokestatic 168) 3 42 := ⟨by decide +kernel, rfl⟩
theorem d_X3_load_42 : x_dec m_X3_load 42 (.istore 4) 2 44 := ⟨by decide +kernel, rfl⟩
theorem d_X3_load_44 : x_dec m_X3_load 44 (.iload_n 3) 1 45 := ⟨by decide +kernel, rfl⟩
theorem d_X3_load_45 : x_dec m_X3_load 45 (.iload 4) 2 47 := ⟨by decide +kernel, rfl⟩
theorem d_X3_load_47 : x_dec m_X3_load 47 (.if_icmp .ge 40) 3 50 := ⟨by decide +kernel, rfl⟩
theorem d_X3_load_50 : x_dec m_X3_load 50 (.aload_n 2) 1 51 := ⟨by decide +kernel, rfl⟩
theorem d_X3_load_51 : x_dec m_X3_load 51 (.getfield 195) 3 54 := ⟨by decide +kernel, rfl⟩
theorem d_X3_load_54 : x_dec m_X3_load 54 (.iload_n 3) 1 55 := ⟨by decide +kernel, rfl⟩
theorem d_X3_load_55 : x_dec m_X3_load 55 (.iaload) 1 56 := ⟨by decide +kernel, rfl⟩
theorem d_X3_load_56 : x_dec m_X3_load 56 (.iconst 0) 1 57 := ⟨by decide +kernel, rfl⟩
theorem d_X3_load_57 : x_dec m_X3_load 57 (.sipush 999) 3 60 := ⟨by decide +kernel, rfl⟩
theorem d_X3_load_60 : x_dec m_X3_load 60 (.invokestatic 51) 3 63 := ⟨by decide +kernel, rfl⟩
theorem d_X3_load_63 : x_dec m_X3_load 63 (.ifCond .eq 24) 3 66 := ⟨by decide +kernel, rfl⟩
theorem d_X3_load_66 : x_dec m_X3_load 66 (.aload_n 0) 1 67 := ⟨by decide +kernel, rfl⟩
theorem d_X3_load_67 : x_dec m_X3_load 67 (.getfield 12) 3 70 := ⟨by decide +kernel, rfl⟩
theorem d_X3_load_70 : x_dec m_X3_load 70 (.getfield 60) 3 73 := ⟨by decide +kernel, rfl⟩
theorem d_X3_load_73 : x_dec m_X3_load 73 (.iload_n 3) 1 74 := ⟨by decide +kernel, rfl⟩
theorem d_X3_load_74 : x_dec m_X3_load 74 (.aload_n 2) 1 75 := ⟨by decide +kernel, rfl⟩
theorem d_X3_load_75 : x_dec m_X3_load 75 (.getfield 195) 3 78 := ⟨by decide +kernel, rfl⟩
theorem d_X3_load_78 : x_dec m_X3_load 78 (.iload_n 3) 1 79 := ⟨by decide +kernel, rfl⟩
theorem d_X3_load_79 : x_dec m_X3_load 79 (.iaload) 1 80 := ⟨by decide +kernel, rfl⟩
theorem d_X3_load_80 : x_dec m_X3_load 80 (.iastore) 1 81 := ⟨by decide +kernel, rfl⟩
theorem d_X3_load_81 : x_dec m_X3_load 81 (.iinc 3 1) 3 84 := ⟨by decide +kernel, rfl⟩
theorem d_X3_load_84 : x_dec m_X3_load 84 (.goto (-40)) 3 87 := ⟨by decide +kernel, rfl⟩
theorem d_X3_load_87 : x_dec m_X3_load 87 (.iload_n 3) 1 88 := ⟨by decide +kernel, rfl⟩
theorem d_X3_load_88 : x_dec m_X3_load 88 (.ireturn) 1 89 := ⟨by decide +kernel, rfl⟩
set_option maxHeartbeats 4000000 in
set_option maxRecDepth 100000 in
theorem c_X3_load (l : Launch) (E : x_E) (μ : x_Mem) (g : x_SG) (hS : XS g μ) (hI : Inv g) (s : Int32) : x_Met l m_X3_load E [.ref (E.1 + 0), .int s] μ (x_I (fun z m => z = (F_load g s).1 ∧ XS (F_load g s).2 m ∧ ∀ id, 41 ≤ id → m id = μ id)) := by
  obtain ⟨hL, hH, hX, hD⟩ := hS
  have hWF := hI.1.1
  have hn7 := hWF.2.1
  have hpn := hWF.1
  have hF : ∀ id, 41 ≤ id → μ id = μ id := fun _ _ => rfl
  refine x_enter (lv := [(0, .ref (E.1 + 0)), (1, .int s)]) (by decide +kernel) (Nat.le_of_ble_eq_true rfl) rfl ?_
  refine x_aload_n 0 d_X3_load_0 rfl rfl ?_
  refine x_iload_n 1 d_X3_load_1 rfl rfl ?_
  refine x_cv (k := 0) (as := [.int s]) (c_X3_sheetAt l E μ s) v_X3_sheetAt w_X3_sheetAt q410 o_X rfl ⟨Nat.le_of_ble_eq_true rfl, Nat.le_of_ble_eq_true rfl⟩ rfl (Nat.le_of_ble_eq_true rfl) d_X3_load_2 ?_
  rintro r2 μ1 ⟨hm9, ⟨ks3, rfl⟩ | ⟨ks3, rfl⟩⟩ <;> replace hm9 := hm9.symm <;> subst hm9
  · obtain ⟨y, hy, rfl⟩ := inR_nat (n := 3) (by decide) ks3
    rw [nI_clamp (by omega)]
    have hz_y := hI.2.2.2.2.1 y (by omega)
    refine x_eqst (st' := [.ref (E.1 + (33 + 2 * y))]) rfl ?_
    refine x_astore_n [(2, .ref (E.1 + (33 + 2 * y))), (0, .ref (E.1 + 0)), (1, .int (nI y))] d_X3_load_5 rfl (Nat.le_of_ble_eq_true rfl) rfl ?_
    refine x_aload_n 0 d_X3_load_6 rfl rfl ?_
    refine x_ifnonnull 17 d_X3_load_7 (by decide) ?_
    refine x_aload_n 0 d_X3_load_17 rfl rfl ?_
    refine x_getiV (j := 0) (z := gSb g y) x_c1 (s_kd (x_sqs (i := y) (by omega))) (Nat.le_of_ble_eq_true rfl) q135 (s_n0 (x_sqs (i := y) (by omega))) (hX.2.2.2.2.1 y (by omega)) d_X3_load_18 ?_
    refine x_if_ne 31 d_X3_load_21 (by decide) (fun c4 => ?_) (fun c4 => ?_)
    · skip
      refine x_iconst (x := 0) d_X3_load_31 (by decide) ?_
      refine x_istore_n [(3, .int 0), (2, .ref (E.1 + (33 + 2 * y))), (0, .ref (E.1 + 0)), (1, .int (nI y))] d_X3_load_32 rfl (Nat.le_of_ble_eq_true rfl) rfl ?_
      refine x_aload_n 1 d_X3_load_33 rfl rfl ?_
      refine x_getiV (j := 1) (z := nI (gSz g y)) x_c1 (s_kd (x_sqs (i := y) (by omega))) (Nat.le_of_ble_eq_true rfl) q137 (s_n1 (x_sqs (i := y) (by omega))) (hX.2.2.2.2.2.1 y (by omega)) d_X3_load_34 ?_
      refine x_bipush (x := 16) d_X3_load_37 (by decide) ?_
      refine x_min q401 q204 q205 q7 (Nat.le_of_ble_eq_true rfl) (Nat.le_of_ble_eq_true rfl) d_X3_load_39 ?_
      rw [min16 hz_y]
      refine x_istore [(4, .int (nI (min (gSz g y) 16))), (3, .int 0), (2, .ref (E.1 + (33 + 2 * y))), (0, .ref (E.1 + 0)), (1, .int (nI y))] d_X3_load_42 (Nat.le_of_ble_eq_true rfl) rfl ?_
      have L5 : ∀ k : Nat, k ≤ min (gSz g y) 16 → ∀ μ8 : x_Mem, (PR (loadTo (gA g) (gSn g y) k) 1 μ8) → (μ8 1 11 = gA g 0) → (XR g μ8) → (XD (gF g) μ8) → (∀ id, 41 ≤ id → μ8 id = μ id) → (∀ j, j < k → (!(decide (j < 16) && inR (gSn g y j) 0 999)) = false) → x_G l E m_X3_load (x_mv E m_X3_load (x_I (fun z m => z = (F_load g (nI y)).1 ∧ XS (F_load g (nI y)).2 m ∧ ∀ id, 41 ≤ id → m id = μ id))) μ8 44 [(4, .int (nI (min (gSz g y) 16))), (3, .int (nI k)), (2, .ref (E.1 + (33 + 2 * y))), (0, .ref (E.1 + 0))] [] := by
        refine x_down _ (min (gSz g y) 16) (fun k hi7 ih6 => ?_)
        intro μ8 hL1 hH1 hX1 hD1 hF1 hq
        refine x_iload_n 1 d_X3_load_44 rfl rfl ?_
        refine x_iload 0 d_X3_load_45 rfl ?_
        refine x_icmp_ge 87 d_X3_load_47 (by decide) (fun c9 => ?_) (fun c9 => ?_)
        · skip
          have hN := x_ge (N := min (gSz g y) 16) c9 rfl rfl (by omega) (by omega)
          refine x_iload_n 1 d_X3_load_87 rfl rfl ?_
          refine x_iret rfl d_X3_load_88 ?_
          have e8 := load_f (n := gSz g y) (k := k) (f := fun j => inR (gSn g y j) 0 999) hN (by omega) hq
          have e9 : F_load g (nI y) = (nI k, sA g (loadTo (gA g) (gSn g y) k)) := by simp [F_load, x_b_f, x_b_t, ks3, c4, nI_clamp (n := y) (by omega), shO, e8, -Bool.not_and]
          rw [e9]
          exact ⟨rfl, XS.line hL1 (by rw [load_1]; exact hH1) hX1 hD1, hF1⟩
        · skip
          have hN := x_lt (N := min (gSz g y) 16) c9 rfl rfl (by omega) (by omega)
          refine x_aload_n 2 d_X3_load_50 rfl rfl ?_
          refine x_getr (j := 2) ((33 + 2 * y) + 1) x_c1 (s_kd (x_sqs (i := y) (by omega))) (Nat.le_of_ble_eq_true rfl) q139 (s_f2 (x_sqs (i := y) (by omega))) d_X3_load_51 ?_
          refine x_iload_n 1 d_X3_load_54 rfl rfl ?_
          refine x_ialdN (z := gSn g y k) 40 k (s_k1 (x_sqs (i := y) (by omega))) (s_l1 (x_sqs (i := y) (by omega))) (by omega) (by decide) (hX1.2.2.2.2.2.2 y (by omega) k (by omega)) d_X3_load_55 ?_
          refine x_iconst (x := 0) d_X3_load_56 (by decide) ?_
          refine x_sipush (x := 999) d_X3_load_57 (by decide) ?_
          refine x_csip (as := [.int (gSn g y k), .int 0, .int 999]) (c_X3_isWithin l E μ8 (gSn g y k) 0 999) v_X3_isWithin q180 q179 rfl ⟨Nat.le_of_ble_eq_true rfl, Nat.le_of_ble_eq_true rfl⟩ rfl (Nat.le_of_ble_eq_true rfl) d_X3_load_60 ?_
          refine x_ifb_eq 87 d_X3_load_63 (by decide) (fun c10 => ?_) (fun c10 => ?_)
          · skip
            refine x_iload_n 1 d_X3_load_87 rfl rfl ?_
            refine x_iret rfl d_X3_load_88 ?_
            have e8 := firstN_some (f := (fun j => !(decide (j < 16) && inR (gSn g y j) 0 999))) (n := gSz g y) (i := k) (by omega) (by simp [c10]) hq
            have e9 : F_load g (nI y) = (nI k, sA g (loadTo (gA g) (gSn g y) k)) := by simp [F_load, x_b_f, x_b_t, ks3, c4, nI_clamp (n := y) (by omega), shO, e8, -Bool.not_and]
            rw [e9]
            exact ⟨rfl, XS.line hL1 (by rw [load_1]; exact hH1) hX1 hD1, hF1⟩
          · skip
            refine x_aload_n 3 d_X3_load_66 rfl rfl ?_
            refine x_getr (j := 0) 1 x_c3 rfl (Nat.le_of_ble_eq_true rfl) q147 rfl d_X3_load_67 ?_
            refine x_getr (j := 0) (1 + 1) x_c0 (p_kd x_pr1) (Nat.le_of_ble_eq_true rfl) q32 (p_f0 x_pr1) d_X3_load_70 ?_
            refine x_iload_n 1 d_X3_load_73 rfl rfl ?_
            refine x_aload_n 2 d_X3_load_74 rfl rfl ?_
            refine x_getr (j := 2) ((33 + 2 * y) + 1) x_c1 (s_kd (x_sqs (i := y) (by omega))) (Nat.le_of_ble_eq_true rfl) q139 (s_f2 (x_sqs (i := y) (by omega))) d_X3_load_75 ?_
            refine x_iload_n 1 d_X3_load_78 rfl rfl ?_
            refine x_ialdN (z := gSn g y k) 40 k (s_k1 (x_sqs (i := y) (by omega))) (s_l1 (x_sqs (i := y) (by omega))) (by omega) (by decide) (hX1.2.2.2.2.2.2 y (by omega) k (by omega)) d_X3_load_79 ?_
            refine x_iastNG 16 k (p_k1 x_pr1) (p_l1 x_pr1) (by omega) (by decide) d_X3_load_80 (fun μ11 eμ11 => ?_)
            have hL12 : PR (upd (loadTo (gA g) (gSn g y) k) (8 + k) (gSn g y k)) 1 μ11 := PR.a1 hL1 eμ11 (by omega)
            have hLH13 := hH1
            rw [← (show μ11 1 = μ8 1 from (by rw [eμ11, upd2_ne _ _ _ (by omega)]))] at hLH13
            have hX14 := XR.cg hX1 (μ' := μ11) (fun id hid => (by rw [eμ11, upd2_ne _ _ _ (by omega)]))
            have hD15 := XD.cg hD1 (μ' := μ11) (fun id hid => (by rw [eμ11, upd2_ne _ _ _ (by omega)]))
            have hF16 : ∀ id, 41 ≤ id → μ11 id = μ id := fun id hid => (show μ11 id = μ8 id from (by rw [eμ11, upd2_ne _ _ _ (by omega)])).trans (hF1 id hid)
            refine x_iinc [(3, .int (nI (k + 1))), (4, .int (nI (min (gSz g y) 16))), (2, .ref (E.1 + (33 + 2 * y))), (0, .ref (E.1 + 0))] 1 d_X3_load_81 rfl (x_inc _) (Nat.le_of_ble_eq_true rfl) rfl ?_
            refine x_goto 44 d_X3_load_84 (by decide) ?_
            refine x_lv [1, 0, 2, 3] rfl ?_
            exact ih6 (k + 1) (by omega) (by omega) μ11 (by rw [← load_s]; exact hL12) hLH13 hX14 hD15 hF16 (lt_s hq (by rw [decide_eq_true (show k < 16 by omega), c10]; rfl))
      refine x_lv [0, 1, 2, 3] rfl ?_
      exact L5 0 (by omega) μ (by rw [load_0]; exact hL) hH hX hD hF (fun _ hj => absurd hj (Nat.not_lt_zero _))
    · skip
      refine x_aload_n 1 d_X3_load_24 rfl rfl ?_
      refine x_ldc q414 d_X3_load_25 ?_
      refine x_cvi (k := 0) (as := [.int (-1000006)]) (c_X3_finding l E μ (i := 5) hD (by decide) (w := (-1000006)) (by decide)) v_X3_finding w_X3_finding q183 o_X rfl ⟨Nat.le_of_ble_eq_true rfl, Nat.le_of_ble_eq_true rfl⟩ rfl (Nat.le_of_ble_eq_true rfl) d_X3_load_27 ?_
      rintro _ μ17 ⟨rfl, hD18, hF19⟩
      have hL20 := PR.cg hL (μ' := μ17) (fun id hid => (hF19 _ (by omega)))
      have hLH21 := hH
      rw [← (show μ17 1 = μ 1 from (hF19 _ (by omega)))] at hLH21
      have hX22 := XR.cg hX (μ' := μ17) (fun id hid => (hF19 _ (by omega)))
      have hF23 : ∀ id, 41 ≤ id → μ17 id = μ id := fun id hid => (show μ17 id = μ id from (hF19 _ (by omega))).trans (hF id hid)
      refine x_iret rfl d_X3_load_30 ?_
      have e9 : F_load g (nI y) = fin g 5 := by simp [F_load, x_b_f, x_b_t, ks3, c4, nI_clamp (n := y) (by omega), shO]
      rw [e9]
      exact ⟨rfl, XS.fin hL20 hLH21 hX22 hD18, hF23⟩
  · skip
    refine x_eqst (st' := [.null]) rfl ?_
    refine x_astore_nN [(2, .null), (0, .ref (E.1 + 0)), (1, .int s)] d_X3_load_5 rfl (Nat.le_of_ble_eq_true rfl) rfl ?_
    refine x_aload_nN 0 d_X3_load_6 rfl rfl ?_
    refine x_ifnonnullN d_X3_load_7 ?_
    refine x_aload_n 1 d_X3_load_10 rfl rfl ?_
    refine x_ldc q182 d_X3_load_11 ?_
    refine x_cvi (k := 0) (as := [.int (-1000001)]) (c_X3_finding l E μ (i := 0) hD (by decide) (w := (-1000001)) (by decide)) v_X3_finding w_X3_finding q183 o_X rfl ⟨Nat.le_of_ble_eq_true rfl, Nat.le_of_ble_eq_true rfl⟩ rfl (Nat.le_of_ble_eq_true rfl) d_X3_load_13 ?_
    rintro _ μ24 ⟨rfl, hD25, hF26⟩
    have hL27 := PR.cg hL (μ' := μ24) (fun id hid => (hF26 _ (by omega)))
    have hLH28 := hH
    rw [← (show μ24 1 = μ 1 from (hF26 _ (by omega)))] at hLH28
    have hX29 := XR.cg hX (μ' := μ24) (fun id hid => (hF26 _ (by omega)))
    have hF30 : ∀ id, 41 ≤ id → μ24 id = μ id := fun id hid => (show μ24 id = μ id from (hF26 _ (by omega))).trans (hF id hid)
    refine x_iret rfl d_X3_load_16 ?_
    have e9 : F_load g s = fin g 0 := by simp [F_load, x_b_f, x_b_t, ks3, shO]
    rw [e9]
    exact ⟨rfl, XS.fin hL27 hLH28 hX29 hD25, hF30⟩
def m_X3_firstWrong : x_M := (yX3_firstWrong, prog_1_method_32_code, 6, (some FieldType.int), 5, 118)
theorem v_X3_firstWrong : x_VM m_X3_firstWrong 3 := ⟨q417, q1, by decide +kernel, by decide +kernel, by decide +kernel⟩
theorem d_X3_firstWrong_0 : x_dec m_X3_firstWrong 0 (.iconst 0) 1 1 := ⟨by decide +kernel, rfl⟩
theorem d_X3_firstWrong_1 : x_dec m_X3_firstWrong 1 (.istore_n 3) 1 2 := ⟨by decide +kernel, rfl⟩
theorem d_X3_firstWrong_2 : x_dec m_X3_firstWrong 2 (.iload_n 3) 1 3 := ⟨by decide +kernel, rfl⟩
theorem d_X3_firstWrong_3 : x_dec m_X3_firstWrong 3 (.aload_n 1) 1 4 := ⟨by decide +kernel, rfl⟩
theorem d_X3_firstWrong_4 : x_dec m_X3_firstWrong 4 (.getfield 192) 3 7 := ⟨by decide +kernel, rfl⟩
theorem d_X3_firstWrong_7 : x_dec m_X3_firstWrong 7 (.if_icmp .ge 55) 3 10 := ⟨by decide +kernel, rfl⟩
theorem d_X3_firstWrong_10 : x_dec m_X3_firstWrong 10 (.aload_n 1) 1 11 := ⟨by decide +kernel, rfl⟩
theorem d_X3_firstWrong_11 : x_dec m_X3_firstWrong 11 (.getfield 195) 3 14 := ⟨by decide +kernel, rfl⟩
theorem d_X3_firstWrong_14 : x_dec m_X3_firstWrong 14 (.iload_n 3) 1 15 := ⟨by decide +kernel, rfl⟩
theorem d_X3_firstWrong_15 : x_dec m_X3_firstWrong 15 (.iaload) 1 16 := ⟨by decide +kernel, rfl⟩
theorem d_X3_firstWrong_16 : x_dec m_X3_firstWrong 16 (.istore 4) 2 18 := ⟨by decide +kernel, rfl⟩
theorem d_X3_firstWrong_18 : x_dec m_X3_firstWrong 18 (.iload 4) 2 20 := ⟨by decide +kernel, rfl⟩
theorem d_X3_firstWrong_20 : x_dec m_X3_firstWrong 20 (.aload_n 0) 1 21 := ⟨by decide +kernel, rfl⟩
theorem d_X3_firstWrong_21 : x_dec m_X3_firstWrong 21 (.getfield 99) 3 24 := ⟨by decide +kernel, rfl⟩
theorem d_X3_firstWrong_24 : x_dec m_X3_firstWrong 24 (.if_icmp .eq 13) 3 27 := ⟨by decide +kernel, rfl⟩
theorem d_X3_firstWrong_27 : x_dec m_X3_firstWrong 27 (.iload_n 2) 1 28 := ⟨by decide +kernel, rfl⟩
theorem d_X3_firstWrong_28 : x_dec m_X3_firstWrong 28 (.ifCond .eq 13) 3 31 := ⟨by decide +kernel, rfl⟩
theorem d_X3_firstWrong_31 : x_dec m_X3_firstWrong 31 (.iload 4) 2 33 := ⟨by decide +kernel, rfl⟩
theorem d_X3_firstWrong_33 : x_dec m_X3_firstWrong 33 (.iconst (-1)) 1 34 := ⟨by decide +kernel, rfl⟩
theorem d_X3_firstWrong_34 : x_dec m_X3_firstWrong 34 (.if_icmp .ne 7) 3 37 := ⟨by decide +kernel, rfl⟩
theorem d_X3_firstWrong_37 : x_dec m_X3_firstWrong 37 (.iconst 1) 1 38 := ⟨by decide +kernel, rfl⟩
theorem d_X3_firstWrong_38 : x_dec m_X3_firstWrong 38 (.goto 4) 3 41 := ⟨by decide +kernel, rfl⟩
theorem d_X3_firstWrong_41 : x_dec m_X3_firstWrong 41 (.iconst 0) 1 42 := ⟨by decide +kernel, rfl⟩
theorem d_X3_firstWrong_42 : x_dec m_X3_firstWrong 42 (.istore 5) 2 44 := ⟨by decide +kernel, rfl⟩
theorem d_X3_firstWrong_44 : x_dec m_X3_firstWrong 44 (.iload 5) 2 46 := ⟨by decide +kernel, rfl⟩
theorem d_X3_firstWrong_46 : x_dec m_X3_firstWrong 46 (.ifCond .ne 5) 3 49 := ⟨by decide +kernel, rfl⟩
theorem d_X3_firstWrong_49 : x_dec m_X3_firstWrong 49 (.iload_n 3) 1 50 := ⟨by decide +kernel, rfl⟩
theorem d_X3_firstWrong_50 : x_dec m_X3_firstWrong 50 (.ireturn) 1 51 := ⟨by decide +kernel, rfl⟩
theorem d_X3_firstWrong_51 : x_dec m_X3_firstWrong 51 (.aload_n 0) 1 52 := ⟨by decide +kernel, rfl⟩
theorem d_X3_firstWrong_52 : x_dec m_X3_firstWrong 52 (.invokevirtual 140) 3 55 := ⟨by decide +kernel, rfl⟩
theorem d_X3_firstWrong_55 : x_dec m_X3_firstWrong 55 (.pop) 1 56 := ⟨by decide +kernel, rfl⟩
theorem d_X3_firstWrong_56 : x_dec m_X3_firstWrong 56 (.iinc 3 1) 3 59 := ⟨by decide +kernel, rfl⟩
theorem d_X3_firstWrong_59 : x_dec m_X3_firstWrong 59 (.goto (-57)) 3 62 := ⟨by decide +kernel, rfl⟩
theorem d_X3_firstWrong_62 : x_dec m_X3_firstWrong 62 (.aload_n 1) 1 63 := ⟨by decide +kernel, rfl⟩
theorem d_X3_firstWrong_63 : x_dec m_X3_firstWrong 63 (.getfield 192) 3 66 := ⟨by decide +kernel, rfl⟩
theorem d_X3_firstWrong_66 : x_dec m_X3_firstWrong 66 (.ireturn) 1 67 := ⟨by decide +kernel, rfl⟩
set_option maxHeartbeats 4000000 in
set_option maxRecDepth 100000 in
theorem c_X3_firstWrong (l : Launch) (E : x_E) (μ : x_Mem) {a : x_St} (hT : PR a 10 μ) (hI : WF a) {q n : Nat} (hq4 : q < 4) (hn : μ (33 + 2 * q) 1 = nI n) (hn40 : n ≤ 40) {z : Nat → Int32} (hz : ∀ j, j < 40 → μ (33 + 2 * q + 1) j = z j) (any : Bool) : x_Met l m_X3_firstWrong E [.ref (E.1 + 10), .ref (E.1 + (33 + 2 * q)), .int (x_b any)] μ (x_I (fun r m => r = nI (firstN (fun j => !fitB a z any j) 0 n) ∧ ∀ id, (id < 10 ∨ 19 ≤ id) → m id = μ id)) := by
  have hF : ∀ id, (id < 10 ∨ 19 ≤ id) → μ id = μ id := fun _ _ => rfl
  refine x_enter (lv := [(0, .ref (E.1 + 10)), (1, .ref (E.1 + (33 + 2 * q))), (2, .int (x_b any))]) (by decide +kernel) (Nat.le_of_ble_eq_true rfl) rfl ?_
  refine x_iconst (x := 0) d_X3_firstWrong_0 (by decide) ?_
  refine x_istore_n [(3, .int 0), (0, .ref (E.1 + 10)), (1, .ref (E.1 + (33 + 2 * q))), (2, .int (x_b any))] d_X3_firstWrong_1 rfl (Nat.le_of_ble_eq_true rfl) rfl ?_
  have L1 : ∀ k : Nat, k ≤ n → ∀ μ4 : x_Mem, (PR (hoursF a k) 10 μ4) → (∀ j, j < k → (!fitB a z any j) = false) → (∀ id, (id < 10 ∨ 19 ≤ id) → μ4 id = μ id) → x_G l E m_X3_firstWrong (x_mv E m_X3_firstWrong (x_I (fun r m => r = nI (firstN (fun j => !fitB a z any j) 0 n) ∧ ∀ id, (id < 10 ∨ 19 ≤ id) → m id = μ id))) μ4 2 [(3, .int (nI k)), (0, .ref (E.1 + 10)), (1, .ref (E.1 + (33 + 2 * q))), (2, .int (x_b any))] [] := by
    refine x_down _ n (fun k hi3 ih2 => ?_)
    intro μ4 hT1 hq hF1
    refine x_iload_n 0 d_X3_firstWrong_2 rfl rfl ?_
    refine x_aload_n 2 d_X3_firstWrong_3 rfl rfl ?_
    refine x_getiV (j := 1) (z := nI n) x_c1 (s_kd (x_sqs (i := q) (by omega))) (Nat.le_of_ble_eq_true rfl) q137 (s_n1 (x_sqs (i := q) (by omega))) ((congrFun (hF1 _ (by omega)) 1).trans hn) d_X3_firstWrong_4 ?_
    refine x_icmp_ge 62 d_X3_firstWrong_7 (by decide) (fun c5 => ?_) (fun c5 => ?_)
    · skip
      have hN := x_ge (N := n) c5 rfl rfl (by omega) (by omega)
      refine x_aload_n 2 d_X3_firstWrong_62 rfl rfl ?_
      refine x_getiV (j := 1) (z := nI n) x_c1 (s_kd (x_sqs (i := q) (by omega))) (Nat.le_of_ble_eq_true rfl) q137 (s_n1 (x_sqs (i := q) (by omega))) ((congrFun (hF1 _ (by omega)) 1).trans hn) d_X3_firstWrong_63 ?_
      refine x_iret rfl d_X3_firstWrong_66 ?_
      exact ⟨congrArg nI (firstN_none (fun j hj => hq j (by omega))).symm, hF1⟩
    · skip
      have hN := x_lt (N := n) c5 rfl rfl (by omega) (by omega)
      refine x_aload_n 2 d_X3_firstWrong_10 rfl rfl ?_
      refine x_getr (j := 2) ((33 + 2 * q) + 1) x_c1 (s_kd (x_sqs (i := q) (by omega))) (Nat.le_of_ble_eq_true rfl) q139 (s_f2 (x_sqs (i := q) (by omega))) d_X3_firstWrong_11 ?_
      refine x_iload_n 0 d_X3_firstWrong_14 rfl rfl ?_
      refine x_ialdN (z := z k) 40 k (s_k1 (x_sqs (i := q) (by omega))) (s_l1 (x_sqs (i := q) (by omega))) (by omega) (by decide) ((congrFun (hF1 _ (by omega)) k).trans (hz k (by omega))) d_X3_firstWrong_15 ?_
      refine x_istore [(4, .int (z k)), (3, .int (nI k)), (0, .ref (E.1 + 10)), (1, .ref (E.1 + (33 + 2 * q))), (2, .int (x_b any))] d_X3_firstWrong_16 (Nat.le_of_ble_eq_true rfl) rfl ?_
      refine x_iload 0 d_X3_firstWrong_18 rfl ?_
      refine x_aload_n 2 d_X3_firstWrong_20 rfl rfl ?_
      refine x_getiV (j := 6) (z := (hoursF a k) 1) x_c0 (p_kd x_pr10) (Nat.le_of_ble_eq_true rfl) q47 (p_n6 x_pr10) (PR.f6 hT1) d_X3_firstWrong_21 ?_
      refine x_icmp_eq 37 d_X3_firstWrong_24 (by decide) (fun c6 => ?_) (fun c6 => ?_)
      · skip
        refine x_iconst (x := 1) d_X3_firstWrong_37 (by decide) ?_
        refine x_goto 42 d_X3_firstWrong_38 (by decide) ?_
        refine x_istore [(5, .int 1), (4, .int (z k)), (3, .int (nI k)), (0, .ref (E.1 + 10)), (1, .ref (E.1 + (33 + 2 * q))), (2, .int (x_b any))] d_X3_firstWrong_42 (Nat.le_of_ble_eq_true rfl) rfl ?_
        refine x_iload 0 d_X3_firstWrong_44 rfl ?_
        refine x_if_ne 51 d_X3_firstWrong_46 (by decide) (fun c7 => ?_) (fun c7 => ?_)
        rotate_left
        · exact absurd c7 (by decide)
        refine x_aload_n 3 d_X3_firstWrong_51 rfl rfl ?_
        refine x_cvi (k := 10) (as := []) (c_X0_passHour l E μ4 x_pr10 hT1 (WF.hours hI k) rfl) v_X0_passHour w_X0_passHour q325 (p_ob x_pr10) rfl ⟨Nat.le_of_ble_eq_true rfl, Nat.le_of_ble_eq_true rfl⟩ rfl (Nat.le_of_ble_eq_true rfl) d_X3_firstWrong_52 ?_
        rintro _ μ8 ⟨rfl, hR9, x11, hF10⟩
        have hF12 : ∀ id, (id < 10 ∨ 19 ≤ id) → μ8 id = μ id := fun id hid => (show μ8 id = μ4 id from (hF10 _ (by omega))).trans (hF1 id hid)
        refine x_pop d_X3_firstWrong_55 rfl ?_
        refine x_iinc [(3, .int (nI (k + 1))), (5, .int 1), (4, .int (z k)), (0, .ref (E.1 + 10)), (1, .ref (E.1 + (33 + 2 * q))), (2, .int (x_b any))] 2 d_X3_firstWrong_56 rfl (x_inc _) (Nat.le_of_ble_eq_true rfl) rfl ?_
        refine x_goto 2 d_X3_firstWrong_59 (by decide) ?_
        refine x_lv [0, 3, 4, 5] rfl ?_
        exact ih2 (k + 1) (by omega) (by omega) μ8 hR9 (lt_s hq (fw_1 c6)) hF12
      · skip
        refine x_iload_n 4 d_X3_firstWrong_27 rfl rfl ?_
        refine x_ifb_eq 41 d_X3_firstWrong_28 (by decide) (fun c13 => ?_) (fun c13 => ?_)
        · skip
          refine x_iconst (x := 0) d_X3_firstWrong_41 (by decide) ?_
          refine x_istore [(5, .int 0), (4, .int (z k)), (3, .int (nI k)), (0, .ref (E.1 + 10)), (1, .ref (E.1 + (33 + 2 * q))), (2, .int (x_b any))] d_X3_firstWrong_42 (Nat.le_of_ble_eq_true rfl) rfl ?_
          refine x_iload 0 d_X3_firstWrong_44 rfl ?_
          refine x_if_ne 51 d_X3_firstWrong_46 (by decide) (fun c14 => ?_) (fun c14 => ?_)
          · exact absurd c14 (by decide)
          refine x_iload_n 2 d_X3_firstWrong_49 rfl rfl ?_
          refine x_iret rfl d_X3_firstWrong_50 ?_
          exact ⟨congrArg nI (firstN_some (f := fun j => !fitB a z any j) (n := n) (i := k) (by omega) (fw_3 c6 c13) hq).symm, hF1⟩
        · skip
          refine x_iload 0 d_X3_firstWrong_31 rfl ?_
          refine x_iconst (x := (-1)) d_X3_firstWrong_33 (by decide) ?_
          refine x_icmp_ne 41 d_X3_firstWrong_34 (by decide) (fun c15 => ?_) (fun c15 => ?_)
          · skip
            refine x_iconst (x := 0) d_X3_firstWrong_41 (by decide) ?_
            refine x_istore [(5, .int 0), (4, .int (z k)), (3, .int (nI k)), (0, .ref (E.1 + 10)), (1, .ref (E.1 + (33 + 2 * q))), (2, .int (x_b any))] d_X3_firstWrong_42 (Nat.le_of_ble_eq_true rfl) rfl ?_
            refine x_iload 0 d_X3_firstWrong_44 rfl ?_
            refine x_if_ne 51 d_X3_firstWrong_46 (by decide) (fun c16 => ?_) (fun c16 => ?_)
            · exact absurd c16 (by decide)
            refine x_iload_n 2 d_X3_firstWrong_49 rfl rfl ?_
            refine x_iret rfl d_X3_firstWrong_50 ?_
            exact ⟨congrArg nI (firstN_some (f := fun j => !fitB a z any j) (n := n) (i := k) (by omega) (fw_4 c6 c15) hq).symm, hF1⟩
          · skip
            refine x_iconst (x := 1) d_X3_firstWrong_37 (by decide) ?_
            refine x_goto 42 d_X3_firstWrong_38 (by decide) ?_
            refine x_istore [(5, .int 1), (4, .int (z k)), (3, .int (nI k)), (0, .ref (E.1 + 10)), (1, .ref (E.1 + (33 + 2 * q))), (2, .int (x_b any))] d_X3_firstWrong_42 (Nat.le_of_ble_eq_true rfl) rfl ?_
            refine x_iload 0 d_X3_firstWrong_44 rfl ?_
            refine x_if_ne 51 d_X3_firstWrong_46 (by decide) (fun c17 => ?_) (fun c17 => ?_)
            rotate_left
            · exact absurd c17 (by decide)
            refine x_aload_n 3 d_X3_firstWrong_51 rfl rfl ?_
            refine x_cvi (k := 10) (as := []) (c_X0_passHour l E μ4 x_pr10 hT1 (WF.hours hI k) rfl) v_X0_passHour w_X0_passHour q325 (p_ob x_pr10) rfl ⟨Nat.le_of_ble_eq_true rfl, Nat.le_of_ble_eq_true rfl⟩ rfl (Nat.le_of_ble_eq_true rfl) d_X3_firstWrong_52 ?_
            rintro _ μ18 ⟨rfl, hR19, x21, hF20⟩
            have hF22 : ∀ id, (id < 10 ∨ 19 ≤ id) → μ18 id = μ id := fun id hid => (show μ18 id = μ4 id from (hF20 _ (by omega))).trans (hF1 id hid)
            refine x_pop d_X3_firstWrong_55 rfl ?_
            refine x_iinc [(3, .int (nI (k + 1))), (5, .int 1), (4, .int (z k)), (0, .ref (E.1 + 10)), (1, .ref (E.1 + (33 + 2 * q))), (2, .int (x_b any))] 2 d_X3_firstWrong_56 rfl (x_inc _) (Nat.le_of_ble_eq_true rfl) rfl ?_
            refine x_goto 2 d_X3_firstWrong_59 (by decide) ?_
            refine x_lv [0, 3, 4, 5] rfl ?_
            exact ih2 (k + 1) (by omega) (by omega) μ18 hR19 (lt_s hq (fw_2 c13 c15)) hF22
  exact L1 0 (by omega) μ hT (fun _ hj => absurd hj (Nat.not_lt_zero _)) hF
def m_X3_judge : x_M := (yX3_judge, prog_1_method_50_code, 4, (some FieldType.int), 6, 143)
theorem v_X3_judge : x_VM m_X3_judge 1 := ⟨q637, q1, by decide +kernel, by decide +kernel, by decide +kernel⟩
theorem w_X3_judge : x_VI m_X3_judge := ⟨q635, q636⟩
theorem d_X3_judge_0 : x_dec m_X3_judge 0 (.aload_n 0) 1 1 := ⟨by decide +kernel, rfl⟩
theorem d_X3_judge_1 : x_dec m_X3_judge 1 (.iload_n 1) 1 2 := ⟨by decide +kernel, rfl⟩
theorem d_X3_judge_2 : x_dec m_X3_judge 2 (.invokevirtual 180) 3 5 := ⟨by decide +kernel, rfl⟩
theorem d_X3_judge_5 : x_dec m_X3_judge 5 (.astore_n 2) 1 6 := ⟨by decide +kernel, rfl⟩
theorem d_X3_judge_6 : x_dec m_X3_judge 6 (.aload_n 2) 1 7 := ⟨by decide +kernel, rfl⟩
theorem d_X3_judge_7 : x_dec m_X3_judge 7 (.ifnonnull 10) 3 10 := ⟨by decide +kernel, rfl⟩
theorem d_X3_judge_10 : x_dec m_X3_judge 10 (.aload_n 0) 1 11 := ⟨by decide +kernel, rfl⟩
theorem d_X3_judge_11 : x_dec m_X3_judge 11 (.ldc 55) 2 13 := ⟨by decide +kernel, rfl⟩
theorem d_X3_judge_13 : x_dec m_X3_judge 13 (.invokevirtual 56) 3 16 := ⟨by decide +kernel, rfl⟩
theorem d_X3_judge_16 : x_dec m_X3_judge 16 (.ireturn) 1 17 := ⟨by decide +kernel, rfl⟩
theorem d_X3_judge_17 : x_dec m_X3_judge 17 (.aload_n 2) 1 18 := ⟨by decide +kernel, rfl⟩
theorem d_X3_judge_18 : x_dec m_X3_judge 18 (.getfield 184) 3 21 := ⟨by decide +kernel, rfl⟩
theorem d_X3_judge_21 : x_dec m_X3_judge 21 (.ifCond .ne 10) 3 24 := ⟨by decide +kernel, rfl⟩
theorem d_X3_judge_24 : x_dec m_X3_judge 24 (.aload_n 0) 1 25 := ⟨by decide +kernel, rfl⟩
theorem d_X3_judge_25 : x_dec m_X3_judge 25 (.ldc 187) 2 27 := ⟨by decide +kernel, rfl⟩
theorem d_X3_judge_27 : x_dec m_X3_judge 27 (.invokevirtual 56) 3 30 := ⟨by decide +kernel, rfl⟩
theorem d_X3_judge_30 : x_dec m_X3_judge 30 (.ireturn) 1 31 := ⟨by decide +kernel, rfl⟩
theorem d_X3_judge_31 : x_dec m_X3_judge 31 (.aload_n 0) 1 32 := ⟨by decide +kernel, rfl⟩
theorem d_X3_judge_32 : x_dec m_X3_judge 32 (.getfield 16) 3 35 := ⟨by decide +kernel, rfl⟩
theorem d_X3_judge_35 : x_dec m_X3_judge 35 (.aload_n 0) 1 36 := ⟨by decide +kernel, rfl⟩
theorem d_X3_judge_36 : x_dec m_X3_judge 36 (.getfield 12) 3 39 := ⟨by decide +kernel, rfl⟩
theorem d_X3_judge_39 : x_dec m_X3_judge 39 (.invokevirtual 133) 3 42 := ⟨by decide +kernel, rfl⟩
theorem d_X3_judge_42 : x_dec m_X3_judge 42 (.aload_n 0) 1 43 := ⟨by decide +kernel, rfl⟩
theorem d_X3_judge_43 : x_dec m_X3_judge 43 (.getfield 16) 3 46 := ⟨by decide +kernel, rfl⟩
theorem d_X3_judge_46 : x_dec m_X3_judge 46 (.aload_n 2) 1 47 := ⟨by decide +kernel, rfl⟩
theorem d_X3_judge_47 : x_dec m_X3_judge 47 (.iconst 0) 1 48 := ⟨by decide +kernel, rfl⟩
theorem d_X3_judge_48 : x_dec m_X3_judge 48 (.invokestatic 188) 3 51 := ⟨by decide +kernel, rfl⟩
theorem d_X3_judge_51 : x_dec m_X3_judge 51 (.istore_n 3) 1 52 := ⟨by decide +kernel, rfl⟩
theorem d_X3_judge_52 : x_dec m_X3_judge 52 (.iload_n 3) 1 53 := ⟨by decide +kernel, rfl⟩
theorem d_X3_judge_53 : x_dec m_X3_judge 53 (.aload_n 2) 1 54 := ⟨by decide +kernel, rfl⟩
theorem d_X3_judge_54 : x_dec m_X3_judge 54 (.getfield 192) 3 57 := ⟨by decide +kernel, rfl⟩
theorem d_X3_judge_57 : x_dec m_X3_judge 57 (.if_icmp .ne 7) 3 60 := ⟨by decide +kernel, rfl⟩
theorem d_X3_judge_60 : x_dec m_X3_judge 60 (.iconst 0) 1 61 := ⟨by decide +kernel, rfl⟩
theorem d_X3_judge_61 : x_dec m_X3_judge 61 (.goto 6) 3 64 := ⟨by decide +kernel, rfl⟩
theorem d_X3_judge_64 : x_dec m_X3_judge 64 (.iconst 1) 1 65 := ⟨by decide +kernel, rfl⟩
theorem d_X3_judge_65 : x_dec m_X3_judge 65 (.iload_n 3) 1 66 := ⟨by decide +kernel, rfl⟩
theorem d_X3_judge_66 : x_dec m_X3_judge 66 (.iadd) 1 67 := ⟨by decide +kernel, rfl⟩
theorem d_X3_judge_67 : x_dec m_X3_judge 67 (.ireturn) 1 68 := ⟨by decide +kernel, rfl⟩
set_option maxHeartbeats 4000000 in
set_option maxRecDepth 100000 in
theorem c_X3_judge (l : Launch) (E : x_E) (μ : x_Mem) (g : x_SG) (hS : XS g μ) (hI : Inv g) (s : Int32) : x_Met l m_X3_judge E [.ref (E.1 + 0), .int s] μ (x_I (fun z m => z = (F_judge g s).1 ∧ XS (F_judge g s).2 m ∧ ∀ id, 41 ≤ id → m id = μ id)) := by
  obtain ⟨hL, hH, hX, hD⟩ := hS
  have hWF := hI.1.1
  have hn7 := hWF.2.1
  have hpn := hWF.1
  have hF : ∀ id, 41 ≤ id → μ id = μ id := fun _ _ => rfl
  refine x_enter (lv := [(0, .ref (E.1 + 0)), (1, .int s)]) (by decide +kernel) (Nat.le_of_ble_eq_true rfl) rfl ?_
  refine x_aload_n 0 d_X3_judge_0 rfl rfl ?_
  refine x_iload_n 1 d_X3_judge_1 rfl rfl ?_
  refine x_cv (k := 0) (as := [.int s]) (c_X3_sheetAt l E μ s) v_X3_sheetAt w_X3_sheetAt q410 o_X rfl ⟨Nat.le_of_ble_eq_true rfl, Nat.le_of_ble_eq_true rfl⟩ rfl (Nat.le_of_ble_eq_true rfl) d_X3_judge_2 ?_
  rintro r2 μ1 ⟨hm9, ⟨ks3, rfl⟩ | ⟨ks3, rfl⟩⟩ <;> replace hm9 := hm9.symm <;> subst hm9
  · obtain ⟨y, hy, rfl⟩ := inR_nat (n := 3) (by decide) ks3
    rw [nI_clamp (by omega)]
    have hz_y := hI.2.2.2.2.1 y (by omega)
    refine x_eqst (st' := [.ref (E.1 + (33 + 2 * y))]) rfl ?_
    refine x_astore_n [(2, .ref (E.1 + (33 + 2 * y))), (0, .ref (E.1 + 0)), (1, .int (nI y))] d_X3_judge_5 rfl (Nat.le_of_ble_eq_true rfl) rfl ?_
    refine x_aload_n 0 d_X3_judge_6 rfl rfl ?_
    refine x_ifnonnull 17 d_X3_judge_7 (by decide) ?_
    refine x_aload_n 0 d_X3_judge_17 rfl rfl ?_
    refine x_getiV (j := 0) (z := gSb g y) x_c1 (s_kd (x_sqs (i := y) (by omega))) (Nat.le_of_ble_eq_true rfl) q135 (s_n0 (x_sqs (i := y) (by omega))) (hX.2.2.2.2.1 y (by omega)) d_X3_judge_18 ?_
    refine x_if_ne 31 d_X3_judge_21 (by decide) (fun c4 => ?_) (fun c4 => ?_)
    · skip
      refine x_aload_n 1 d_X3_judge_31 rfl rfl ?_
      refine x_getr (j := 1) 10 x_c3 rfl (Nat.le_of_ble_eq_true rfl) q148 rfl d_X3_judge_32 ?_
      refine x_aload_n 1 d_X3_judge_35 rfl rfl ?_
      refine x_getr (j := 0) 1 x_c3 rfl (Nat.le_of_ble_eq_true rfl) q147 rfl d_X3_judge_36 ?_
      refine x_cvv (k := 10) (as := [.ref (E.1 + 1)]) (c_X0_becomes l E μ x_pr10 x_pr1 (by decide) hL hH) v_X0_becomes w_X0_becomes q309 (p_ob x_pr10) rfl ⟨Nat.le_of_ble_eq_true rfl, Nat.le_of_ble_eq_true rfl⟩ rfl (Nat.le_of_ble_eq_true rfl) d_X3_judge_39 ?_
      rintro μ5 ⟨hT6, hTH7, hF8⟩
      have hL9 := PR.cg hL (μ' := μ5) (fun id hid => (hF8 _ (by omega)))
      have hLH10 := hH
      rw [← (show μ5 1 = μ 1 from (hF8 _ (by omega)))] at hLH10
      have hX11 := XR.cg hX (μ' := μ5) (fun id hid => (hF8 _ (by omega)))
      have hD12 := XD.cg hD (μ' := μ5) (fun id hid => (hF8 _ (by omega)))
      have hF13 : ∀ id, 41 ≤ id → μ5 id = μ id := fun id hid => (show μ5 id = μ id from (hF8 _ (by omega))).trans (hF id hid)
      refine x_aload_n 1 d_X3_judge_42 rfl rfl ?_
      refine x_getr (j := 1) 10 x_c3 rfl (Nat.le_of_ble_eq_true rfl) q148 rfl d_X3_judge_43 ?_
      refine x_aload_n 0 d_X3_judge_46 rfl rfl ?_
      refine x_iconst (x := 0) d_X3_judge_47 (by decide) ?_
      refine x_csi (as := [.ref (E.1 + 10), .ref (E.1 + (33 + 2 * y)), .int (x_b false)]) (c_X3_firstWrong l E μ5 (a := gA g) hT6 hWF (q := y) (by omega) (hX11.2.2.2.2.2.1 y (by omega)) hz_y (hX11.2.2.2.2.2.2 y (by omega)) false) v_X3_firstWrong q416 q415 rfl ⟨Nat.le_of_ble_eq_true rfl, Nat.le_of_ble_eq_true rfl⟩ rfl (Nat.le_of_ble_eq_true rfl) d_X3_judge_48 ?_
      rintro _ μ14 ⟨rfl, hF15⟩
      have hL16 := PR.cg hL9 (μ' := μ14) (fun id hid => (hF15 _ (by omega)))
      have hLH17 := hLH10
      rw [← (show μ14 1 = μ5 1 from (hF15 _ (by omega)))] at hLH17
      have hX18 := XR.cg hX11 (μ' := μ14) (fun id hid => (hF15 _ (by omega)))
      have hD19 := XD.cg hD12 (μ' := μ14) (fun id hid => (hF15 _ (by omega)))
      have hF20 : ∀ id, 41 ≤ id → μ14 id = μ id := fun id hid => (show μ14 id = μ5 id from (hF15 _ (by omega))).trans (hF13 id hid)
      refine x_istore_n [(3, .int (nI (firstN (fun j => !fitB (gA g) (gSn g y) false j) 0 (gSz g y)))), (2, .ref (E.1 + (33 + 2 * y))), (0, .ref (E.1 + 0)), (1, .int (nI y))] d_X3_judge_51 rfl (Nat.le_of_ble_eq_true rfl) rfl ?_
      refine x_iload_n 0 d_X3_judge_52 rfl rfl ?_
      refine x_aload_n 1 d_X3_judge_53 rfl rfl ?_
      refine x_getiV (j := 1) (z := nI (gSz g y)) x_c1 (s_kd (x_sqs (i := y) (by omega))) (Nat.le_of_ble_eq_true rfl) q137 (s_n1 (x_sqs (i := y) (by omega))) (hX18.2.2.2.2.2.1 y (by omega)) d_X3_judge_54 ?_
      refine x_icmp_ne 64 d_X3_judge_57 (by decide) (fun c21 => ?_) (fun c21 => ?_)
      · skip
        refine x_iconst (x := 1) d_X3_judge_64 (by decide) ?_
        refine x_iload_n 0 d_X3_judge_65 rfl rfl ?_
        refine x_iadd d_X3_judge_66 ?_
        refine x_iret rfl d_X3_judge_67 ?_
        have hj := judge_f hz_y c21
        have e9 : F_judge g (nI y) = (1 + (nI (firstN (fun j => !fitB (gA g) (gSn g y) false j) 0 (gSz g y))), g) := by simp [F_judge, x_b_f, x_b_t, ks3, c4, nI_clamp (n := y) (by omega), shO, hj, Int32.add_comm]
        rw [e9]
        exact ⟨rfl, ⟨hL16, hLH17, hX18, hD19⟩, hF20⟩
      · skip
        refine x_iconst (x := 0) d_X3_judge_60 (by decide) ?_
        refine x_goto 67 d_X3_judge_61 (by decide) ?_
        refine x_iret rfl d_X3_judge_67 ?_
        have hj := judge_t hz_y c21
        have e9 : F_judge g (nI y) = (0, g) := by simp [F_judge, x_b_f, x_b_t, ks3, c4, nI_clamp (n := y) (by omega), shO, hj, Int32.add_comm]
        rw [e9]
        exact ⟨rfl, ⟨hL16, hLH17, hX18, hD19⟩, hF20⟩
    · skip
      refine x_aload_n 1 d_X3_judge_24 rfl rfl ?_
      refine x_ldc q414 d_X3_judge_25 ?_
      refine x_cvi (k := 0) (as := [.int (-1000006)]) (c_X3_finding l E μ (i := 5) hD (by decide) (w := (-1000006)) (by decide)) v_X3_finding w_X3_finding q183 o_X rfl ⟨Nat.le_of_ble_eq_true rfl, Nat.le_of_ble_eq_true rfl⟩ rfl (Nat.le_of_ble_eq_true rfl) d_X3_judge_27 ?_
      rintro _ μ22 ⟨rfl, hD23, hF24⟩
      have hL25 := PR.cg hL (μ' := μ22) (fun id hid => (hF24 _ (by omega)))
      have hLH26 := hH
      rw [← (show μ22 1 = μ 1 from (hF24 _ (by omega)))] at hLH26
      have hX27 := XR.cg hX (μ' := μ22) (fun id hid => (hF24 _ (by omega)))
      have hF28 : ∀ id, 41 ≤ id → μ22 id = μ id := fun id hid => (show μ22 id = μ id from (hF24 _ (by omega))).trans (hF id hid)
      refine x_iret rfl d_X3_judge_30 ?_
      have e9 : F_judge g (nI y) = fin g 5 := by simp [F_judge, x_b_f, x_b_t, ks3, c4, nI_clamp (n := y) (by omega), shO]
      rw [e9]
      exact ⟨rfl, XS.fin hL25 hLH26 hX27 hD23, hF28⟩
  · skip
    refine x_eqst (st' := [.null]) rfl ?_
    refine x_astore_nN [(2, .null), (0, .ref (E.1 + 0)), (1, .int s)] d_X3_judge_5 rfl (Nat.le_of_ble_eq_true rfl) rfl ?_
    refine x_aload_nN 0 d_X3_judge_6 rfl rfl ?_
    refine x_ifnonnullN d_X3_judge_7 ?_
    refine x_aload_n 1 d_X3_judge_10 rfl rfl ?_
    refine x_ldc q182 d_X3_judge_11 ?_
    refine x_cvi (k := 0) (as := [.int (-1000001)]) (c_X3_finding l E μ (i := 0) hD (by decide) (w := (-1000001)) (by decide)) v_X3_finding w_X3_finding q183 o_X rfl ⟨Nat.le_of_ble_eq_true rfl, Nat.le_of_ble_eq_true rfl⟩ rfl (Nat.le_of_ble_eq_true rfl) d_X3_judge_13 ?_
    rintro _ μ29 ⟨rfl, hD30, hF31⟩
    have hL32 := PR.cg hL (μ' := μ29) (fun id hid => (hF31 _ (by omega)))
    have hLH33 := hH
    rw [← (show μ29 1 = μ 1 from (hF31 _ (by omega)))] at hLH33
    have hX34 := XR.cg hX (μ' := μ29) (fun id hid => (hF31 _ (by omega)))
    have hF35 : ∀ id, 41 ≤ id → μ29 id = μ id := fun id hid => (show μ29 id = μ id from (hF31 _ (by omega))).trans (hF id hid)
    refine x_iret rfl d_X3_judge_16 ?_
    have e9 : F_judge g s = fin g 0 := by simp [F_judge, x_b_f, x_b_t, ks3, shO]
    rw [e9]
    exact ⟨rfl, XS.fin hL32 hLH33 hX34 hD30, hF35⟩
def m_X3_kinds : x_M := (yX3_kinds, prog_1_method_29_code, 6, (some FieldType.int), 6, 143)
theorem v_X3_kinds : x_VM m_X3_kinds 2 := ⟨q409, q1, by decide +kernel, by decide +kernel, by decide +kernel⟩
theorem w_X3_kinds : x_VI m_X3_kinds := ⟨q407, q408⟩
theorem d_X3_kinds_0 : x_dec m_X3_kinds 0 (.aload_n 0) 1 1 := ⟨by decide +kernel, rfl⟩
theorem d_X3_kinds_1 : x_dec m_X3_kinds 1 (.iload_n 1) 1 2 := ⟨by decide +kernel, rfl⟩
theorem d_X3_kinds_2 : x_dec m_X3_kinds 2 (.invokevirtual 180) 3 5 := ⟨by decide +kernel, rfl⟩
theorem d_X3_kinds_5 : x_dec m_X3_kinds 5 (.astore_n 3) 1 6 := ⟨by decide +kernel, rfl⟩
theorem d_X3_kinds_6 : x_dec m_X3_kinds 6 (.aload_n 3) 1 7 := ⟨by decide +kernel, rfl⟩
theorem d_X3_kinds_7 : x_dec m_X3_kinds 7 (.ifnonnull 10) 3 10 := ⟨by decide +kernel, rfl⟩
theorem d_X3_kinds_10 : x_dec m_X3_kinds 10 (.aload_n 0) 1 11 := ⟨by decide +kernel, rfl⟩
theorem d_X3_kinds_11 : x_dec m_X3_kinds 11 (.ldc 55) 2 13 := ⟨by decide +kernel, rfl⟩
theorem d_X3_kinds_13 : x_dec m_X3_kinds 13 (.invokevirtual 56) 3 16 := ⟨by decide +kernel, rfl⟩
theorem d_X3_kinds_16 : x_dec m_X3_kinds 16 (.ireturn) 1 17 := ⟨by decide +kernel, rfl⟩
theorem d_X3_kinds_17 : x_dec m_X3_kinds 17 (.aload_n 3) 1 18 := ⟨by decide +kernel, rfl⟩
theorem d_X3_kinds_18 : x_dec m_X3_kinds 18 (.getfield 184) 3 21 := ⟨by decide +kernel, rfl⟩
theorem d_X3_kinds_21 : x_dec m_X3_kinds 21 (.ifCond .ne 10) 3 24 := ⟨by decide +kernel, rfl⟩
theorem d_X3_kinds_24 : x_dec m_X3_kinds 24 (.aload_n 0) 1 25 := ⟨by decide +kernel, rfl⟩
theorem d_X3_kinds_25 : x_dec m_X3_kinds 25 (.ldc 187) 2 27 := ⟨by decide +kernel, rfl⟩
theorem d_X3_kinds_27 : x_dec m_X3_kinds 27 (.invokevirtual 56) 3 30 := ⟨by decide +kernel, rfl⟩
theorem d_X3_kinds_30 : x_dec m_X3_kinds 30 (.ireturn) 1 31 := ⟨by decide +kernel, rfl⟩
theorem d_X3_kinds_31 : x_dec m_X3_kinds 31 (.aload_n 0) 1 32 := ⟨by decide +kernel, rfl⟩
theorem d_X3_kinds_32 : x_dec m_X3_kinds 32 (.iload_n 2) 1 33 := ⟨by decide +kernel, rfl⟩
theorem d_X3_kinds_33 : x_dec m_X3_kinds 33 (.invokevirtual 81) 3 36 := ⟨by decide +kernel, rfl⟩
theorem d_X3_kinds_36 : x_dec m_X3_kinds 36 (.ifCond .ne 10) 3 39 := ⟨by decide +kernel, rfl⟩
theorem d_X3_kinds_39 : x_dec m_X3_kinds 39 (.aload_n 0) 1 40 := ⟨by decide +kernel, rfl⟩
theorem d_X3_kinds_40 : x_dec m_X3_kinds 40 (.ldc 55) 2 42 := ⟨by decide +kernel, rfl⟩
theorem d_X3_kinds_42 : x_dec m_X3_kinds 42 (.invokevirtual 56) 3 45 := ⟨by decide +kernel, rfl⟩
theorem d_X3_kinds_45 : x_dec m_X3_kinds 45 (.ireturn) 1 46 := ⟨by decide +kernel, rfl⟩
theorem d_X3_kinds_46 : x_dec m_X3_kinds 46 (.iconst 0) 1 47 := ⟨by decide +kernel, rfl⟩
theorem d_X3_kinds_47 : x_dec m_X3_kinds 47 (.istore 4) 2 49 := ⟨by decide +kernel, rfl⟩
theorem d_X3_kinds_49 : x_dec m_X3_kinds 49 (.iconst 0) 1 50 := ⟨by decide +kernel, rfl⟩
theorem d_X3_kinds_50 : x_dec m_X3_kinds 50 (.istore 5) 2 52 := ⟨by decide +kernel, rfl⟩
theorem d_X3_kinds_52 : x_dec m_X3_kinds 52 (.iload 5) 2 54 := ⟨by decide +kernel, rfl⟩
theorem d_X3_kinds_54 : x_dec m_X3_kinds 54 (.bipush 7) 2 56 := ⟨by decide +kernel, rfl⟩
theorem d_X3_kinds_56 : x_dec m_X3_kinds 56 (.if_icmp .ge 56) 3 59 := ⟨by decide +kernel, rfl⟩
theorem d_X3_kinds_59 : x_dec m_X3_kinds 59 (.aload_n 0) 1 60 := ⟨by decide +kernel, rfl⟩
theorem d_X3_kinds_60 : x_dec m_X3_kinds 60 (.getfield 16) 3 63 := ⟨by decide +kernel, rfl⟩
theorem d_X3_kinds_63 : x_dec m_X3_kinds 63 (.aload_n 0) 1 64 := ⟨by decide +kernel, rfl⟩
theorem d_X3_kinds_64 : x_dec m_X3_kinds 64 (.getfield 12) 3 67 := ⟨by decide +kernel, rfl⟩
theorem d_X3_kinds_67 : x_dec m_X3_kinds 67 (.invokevirtual 133) 3 70 := ⟨by decide +kernel, rfl⟩
theorem d_X3_kinds_70 : x_dec m_X3_kinds 70 (.aload_n 0) 1 71 := ⟨by decide +kernel, rfl⟩
theorem d_X3_kinds_71 : x_dec m_X3_kinds 71 (.getfield 16) 3 74 := ⟨by decide +kernel, rfl⟩
theorem d_X3_kinds_74 : x_dec m_X3_kinds 74 (.getfield 84) 3 77 := ⟨by decide +kernel, rfl⟩
theorem d_X3_kinds_77 : x_dec m_X3_kinds 77 (.iload_n 2) 1 78 := ⟨by decide +kernel, rfl⟩
theorem d_X3_kinds_78 : x_dec m_X3_kinds 78 (.iload 5) 2 80 := ⟨by decide +kernel, rfl⟩
theorem d_X3_kinds_80 : x_dec m_X3_kinds 80 (.iastore) 1 81 := ⟨by decide +kernel, rfl⟩
theorem d_X3_kinds_81 : x_dec m_X3_kinds 81 (.aload_n 0) 1 82 := ⟨by decide +kernel, rfl⟩
theorem d_X3_kinds_82 : x_dec m_X3_kinds 82 (.getfield 16) 3 85 := ⟨by decide +kernel, rfl⟩
theorem d_X3_kinds_85 : x_dec m_X3_kinds 85 (.aload_n 3) 1 86 := ⟨by decide +kernel, rfl⟩
theorem d_X3_kinds_86 : x_dec m_X3_kinds 86 (.iconst 1) 1 87 := ⟨by decide +kernel, rfl⟩
theorem d_X3_kinds_87 : x_dec m_X3_kinds 87 (.invokestatic 188) 3 90 := ⟨by decide +kernel, rfl⟩
theorem d_X3_kinds_90 : x_dec m_X3_kinds 90 (.aload_n 3) 1 91 := ⟨by decide +kernel, rfl⟩
theorem d_X3_kinds_91 : x_dec m_X3_kinds 91 (.getfield 192) 3 94 := ⟨by decide +kernel, rfl⟩
theorem d_X3_kinds_94 : x_dec m_X3_kinds 94 (.if_icmp .ne 12) 3 97 := ⟨by decide +kernel, rfl⟩
theorem d_X3_kinds_97 : x_dec m_X3_kinds 97 (.iload 4) 2 99 := ⟨by decide +kernel, rfl⟩
theorem d_X3_kinds_99 : x_dec m_X3_kinds 99 (.iconst 1) 1 100 := ⟨by decide +kernel, rfl⟩
theorem d_X3_kinds_100 : x_dec m_X3_kinds 100 (.iload 5) 2 102 := ⟨by decide +kernel, rfl⟩
theorem d_X3_kinds_102 : x_dec m_X3_kinds 102 (.ishl) 1 103 := ⟨by decide +kernel, rfl⟩
theorem d_X3_kinds_103 : x_dec m_X3_kinds 103 (.ior) 1 104 := ⟨by decide +kernel, rfl⟩
theorem d_X3_kinds_104 : x_dec m_X3_kinds 104 (.istore 4) 2 106 := ⟨by decide +kernel, rfl⟩
theorem d_X3_kinds_106 : x_dec m_X3_kinds 106 (.iinc 5 1) 3 109 := ⟨by decide +kernel, rfl⟩
theorem d_X3_kinds_109 : x_dec m_X3_kinds 109 (.goto (-57)) 3 112 := ⟨by decide +kernel, rfl⟩
theorem d_X3_kinds_112 : x_dec m_X3_kinds 112 (.iload 4) 2 114 := ⟨by decide +kernel, rfl⟩
theorem d_X3_kinds_114 : x_dec m_X3_kinds 114 (.ireturn) 1 115 := ⟨by decide +kernel, rfl⟩
set_option maxHeartbeats 4000000 in
set_option maxRecDepth 100000 in
theorem c_X3_kinds (l : Launch) (E : x_E) (μ : x_Mem) (g : x_SG) (hS : XS g μ) (hI : Inv g) (s p : Int32) : x_Met l m_X3_kinds E [.ref (E.1 + 0), .int s, .int p] μ (x_I (fun z m => z = (F_kinds g s p).1 ∧ XS (F_kinds g s p).2 m ∧ ∀ id, 41 ≤ id → m id = μ id)) := by
  obtain ⟨hL, hH, hX, hD⟩ := hS
  have hWF := hI.1.1
  have hn7 := hWF.2.1
  have hpn := hWF.1
  have hF : ∀ id, 41 ≤ id → μ id = μ id := fun _ _ => rfl
  refine x_enter (lv := [(0, .ref (E.1 + 0)), (1, .int s), (2, .int p)]) (by decide +kernel) (Nat.le_of_ble_eq_true rfl) rfl ?_
  refine x_aload_n 0 d_X3_kinds_0 rfl rfl ?_
  refine x_iload_n 1 d_X3_kinds_1 rfl rfl ?_
  refine x_cv (k := 0) (as := [.int s]) (c_X3_sheetAt l E μ s) v_X3_sheetAt w_X3_sheetAt q410 o_X rfl ⟨Nat.le_of_ble_eq_true rfl, Nat.le_of_ble_eq_true rfl⟩ rfl (Nat.le_of_ble_eq_true rfl) d_X3_kinds_2 ?_
  rintro r2 μ1 ⟨hm9, ⟨ks3, rfl⟩ | ⟨ks3, rfl⟩⟩ <;> replace hm9 := hm9.symm <;> subst hm9
  · obtain ⟨y, hy, rfl⟩ := inR_nat (n := 3) (by decide) ks3
    rw [nI_clamp (by omega)]
    have hz_y := hI.2.2.2.2.1 y (by omega)
    refine x_eqst (st' := [.ref (E.1 + (33 + 2 * y))]) rfl ?_
    refine x_astore_n [(3, .ref (E.1 + (33 + 2 * y))), (0, .ref (E.1 + 0)), (1, .int (nI y)), (2, .int p)] d_X3_kinds_5 rfl (Nat.le_of_ble_eq_true rfl) rfl ?_
    refine x_aload_n 0 d_X3_kinds_6 rfl rfl ?_
    refine x_ifnonnull 17 d_X3_kinds_7 (by decide) ?_
    refine x_aload_n 0 d_X3_kinds_17 rfl rfl ?_
    refine x_getiV (j := 0) (z := gSb g y) x_c1 (s_kd (x_sqs (i := y) (by omega))) (Nat.le_of_ble_eq_true rfl) q135 (s_n0 (x_sqs (i := y) (by omega))) (hX.2.2.2.2.1 y (by omega)) d_X3_kinds_18 ?_
    refine x_if_ne 31 d_X3_kinds_21 (by decide) (fun c4 => ?_) (fun c4 => ?_)
    · skip
      refine x_aload_n 1 d_X3_kinds_31 rfl rfl ?_
      refine x_iload_n 3 d_X3_kinds_32 rfl rfl ?_
      refine x_cvip (k := 0) (as := [.int p]) (c_X3_isPerson l E μ hL p) v_X3_isPerson w_X3_isPerson q234 o_X rfl ⟨Nat.le_of_ble_eq_true rfl, Nat.le_of_ble_eq_true rfl⟩ rfl (Nat.le_of_ble_eq_true rfl) d_X3_kinds_33 ?_
      refine x_ifb_ne 46 d_X3_kinds_36 (by decide) (fun c5 => ?_) (fun c5 => ?_)
      · skip
        obtain ⟨q, hq, rfl⟩ := isP_nat hWF c5
        refine x_iconst (x := 0) d_X3_kinds_46 (by decide) ?_
        refine x_istore [(4, .int 0), (3, .ref (E.1 + (33 + 2 * y))), (0, .ref (E.1 + 0)), (1, .int (nI y)), (2, .int (nI q))] d_X3_kinds_47 (Nat.le_of_ble_eq_true rfl) rfl ?_
        refine x_iconst (x := 0) d_X3_kinds_49 (by decide) ?_
        refine x_istore [(5, .int 0), (4, .int 0), (3, .ref (E.1 + (33 + 2 * y))), (0, .ref (E.1 + 0)), (1, .int (nI y)), (2, .int (nI q))] d_X3_kinds_50 (Nat.le_of_ble_eq_true rfl) rfl ?_
        have L6 : ∀ k : Nat, k ≤ 7 → ∀ r : Int32, ∀ μ9 : x_Mem, (r = setTo (fun k => fitsB (upd (gA g) (24 + 3 * q) (nI k)) (gSn g y) true (gSz g y)) k) → (PR (gA g) 1 μ9) → (μ9 1 11 = gA g 0) → (XR g μ9) → (XD (gF g) μ9) → (∀ id, 41 ≤ id → μ9 id = μ id) → x_G l E m_X3_kinds (x_mv E m_X3_kinds (x_I (fun z m => z = (F_kinds g (nI y) (nI q)).1 ∧ XS (F_kinds g (nI y) (nI q)).2 m ∧ ∀ id, 41 ≤ id → m id = μ id))) μ9 52 [(5, .int (nI k)), (4, .int r), (3, .ref (E.1 + (33 + 2 * y))), (0, .ref (E.1 + 0)), (1, .int (nI y)), (2, .int (nI q))] [] := by
          refine x_down _ 7 (fun k hi8 ih7 => ?_)
          intro r μ9 hr hL1 hH1 hX1 hD1 hF1
          refine x_iload 0 d_X3_kinds_52 rfl ?_
          refine x_bipush (x := 7) d_X3_kinds_54 (by decide) ?_
          refine x_icmp_ge 112 d_X3_kinds_56 (by decide) (fun c10 => ?_) (fun c10 => ?_)
          · skip
            have hN := x_ge (N := 7) c10 rfl rfl (by omega) (by omega)
            refine x_iload 1 d_X3_kinds_112 rfl ?_
            refine x_iret rfl d_X3_kinds_114 ?_
            have e7 : k = 7 := by omega
            subst e7
            subst hr
            have e9 : F_kinds g (nI y) (nI q) = (setTo (fun k => fitsB (upd (gA g) (24 + 3 * q) (nI k)) (gSn g y) true (gSz g y)) 7, g) := by simp [F_kinds, x_b_f, x_b_t, ks3, c4, c5, nI_clamp (n := y) (by omega), nI_clamp (n := q) (by omega), shO]
            rw [e9]
            exact ⟨rfl, ⟨hL1, hH1, hX1, hD1⟩, hF1⟩
          · skip
            have hN := x_lt (N := 7) c10 rfl rfl (by omega) (by omega)
            refine x_aload_n 3 d_X3_kinds_59 rfl rfl ?_
            refine x_getr (j := 1) 10 x_c3 rfl (Nat.le_of_ble_eq_true rfl) q148 rfl d_X3_kinds_60 ?_
            refine x_aload_n 3 d_X3_kinds_63 rfl rfl ?_
            refine x_getr (j := 0) 1 x_c3 rfl (Nat.le_of_ble_eq_true rfl) q147 rfl d_X3_kinds_64 ?_
            refine x_cvv (k := 10) (as := [.ref (E.1 + 1)]) (c_X0_becomes l E μ9 x_pr10 x_pr1 (by decide) hL1 hH1) v_X0_becomes w_X0_becomes q309 (p_ob x_pr10) rfl ⟨Nat.le_of_ble_eq_true rfl, Nat.le_of_ble_eq_true rfl⟩ rfl (Nat.le_of_ble_eq_true rfl) d_X3_kinds_67 ?_
            rintro μ11 ⟨hT12, hTH13, hF14⟩
            have hL15 := PR.cg hL1 (μ' := μ11) (fun id hid => (hF14 _ (by omega)))
            have hLH16 := hH1
            rw [← (show μ11 1 = μ9 1 from (hF14 _ (by omega)))] at hLH16
            have hX17 := XR.cg hX1 (μ' := μ11) (fun id hid => (hF14 _ (by omega)))
            have hD18 := XD.cg hD1 (μ' := μ11) (fun id hid => (hF14 _ (by omega)))
            have hF19 : ∀ id, 41 ≤ id → μ11 id = μ id := fun id hid => (show μ11 id = μ9 id from (hF14 _ (by omega))).trans (hF1 id hid)
            refine x_aload_n 3 d_X3_kinds_70 rfl rfl ?_
            refine x_getr (j := 1) 10 x_c3 rfl (Nat.le_of_ble_eq_true rfl) q148 rfl d_X3_kinds_71 ?_
            refine x_getr (j := 1) (10 + 2) x_c0 (p_kd x_pr10) (Nat.le_of_ble_eq_true rfl) q35 (p_f1 x_pr10) d_X3_kinds_74 ?_
            refine x_iload_n 5 d_X3_kinds_77 rfl rfl ?_
            refine x_iload 0 d_X3_kinds_78 rfl ?_
            refine x_iastNG 8 q (p_k2 x_pr10) (p_l2 x_pr10) (by omega) (by decide) d_X3_kinds_80 (fun μ20 eμ20 => ?_)
            have hT21 : PR (upd (gA g) (24 + 3 * q) (nI k)) 10 μ20 := PR.a2 hT12 eμ20 (by omega)
            have hL22 := PR.cg hL15 (μ' := μ20) (fun id hid => (by rw [eμ20, upd2_ne _ _ _ (by omega)]))
            have hLH23 := hLH16
            rw [← (show μ20 1 = μ11 1 from (by rw [eμ20, upd2_ne _ _ _ (by omega)]))] at hLH23
            have hX24 := XR.cg hX17 (μ' := μ20) (fun id hid => (by rw [eμ20, upd2_ne _ _ _ (by omega)]))
            have hD25 := XD.cg hD18 (μ' := μ20) (fun id hid => (by rw [eμ20, upd2_ne _ _ _ (by omega)]))
            have hF26 : ∀ id, 41 ≤ id → μ20 id = μ id := fun id hid => (show μ20 id = μ11 id from (by rw [eμ20, upd2_ne _ _ _ (by omega)])).trans (hF19 id hid)
            have hTH27 := hTH13
            rw [← (show μ20 10 = μ11 10 from (by rw [eμ20, upd2_ne _ _ _ (by omega)]))] at hTH27
            refine x_aload_n 3 d_X3_kinds_81 rfl rfl ?_
            refine x_getr (j := 1) 10 x_c3 rfl (Nat.le_of_ble_eq_true rfl) q148 rfl d_X3_kinds_82 ?_
            refine x_aload_n 2 d_X3_kinds_85 rfl rfl ?_
            refine x_iconst (x := 1) d_X3_kinds_86 (by decide) ?_
            refine x_csi (as := [.ref (E.1 + 10), .ref (E.1 + (33 + 2 * y)), .int (x_b true)]) (c_X3_firstWrong l E μ20 (a := (upd (gA g) (24 + 3 * q) (nI k))) hT21 (hWF.upK (k := k) (by omega) (by omega)) (q := y) (by omega) (hX24.2.2.2.2.2.1 y (by omega)) hz_y (hX24.2.2.2.2.2.2 y (by omega)) true) v_X3_firstWrong q416 q415 rfl ⟨Nat.le_of_ble_eq_true rfl, Nat.le_of_ble_eq_true rfl⟩ rfl (Nat.le_of_ble_eq_true rfl) d_X3_kinds_87 ?_
            rintro _ μ28 ⟨rfl, hF29⟩
            have hL30 := PR.cg hL22 (μ' := μ28) (fun id hid => (hF29 _ (by omega)))
            have hLH31 := hLH23
            rw [← (show μ28 1 = μ20 1 from (hF29 _ (by omega)))] at hLH31
            have hX32 := XR.cg hX24 (μ' := μ28) (fun id hid => (hF29 _ (by omega)))
            have hD33 := XD.cg hD25 (μ' := μ28) (fun id hid => (hF29 _ (by omega)))
            have hF34 : ∀ id, 41 ≤ id → μ28 id = μ id := fun id hid => (show μ28 id = μ20 id from (hF29 _ (by omega))).trans (hF26 id hid)
            refine x_aload_n 2 d_X3_kinds_90 rfl rfl ?_
            refine x_getiV (j := 1) (z := nI (gSz g y)) x_c1 (s_kd (x_sqs (i := y) (by omega))) (Nat.le_of_ble_eq_true rfl) q137 (s_n1 (x_sqs (i := y) (by omega))) (hX32.2.2.2.2.2.1 y (by omega)) d_X3_kinds_91 ?_
            refine x_icmp_ne 106 d_X3_kinds_94 (by decide) (fun c35 => ?_) (fun c35 => ?_)
            · skip
              have hft := fits_f hz_y c35
              refine x_iinc [(5, .int (nI (k + 1))), (4, .int r), (3, .ref (E.1 + (33 + 2 * y))), (0, .ref (E.1 + 0)), (1, .int (nI y)), (2, .int (nI q))] 0 d_X3_kinds_106 rfl (x_inc _) (Nat.le_of_ble_eq_true rfl) rfl ?_
              refine x_goto 52 d_X3_kinds_109 (by decide) ?_
              exact ih7 (k + 1) (by omega) (by omega) r μ28 (by rw [hr, setTo, if_neg (by rw [hft]; decide)]) hL30 hLH31 hX32 hD33 hF34
            · skip
              have hft := fits_t hz_y c35
              refine x_iload 1 d_X3_kinds_97 rfl ?_
              refine x_iconst (x := 1) d_X3_kinds_99 (by decide) ?_
              refine x_iload 0 d_X3_kinds_100 rfl ?_
              refine x_ishl d_X3_kinds_102 ?_
              refine x_ior d_X3_kinds_103 ?_
              refine x_istore [(4, .int (r ||| (1 <<< ((nI k) &&& 31)))), (5, .int (nI k)), (3, .ref (E.1 + (33 + 2 * y))), (0, .ref (E.1 + 0)), (1, .int (nI y)), (2, .int (nI q))] d_X3_kinds_104 (Nat.le_of_ble_eq_true rfl) rfl ?_
              refine x_iinc [(5, .int (nI (k + 1))), (4, .int (r ||| (1 <<< ((nI k) &&& 31)))), (3, .ref (E.1 + (33 + 2 * y))), (0, .ref (E.1 + 0)), (1, .int (nI y)), (2, .int (nI q))] 1 d_X3_kinds_106 rfl (x_inc _) (Nat.le_of_ble_eq_true rfl) rfl ?_
              refine x_goto 52 d_X3_kinds_109 (by decide) ?_
              exact ih7 (k + 1) (by omega) (by omega) (r ||| (1 <<< ((nI k) &&& 31))) μ28 (by rw [hr, setTo, if_pos hft]) hL30 hLH31 hX32 hD33 hF34
        exact L6 0 (by omega) 0 μ (by rfl) hL hH hX hD hF
      · skip
        refine x_aload_n 1 d_X3_kinds_39 rfl rfl ?_
        refine x_ldc q182 d_X3_kinds_40 ?_
        refine x_cvi (k := 0) (as := [.int (-1000001)]) (c_X3_finding l E μ (i := 0) hD (by decide) (w := (-1000001)) (by decide)) v_X3_finding w_X3_finding q183 o_X rfl ⟨Nat.le_of_ble_eq_true rfl, Nat.le_of_ble_eq_true rfl⟩ rfl (Nat.le_of_ble_eq_true rfl) d_X3_kinds_42 ?_
        rintro _ μ36 ⟨rfl, hD37, hF38⟩
        have hL39 := PR.cg hL (μ' := μ36) (fun id hid => (hF38 _ (by omega)))
        have hLH40 := hH
        rw [← (show μ36 1 = μ 1 from (hF38 _ (by omega)))] at hLH40
        have hX41 := XR.cg hX (μ' := μ36) (fun id hid => (hF38 _ (by omega)))
        have hF42 : ∀ id, 41 ≤ id → μ36 id = μ id := fun id hid => (show μ36 id = μ id from (hF38 _ (by omega))).trans (hF id hid)
        refine x_iret rfl d_X3_kinds_45 ?_
        have e9 : F_kinds g (nI y) p = fin g 0 := by simp [F_kinds, x_b_f, x_b_t, ks3, c4, c5, nI_clamp (n := y) (by omega), shO]
        rw [e9]
        exact ⟨rfl, XS.fin hL39 hLH40 hX41 hD37, hF42⟩
    · skip
      refine x_aload_n 1 d_X3_kinds_24 rfl rfl ?_
      refine x_ldc q414 d_X3_kinds_25 ?_
      refine x_cvi (k := 0) (as := [.int (-1000006)]) (c_X3_finding l E μ (i := 5) hD (by decide) (w := (-1000006)) (by decide)) v_X3_finding w_X3_finding q183 o_X rfl ⟨Nat.le_of_ble_eq_true rfl, Nat.le_of_ble_eq_true rfl⟩ rfl (Nat.le_of_ble_eq_true rfl) d_X3_kinds_27 ?_
      rintro _ μ43 ⟨rfl, hD44, hF45⟩
      have hL46 := PR.cg hL (μ' := μ43) (fun id hid => (hF45 _ (by omega)))
      have hLH47 := hH
      rw [← (show μ43 1 = μ 1 from (hF45 _ (by omega)))] at hLH47
      have hX48 := XR.cg hX (μ' := μ43) (fun id hid => (hF45 _ (by omega)))
      have hF49 : ∀ id, 41 ≤ id → μ43 id = μ id := fun id hid => (show μ43 id = μ id from (hF45 _ (by omega))).trans (hF id hid)
      refine x_iret rfl d_X3_kinds_30 ?_
      have e9 : F_kinds g (nI y) p = fin g 5 := by simp [F_kinds, x_b_f, x_b_t, ks3, c4, nI_clamp (n := y) (by omega), shO]
      rw [e9]
      exact ⟨rfl, XS.fin hL46 hLH47 hX48 hD44, hF49⟩
  · skip
    refine x_eqst (st' := [.null]) rfl ?_
    refine x_astore_nN [(3, .null), (0, .ref (E.1 + 0)), (1, .int s), (2, .int p)] d_X3_kinds_5 rfl (Nat.le_of_ble_eq_true rfl) rfl ?_
    refine x_aload_nN 0 d_X3_kinds_6 rfl rfl ?_
    refine x_ifnonnullN d_X3_kinds_7 ?_
    refine x_aload_n 1 d_X3_kinds_10 rfl rfl ?_
    refine x_ldc q182 d_X3_kinds_11 ?_
    refine x_cvi (k := 0) (as := [.int (-1000001)]) (c_X3_finding l E μ (i := 0) hD (by decide) (w := (-1000001)) (by decide)) v_X3_finding w_X3_finding q183 o_X rfl ⟨Nat.le_of_ble_eq_true rfl, Nat.le_of_ble_eq_true rfl⟩ rfl (Nat.le_of_ble_eq_true rfl) d_X3_kinds_13 ?_
    rintro _ μ50 ⟨rfl, hD51, hF52⟩
    have hL53 := PR.cg hL (μ' := μ50) (fun id hid => (hF52 _ (by omega)))
    have hLH54 := hH
    rw [← (show μ50 1 = μ 1 from (hF52 _ (by omega)))] at hLH54
    have hX55 := XR.cg hX (μ' := μ50) (fun id hid => (hF52 _ (by omega)))
    have hF56 : ∀ id, 41 ≤ id → μ50 id = μ id := fun id hid => (show μ50 id = μ id from (hF52 _ (by omega))).trans (hF id hid)
    refine x_iret rfl d_X3_kinds_16 ?_
    have e9 : F_kinds g s p = fin g 0 := by simp [F_kinds, x_b_f, x_b_t, ks3, shO]
    rw [e9]
    exact ⟨rfl, XS.fin hL53 hLH54 hX55 hD51, hF56⟩
def m_X3_beliefs : x_M := (yX3_beliefs, prog_1_method_30_code, 6, (some FieldType.int), 6, 143)
theorem v_X3_beliefs : x_VM m_X3_beliefs 2 := ⟨q421, q1, by decide +kernel, by decide +kernel, by decide +kernel⟩
theorem w_X3_beliefs : x_VI m_X3_beliefs := ⟨q419, q420⟩
theorem d_X3_beliefs_0 : x_dec m_X3_beliefs 0 (.aload_n 0) 1 1 := ⟨by decide +kernel, rfl⟩
theorem d_X3_beliefs_1 : x_dec m_X3_beliefs 1 (.iload_n 1) 1 2 := ⟨by decide +kernel, rfl⟩
theorem d_X3_beliefs_2 : x_dec m_X3_beliefs 2 (.invokevirtual 180) 3 5 := ⟨by decide +kernel, rfl⟩
theorem d_X3_beliefs_5 : x_dec m_X3_beliefs 5 (.astore_n 3) 1 6 := ⟨by decide +kernel, rfl⟩
theorem d_X3_beliefs_6 : x_dec m_X3_beliefs 6 (.aload_n 3) 1 7 := ⟨by decide +kernel, rfl⟩
theorem d_X3_beliefs_7 : x_dec m_X3_beliefs 7 (.ifnonnull 10) 3 10 := ⟨by decide +kernel, rfl⟩
theorem d_X3_beliefs_10 : x_dec m_X3_beliefs 10 (.aload_n 0) 1 11 := ⟨by decide +kernel, rfl⟩
theorem d_X3_beliefs_11 : x_dec m_X3_beliefs 11 (.ldc 55) 2 13 := ⟨by decide +kernel, rfl⟩
theorem d_X3_beliefs_13 : x_dec m_X3_beliefs 13 (.invokevirtual 56) 3 16 := ⟨by decide +kernel, rfl⟩
theorem d_X3_beliefs_16 : x_dec m_X3_beliefs 16 (.ireturn) 1 17 := ⟨by decide +kernel, rfl⟩
theorem d_X3_beliefs_17 : x_dec m_X3_beliefs 17 (.aload_n 3) 1 18 := ⟨by decide +kernel, rfl⟩
theorem d_X3_beliefs_18 : x_dec m_X3_beliefs 18 (.getfield 184) 3 21 := ⟨by decide +kernel, rfl⟩
theorem d_X3_beliefs_21 : x_dec m_X3_beliefs 21 (.ifCond .ne 10) 3 24 := ⟨by decide +kernel, rfl⟩
theorem d_X3_beliefs_24 : x_dec m_X3_beliefs 24 (.aload_n 0) 1 25 := ⟨by decide +kernel, rfl⟩
theorem d_X3_beliefs_25 : x_dec m_X3_beliefs 25 (.ldc 187) 2 27 := ⟨by decide +kernel, rfl⟩
theorem d_X3_beliefs_27 : x_dec m_X3_beliefs 27 (.invokevirtual 56) 3 30 := ⟨by decide +kernel, rfl⟩
theorem d_X3_beliefs_30 : x_dec m_X3_beliefs 30 (.ireturn) 1 31 := ⟨by decide +kernel, rfl⟩
theorem d_X3_beliefs_31 : x_dec m_X3_beliefs 31 (.aload_n 0) 1 32 := ⟨by decide +kernel, rfl⟩
theorem d_X3_beliefs_32 : x_dec m_X3_beliefs 32 (.iload_n 2) 1 33 := ⟨by decide +kernel, rfl⟩
theorem d_X3_beliefs_33 : x_dec m_X3_beliefs 33 (.invokevirtual 81) 3 36 := ⟨by decide +kernel, rfl⟩
theorem d_X3_beliefs_36 : x_dec m_X3_beliefs 36 (.ifCond .ne 10) 3 39 := ⟨by decide +kernel, rfl⟩
theorem d_X3_beliefs_39 : x_dec m_X3_beliefs 39 (.aload_n 0) 1 40 := ⟨by decide +kernel, rfl⟩
theorem d_X3_beliefs_40 : x_dec m_X3_beliefs 40 (.ldc 55) 2 42 := ⟨by decide +kernel, rfl⟩
theorem d_X3_beliefs_42 : x_dec m_X3_beliefs 42 (.invokevirtual 56) 3 45 := ⟨by decide +kernel, rfl⟩
theorem d_X3_beliefs_45 : x_dec m_X3_beliefs 45 (.ireturn) 1 46 := ⟨by decide +kernel, rfl⟩
theorem d_X3_beliefs_46 : x_dec m_X3_beliefs 46 (.iconst 0) 1 47 := ⟨by decide +kernel, rfl⟩
theorem d_X3_beliefs_47 : x_dec m_X3_beliefs 47 (.istore 4) 2 49 := ⟨by decide +kernel, rfl⟩
theorem d_X3_beliefs_49 : x_dec m_X3_beliefs 49 (.iconst 0) 1 50 := ⟨by decide +kernel, rfl⟩
theorem d_X3_beliefs_50 : x_dec m_X3_beliefs 50 (.istore 5) 2 52 := ⟨by decide +kernel, rfl⟩
theorem d_X3_beliefs_52 : x_dec m_X3_beliefs 52 (.iload 5) 2 54 := ⟨by decide +kernel, rfl⟩
theorem d_X3_beliefs_54 : x_dec m_X3_beliefs 54 (.bipush 99) 2 56 := ⟨by decide +kernel, rfl⟩
theorem d_X3_beliefs_56 : x_dec m_X3_beliefs 56 (.if_icmp .gt 31) 3 59 := ⟨by decide +kernel, rfl⟩
theorem d_X3_beliefs_59 : x_dec m_X3_beliefs 59 (.aload_n 0) 1 60 := ⟨by decide +kernel, rfl⟩
theorem d_X3_beliefs_60 : x_dec m_X3_beliefs 60 (.iload_n 2) 1 61 := ⟨by decide +kernel, rfl⟩
theorem d_X3_beliefs_61 : x_dec m_X3_beliefs 61 (.iload 5) 2 63 := ⟨by decide +kernel, rfl⟩
theorem d_X3_beliefs_63 : x_dec m_X3_beliefs 63 (.invokevirtual 160) 3 66 := ⟨by decide +kernel, rfl⟩
theorem d_X3_beliefs_66 : x_dec m_X3_beliefs 66 (.aload_n 3) 1 67 := ⟨by decide +kernel, rfl⟩
theorem d_X3_beliefs_67 : x_dec m_X3_beliefs 67 (.iconst 1) 1 68 := ⟨by decide +kernel, rfl⟩
theorem d_X3_beliefs_68 : x_dec m_X3_beliefs 68 (.invokestatic 188) 3 71 := ⟨by decide +kernel, rfl⟩
theorem d_X3_beliefs_71 : x_dec m_X3_beliefs 71 (.aload_n 3) 1 72 := ⟨by decide +kernel, rfl⟩
theorem d_X3_beliefs_72 : x_dec m_X3_beliefs 72 (.getfield 192) 3 75 := ⟨by decide +kernel, rfl⟩
theorem d_X3_beliefs_75 : x_dec m_X3_beliefs 75 (.if_icmp .ne 6) 3 78 := ⟨by decide +kernel, rfl⟩
theorem d_X3_beliefs_78 : x_dec m_X3_beliefs 78 (.iinc 4 1) 3 81 := ⟨by decide +kernel, rfl⟩
theorem d_X3_beliefs_81 : x_dec m_X3_beliefs 81 (.iinc 5 1) 3 84 := ⟨by decide +kernel, rfl⟩
theorem d_X3_beliefs_84 : x_dec m_X3_beliefs 84 (.goto (-32)) 3 87 := ⟨by decide +kernel, rfl⟩
theorem d_X3_beliefs_87 : x_dec m_X3_beliefs 87 (.iload 4) 2 89 := ⟨by decide +kernel, rfl⟩
theorem d_X3_beliefs_89 : x_dec m_X3_beliefs 89 (.ireturn) 1 90 := ⟨by decide +kernel, rfl⟩
set_option maxHeartbeats 4000000 in
set_option maxRecDepth 100000 in
theorem c_X3_beliefs (l : Launch) (E : x_E) (μ : x_Mem) (g : x_SG) (hS : XS g μ) (hI : Inv g) (s p : Int32) : x_Met l m_X3_beliefs E [.ref (E.1 + 0), .int s, .int p] μ (x_I (fun z m => z = (F_beliefs g s p).1 ∧ XS (F_beliefs g s p).2 m ∧ ∀ id, 41 ≤ id → m id = μ id)) := by
  obtain ⟨hL, hH, hX, hD⟩ := hS
  have hWF := hI.1.1
  have hn7 := hWF.2.1
  have hpn := hWF.1
  have hF : ∀ id, 41 ≤ id → μ id = μ id := fun _ _ => rfl
  refine x_enter (lv := [(0, .ref (E.1 + 0)), (1, .int s), (2, .int p)]) (by decide +kernel) (Nat.le_of_ble_eq_true rfl) rfl ?_
  refine x_aload_n 0 d_X3_beliefs_0 rfl rfl ?_
  refine x_iload_n 1 d_X3_beliefs_1 rfl rfl ?_
  refine x_cv (k := 0) (as := [.int s]) (c_X3_sheetAt l E μ s) v_X3_sheetAt w_X3_sheetAt q410 o_X rfl ⟨Nat.le_of_ble_eq_true rfl, Nat.le_of_ble_eq_true rfl⟩ rfl (Nat.le_of_ble_eq_true rfl) d_X3_beliefs_2 ?_
  rintro r2 μ1 ⟨hm9, ⟨ks3, rfl⟩ | ⟨ks3, rfl⟩⟩ <;> replace hm9 := hm9.symm <;> subst hm9
  · obtain ⟨y, hy, rfl⟩ := inR_nat (n := 3) (by decide) ks3
    rw [nI_clamp (by omega)]
    have hz_y := hI.2.2.2.2.1 y (by omega)
    refine x_eqst (st' := [.ref (E.1 + (33 + 2 * y))]) rfl ?_
    refine x_astore_n [(3, .ref (E.1 + (33 + 2 * y))), (0, .ref (E.1 + 0)), (1, .int (nI y)), (2, .int p)] d_X3_beliefs_5 rfl (Nat.le_of_ble_eq_true rfl) rfl ?_
    refine x_aload_n 0 d_X3_beliefs_6 rfl rfl ?_
    refine x_ifnonnull 17 d_X3_beliefs_7 (by decide) ?_
    refine x_aload_n 0 d_X3_beliefs_17 rfl rfl ?_
    refine x_getiV (j := 0) (z := gSb g y) x_c1 (s_kd (x_sqs (i := y) (by omega))) (Nat.le_of_ble_eq_true rfl) q135 (s_n0 (x_sqs (i := y) (by omega))) (hX.2.2.2.2.1 y (by omega)) d_X3_beliefs_18 ?_
    refine x_if_ne 31 d_X3_beliefs_21 (by decide) (fun c4 => ?_) (fun c4 => ?_)
    · skip
      refine x_aload_n 1 d_X3_beliefs_31 rfl rfl ?_
      refine x_iload_n 3 d_X3_beliefs_32 rfl rfl ?_
      refine x_cvip (k := 0) (as := [.int p]) (c_X3_isPerson l E μ hL p) v_X3_isPerson w_X3_isPerson q234 o_X rfl ⟨Nat.le_of_ble_eq_true rfl, Nat.le_of_ble_eq_true rfl⟩ rfl (Nat.le_of_ble_eq_true rfl) d_X3_beliefs_33 ?_
      refine x_ifb_ne 46 d_X3_beliefs_36 (by decide) (fun c5 => ?_) (fun c5 => ?_)
      · skip
        obtain ⟨q, hq, rfl⟩ := isP_nat hWF c5
        refine x_iconst (x := 0) d_X3_beliefs_46 (by decide) ?_
        refine x_istore [(4, .int 0), (3, .ref (E.1 + (33 + 2 * y))), (0, .ref (E.1 + 0)), (1, .int (nI y)), (2, .int (nI q))] d_X3_beliefs_47 (Nat.le_of_ble_eq_true rfl) rfl ?_
        refine x_iconst (x := 0) d_X3_beliefs_49 (by decide) ?_
        refine x_istore [(5, .int 0), (4, .int 0), (3, .ref (E.1 + (33 + 2 * y))), (0, .ref (E.1 + 0)), (1, .int (nI y)), (2, .int (nI q))] d_X3_beliefs_50 (Nat.le_of_ble_eq_true rfl) rfl ?_
        have L6 : ∀ k : Nat, k ≤ 100 → ∀ r : Int32, ∀ μ9 : x_Mem, (r = cntTo 0 (fun k => fitsB (upd (gA g) (24 + 3 * q + 2) (nI k)) (gSn g y) true (gSz g y)) k) → (PR (gA g) 1 μ9) → (μ9 1 11 = gA g 0) → (XR g μ9) → (XD (gF g) μ9) → (∀ id, 41 ≤ id → μ9 id = μ id) → x_G l E m_X3_beliefs (x_mv E m_X3_beliefs (x_I (fun z m => z = (F_beliefs g (nI y) (nI q)).1 ∧ XS (F_beliefs g (nI y) (nI q)).2 m ∧ ∀ id, 41 ≤ id → m id = μ id))) μ9 52 [(5, .int (nI k)), (4, .int r), (3, .ref (E.1 + (33 + 2 * y))), (0, .ref (E.1 + 0)), (1, .int (nI y)), (2, .int (nI q))] [] := by
          refine x_down _ 100 (fun k hi8 ih7 => ?_)
          intro r μ9 hr hL1 hH1 hX1 hD1 hF1
          refine x_iload 0 d_X3_beliefs_52 rfl ?_
          refine x_bipush (x := 99) d_X3_beliefs_54 (by decide) ?_
          refine x_icmp_gt 87 d_X3_beliefs_56 (by decide) (fun c10 => ?_) (fun c10 => ?_)
          · skip
            have hN := (nI_ltI (a := 99) (b := k) (by omega) (by omega)).mp c10
            refine x_iload 1 d_X3_beliefs_87 rfl ?_
            refine x_iret rfl d_X3_beliefs_89 ?_
            have e7 : k = 100 := by omega
            subst e7
            subst hr
            have e9 : F_beliefs g (nI y) (nI q) = (cntTo 0 (fun k => fitsB (upd (gA g) (24 + 3 * q + 2) (nI k)) (gSn g y) true (gSz g y)) 100, g) := by simp [F_beliefs, x_b_f, x_b_t, ks3, c4, c5, nI_clamp (n := y) (by omega), nI_clamp (n := q) (by omega), shO]
            rw [e9]
            exact ⟨rfl, ⟨hL1, hH1, hX1, hD1⟩, hF1⟩
          · skip
            have hN : ¬ 99 < k := fun z => c10 (nI_lt z (by omega))
            refine x_aload_n 3 d_X3_beliefs_59 rfl rfl ?_
            refine x_iload_n 5 d_X3_beliefs_60 rfl rfl ?_
            refine x_iload 0 d_X3_beliefs_61 rfl ?_
            refine x_cv (k := 0) (as := [.int (nI q), .int (nI k)]) (c_X3_trialBelieving l E μ9 hL1 hWF hH1 (p := q) (b := k) (by omega) (by omega)) v_X3_trialBelieving w_X3_trialBelieving q387 o_X rfl ⟨Nat.le_of_ble_eq_true rfl, Nat.le_of_ble_eq_true rfl⟩ rfl (Nat.le_of_ble_eq_true rfl) d_X3_beliefs_63 ?_
            rintro _ μ11 ⟨rfl, hT12, hF13⟩
            have hL14 := PR.cg hL1 (μ' := μ11) (fun id hid => (hF13 _ (by omega)))
            have hLH15 := hH1
            rw [← (show μ11 1 = μ9 1 from (hF13 _ (by omega)))] at hLH15
            have hX16 := XR.cg hX1 (μ' := μ11) (fun id hid => (hF13 _ (by omega)))
            have hD17 := XD.cg hD1 (μ' := μ11) (fun id hid => (hF13 _ (by omega)))
            have hF18 : ∀ id, 41 ≤ id → μ11 id = μ id := fun id hid => (show μ11 id = μ9 id from (hF13 _ (by omega))).trans (hF1 id hid)
            refine x_eqst (st' := [.ref (E.1 + 10)]) rfl ?_
            refine x_aload_n 2 d_X3_beliefs_66 rfl rfl ?_
            refine x_iconst (x := 1) d_X3_beliefs_67 (by decide) ?_
            refine x_csi (as := [.ref (E.1 + 10), .ref (E.1 + (33 + 2 * y)), .int (x_b true)]) (c_X3_firstWrong l E μ11 (a := (upd (gA g) (24 + 3 * q + 2) (nI k))) hT12 (hWF.upB (k := k) (by omega) (by omega)) (q := y) (by omega) (hX16.2.2.2.2.2.1 y (by omega)) hz_y (hX16.2.2.2.2.2.2 y (by omega)) true) v_X3_firstWrong q416 q415 rfl ⟨Nat.le_of_ble_eq_true rfl, Nat.le_of_ble_eq_true rfl⟩ rfl (Nat.le_of_ble_eq_true rfl) d_X3_beliefs_68 ?_
            rintro _ μ19 ⟨rfl, hF20⟩
            have hL21 := PR.cg hL14 (μ' := μ19) (fun id hid => (hF20 _ (by omega)))
            have hLH22 := hLH15
            rw [← (show μ19 1 = μ11 1 from (hF20 _ (by omega)))] at hLH22
            have hX23 := XR.cg hX16 (μ' := μ19) (fun id hid => (hF20 _ (by omega)))
            have hD24 := XD.cg hD17 (μ' := μ19) (fun id hid => (hF20 _ (by omega)))
            have hF25 : ∀ id, 41 ≤ id → μ19 id = μ id := fun id hid => (show μ19 id = μ11 id from (hF20 _ (by omega))).trans (hF18 id hid)
            refine x_aload_n 2 d_X3_beliefs_71 rfl rfl ?_
            refine x_getiV (j := 1) (z := nI (gSz g y)) x_c1 (s_kd (x_sqs (i := y) (by omega))) (Nat.le_of_ble_eq_true rfl) q137 (s_n1 (x_sqs (i := y) (by omega))) (hX23.2.2.2.2.2.1 y (by omega)) d_X3_beliefs_72 ?_
            refine x_icmp_ne 81 d_X3_beliefs_75 (by decide) (fun c26 => ?_) (fun c26 => ?_)
            · skip
              have hft := fits_f hz_y c26
              refine x_iinc [(5, .int (nI (k + 1))), (4, .int r), (3, .ref (E.1 + (33 + 2 * y))), (0, .ref (E.1 + 0)), (1, .int (nI y)), (2, .int (nI q))] 0 d_X3_beliefs_81 rfl (x_inc _) (Nat.le_of_ble_eq_true rfl) rfl ?_
              refine x_goto 52 d_X3_beliefs_84 (by decide) ?_
              exact ih7 (k + 1) (by omega) (by omega) r μ19 (by rw [hr, cntTo, if_neg (by rw [hft]; decide)]) hL21 hLH22 hX23 hD24 hF25
            · skip
              have hft := fits_t hz_y c26
              refine x_iinc [(4, .int (r + 1)), (5, .int (nI k)), (3, .ref (E.1 + (33 + 2 * y))), (0, .ref (E.1 + 0)), (1, .int (nI y)), (2, .int (nI q))] 1 d_X3_beliefs_78 rfl rfl (Nat.le_of_ble_eq_true rfl) rfl ?_
              refine x_iinc [(5, .int (nI (k + 1))), (4, .int (r + 1)), (3, .ref (E.1 + (33 + 2 * y))), (0, .ref (E.1 + 0)), (1, .int (nI y)), (2, .int (nI q))] 1 d_X3_beliefs_81 rfl (x_inc _) (Nat.le_of_ble_eq_true rfl) rfl ?_
              refine x_goto 52 d_X3_beliefs_84 (by decide) ?_
              exact ih7 (k + 1) (by omega) (by omega) (r + 1) μ19 (by rw [hr, cntTo, if_pos hft]) hL21 hLH22 hX23 hD24 hF25
        exact L6 0 (by omega) 0 μ (by rfl) hL hH hX hD hF
      · skip
        refine x_aload_n 1 d_X3_beliefs_39 rfl rfl ?_
        refine x_ldc q182 d_X3_beliefs_40 ?_
        refine x_cvi (k := 0) (as := [.int (-1000001)]) (c_X3_finding l E μ (i := 0) hD (by decide) (w := (-1000001)) (by decide)) v_X3_finding w_X3_finding q183 o_X rfl ⟨Nat.le_of_ble_eq_true rfl, Nat.le_of_ble_eq_true rfl⟩ rfl (Nat.le_of_ble_eq_true rfl) d_X3_beliefs_42 ?_
        rintro _ μ27 ⟨rfl, hD28, hF29⟩
        have hL30 := PR.cg hL (μ' := μ27) (fun id hid => (hF29 _ (by omega)))
        have hLH31 := hH
        rw [← (show μ27 1 = μ 1 from (hF29 _ (by omega)))] at hLH31
        have hX32 := XR.cg hX (μ' := μ27) (fun id hid => (hF29 _ (by omega)))
        have hF33 : ∀ id, 41 ≤ id → μ27 id = μ id := fun id hid => (show μ27 id = μ id from (hF29 _ (by omega))).trans (hF id hid)
        refine x_iret rfl d_X3_beliefs_45 ?_
        have e9 : F_beliefs g (nI y) p = fin g 0 := by simp [F_beliefs, x_b_f, x_b_t, ks3, c4, c5, nI_clamp (n := y) (by omega), shO]
        rw [e9]
        exact ⟨rfl, XS.fin hL30 hLH31 hX32 hD28, hF33⟩
    · skip
      refine x_aload_n 1 d_X3_beliefs_24 rfl rfl ?_
      refine x_ldc q414 d_X3_beliefs_25 ?_
      refine x_cvi (k := 0) (as := [.int (-1000006)]) (c_X3_finding l E μ (i := 5) hD (by decide) (w := (-1000006)) (by decide)) v_X3_finding w_X3_finding q183 o_X rfl ⟨Nat.le_of_ble_eq_true rfl, Nat.le_of_ble_eq_true rfl⟩ rfl (Nat.le_of_ble_eq_true rfl) d_X3_beliefs_27 ?_
      rintro _ μ34 ⟨rfl, hD35, hF36⟩
      have hL37 := PR.cg hL (μ' := μ34) (fun id hid => (hF36 _ (by omega)))
      have hLH38 := hH
      rw [← (show μ34 1 = μ 1 from (hF36 _ (by omega)))] at hLH38
      have hX39 := XR.cg hX (μ' := μ34) (fun id hid => (hF36 _ (by omega)))
      have hF40 : ∀ id, 41 ≤ id → μ34 id = μ id := fun id hid => (show μ34 id = μ id from (hF36 _ (by omega))).trans (hF id hid)
      refine x_iret rfl d_X3_beliefs_30 ?_
      have e9 : F_beliefs g (nI y) p = fin g 5 := by simp [F_beliefs, x_b_f, x_b_t, ks3, c4, nI_clamp (n := y) (by omega), shO]
      rw [e9]
      exact ⟨rfl, XS.fin hL37 hLH38 hX39 hD35, hF40⟩
  · skip
    refine x_eqst (st' := [.null]) rfl ?_
    refine x_astore_nN [(3, .null), (0, .ref (E.1 + 0)), (1, .int s), (2, .int p)] d_X3_beliefs_5 rfl (Nat.le_of_ble_eq_true rfl) rfl ?_
    refine x_aload_nN 0 d_X3_beliefs_6 rfl rfl ?_
    refine x_ifnonnullN d_X3_beliefs_7 ?_
    refine x_aload_n 1 d_X3_beliefs_10 rfl rfl ?_
    refine x_ldc q182 d_X3_beliefs_11 ?_
    refine x_cvi (k := 0) (as := [.int (-1000001)]) (c_X3_finding l E μ (i := 0) hD (by decide) (w := (-1000001)) (by decide)) v_X3_finding w_X3_finding q183 o_X rfl ⟨Nat.le_of_ble_eq_true rfl, Nat.le_of_ble_eq_true rfl⟩ rfl (Nat.le_of_ble_eq_true rfl) d_X3_beliefs_13 ?_
    rintro _ μ41 ⟨rfl, hD42, hF43⟩
    have hL44 := PR.cg hL (μ' := μ41) (fun id hid => (hF43 _ (by omega)))
    have hLH45 := hH
    rw [← (show μ41 1 = μ 1 from (hF43 _ (by omega)))] at hLH45
    have hX46 := XR.cg hX (μ' := μ41) (fun id hid => (hF43 _ (by omega)))
    have hF47 : ∀ id, 41 ≤ id → μ41 id = μ id := fun id hid => (show μ41 id = μ id from (hF43 _ (by omega))).trans (hF id hid)
    refine x_iret rfl d_X3_beliefs_16 ?_
    have e9 : F_beliefs g s p = fin g 0 := by simp [F_beliefs, x_b_f, x_b_t, ks3, shO]
    rw [e9]
    exact ⟨rfl, XS.fin hL44 hLH45 hX46 hD42, hF47⟩
def m_X3_least : x_M := (yX3_least, prog_1_method_31_code, 5, (some FieldType.int), 6, 143)
theorem v_X3_least : x_VM m_X3_least 2 := ⟨q425, q1, by decide +kernel, by decide +kernel, by decide +kernel⟩
theorem w_X3_least : x_VI m_X3_least := ⟨q423, q424⟩
theorem d_X3_least_0 : x_dec m_X3_least 0 (.aload_n 0) 1 1 := ⟨by decide +kernel, rfl⟩
theorem d_X3_least_1 : x_dec m_X3_least 1 (.iload_n 1) 1 2 := ⟨by decide +kernel, rfl⟩
theorem d_X3_least_2 : x_dec m_X3_least 2 (.invokevirtual 180) 3 5 := ⟨by decide +kernel, rfl⟩
theorem d_X3_least_5 : x_dec m_X3_least 5 (.astore_n 3) 1 6 := ⟨by decide +kernel, rfl⟩
theorem d_X3_least_6 : x_dec m_X3_least 6 (.aload_n 3) 1 7 := ⟨by decide +kernel, rfl⟩
theorem d_X3_least_7 : x_dec m_X3_least 7 (.ifnonnull 10) 3 10 := ⟨by decide +kernel, rfl⟩
theorem d_X3_least_10 : x_dec m_X3_least 10 (.aload_n 0) 1 11 := ⟨by decide +kernel, rfl⟩
theorem d_X3_least_11 : x_dec m_X3_least 11 (.ldc 55) 2 13 := ⟨by decide +kernel, rfl⟩
theorem d_X3_least_13 : x_dec m_X3_least 13 (.invokevirtual 56) 3 16 := ⟨by decide +kernel, rfl⟩
theorem d_X3_least_16 : x_dec m_X3_least 16 (.ireturn) 1 17 := ⟨by decide +kernel, rfl⟩
theorem d_X3_least_17 : x_dec m_X3_least 17 (.aload_n 3) 1 18 := ⟨by decide +kernel, rfl⟩
theorem d_X3_least_18 : x_dec m_X3_least 18 (.getfield 184) 3 21 := ⟨by decide +kernel, rfl⟩
theorem d_X3_least_21 : x_dec m_X3_least 21 (.ifCond .ne 10) 3 24 := ⟨by decide +kernel, rfl⟩
theorem d_X3_least_24 : x_dec m_X3_least 24 (.aload_n 0) 1 25 := ⟨by decide +kernel, rfl⟩
theorem d_X3_least_25 : x_dec m_X3_least 25 (.ldc 187) 2 27 := ⟨by decide +kernel, rfl⟩
theorem d_X3_least_27 : x_dec m_X3_least 27 (.invokevirtual 56) 3 30 := ⟨by decide +kernel, rfl⟩
theorem d_X3_least_30 : x_dec m_X3_least 30 (.ireturn) 1 31 := ⟨by decide +kernel, rfl⟩
theorem d_X3_least_31 : x_dec m_X3_least 31 (.aload_n 0) 1 32 := ⟨by decide +kernel, rfl⟩
theorem d_X3_least_32 : x_dec m_X3_least 32 (.iload_n 2) 1 33 := ⟨by decide +kernel, rfl⟩
theorem d_X3_least_33 : x_dec m_X3_least 33 (.invokevirtual 81) 3 36 := ⟨by decide +kernel, rfl⟩
theorem d_X3_least_36 : x_dec m_X3_least 36 (.ifCond .ne 10) 3 39 := ⟨by decide +kernel, rfl⟩
theorem d_X3_least_39 : x_dec m_X3_least 39 (.aload_n 0) 1 40 := ⟨by decide +kernel, rfl⟩
theorem d_X3_least_40 : x_dec m_X3_least 40 (.ldc 55) 2 42 := ⟨by decide +kernel, rfl⟩
theorem d_X3_least_42 : x_dec m_X3_least 42 (.invokevirtual 56) 3 45 := ⟨by decide +kernel, rfl⟩
theorem d_X3_least_45 : x_dec m_X3_least 45 (.ireturn) 1 46 := ⟨by decide +kernel, rfl⟩
theorem d_X3_least_46 : x_dec m_X3_least 46 (.iconst 0) 1 47 := ⟨by decide +kernel, rfl⟩
theorem d_X3_least_47 : x_dec m_X3_least 47 (.istore 4) 2 49 := ⟨by decide +kernel, rfl⟩
theorem d_X3_least_49 : x_dec m_X3_least 49 (.iload 4) 2 51 := ⟨by decide +kernel, rfl⟩
theorem d_X3_least_51 : x_dec m_X3_least 51 (.bipush 99) 2 53 := ⟨by decide +kernel, rfl⟩
theorem d_X3_least_53 : x_dec m_X3_least 53 (.if_icmp .gt 31) 3 56 := ⟨by decide +kernel, rfl⟩
theorem d_X3_least_56 : x_dec m_X3_least 56 (.aload_n 0) 1 57 := ⟨by decide +kernel, rfl⟩
theorem d_X3_least_57 : x_dec m_X3_least 57 (.iload_n 2) 1 58 := ⟨by decide +kernel, rfl⟩
theorem d_X3_least_58 : x_dec m_X3_least 58 (.iload 4) 2 60 := ⟨by decide +kernel, rfl⟩
theorem d_X3_least_60 : x_dec m_X3_least 60 (.invokevirtual 160) 3 63 := ⟨by decide +kernel, rfl⟩
theorem d_X3_least_63 : x_dec m_X3_least 63 (.aload_n 3) 1 64 := ⟨by decide +kernel, rfl⟩
theorem d_X3_least_64 : x_dec m_X3_least 64 (.iconst 1) 1 65 := ⟨by decide +kernel, rfl⟩
theorem d_X3_least_65 : x_dec m_X3_least 65 (.invokestatic 188) 3 68 := ⟨by decide +kernel, rfl⟩
theorem d_X3_least_68 : x_dec m_X3_least 68 (.aload_n 3) 1 69 := ⟨by decide +kernel, rfl⟩
theorem d_X3_least_69 : x_dec m_X3_least 69 (.getfield 192) 3 72 := ⟨by decide +kernel, rfl⟩
theorem d_X3_least_72 : x_dec m_X3_least 72 (.if_icmp .ne 6) 3 75 := ⟨by decide +kernel, rfl⟩
theorem d_X3_least_75 : x_dec m_X3_least 75 (.iload 4) 2 77 := ⟨by decide +kernel, rfl⟩
theorem d_X3_least_77 : x_dec m_X3_least 77 (.ireturn) 1 78 := ⟨by decide +kernel, rfl⟩
theorem d_X3_least_78 : x_dec m_X3_least 78 (.iinc 4 1) 3 81 := ⟨by decide +kernel, rfl⟩
theorem d_X3_least_81 : x_dec m_X3_least 81 (.goto (-32)) 3 84 := ⟨by decide +kernel, rfl⟩
theorem d_X3_least_84 : x_dec m_X3_least 84 (.aload_n 0) 1 85 := ⟨by decide +kernel, rfl⟩
theorem d_X3_least_85 : x_dec m_X3_least 85 (.ldc 144) 2 87 := ⟨by decide +kernel, rfl⟩
theorem d_X3_least_87 : x_dec m_X3_least 87 (.invokevirtual 56) 3 90 := ⟨by decide +kernel, rfl⟩
theorem d_X3_least_90 : x_dec m_X3_least 90 (.ireturn) 1 91 := ⟨by decide +kernel, rfl⟩
set_option maxHeartbeats 4000000 in
set_option maxRecDepth 100000 in
theorem c_X3_least (l : Launch) (E : x_E) (μ : x_Mem) (g : x_SG) (hS : XS g μ) (hI : Inv g) (s p : Int32) : x_Met l m_X3_least E [.ref (E.1 + 0), .int s, .int p] μ (x_I (fun z m => z = (F_least g s p).1 ∧ XS (F_least g s p).2 m ∧ ∀ id, 41 ≤ id → m id = μ id)) := by
  obtain ⟨hL, hH, hX, hD⟩ := hS
  have hWF := hI.1.1
  have hn7 := hWF.2.1
  have hpn := hWF.1
  have hF : ∀ id, 41 ≤ id → μ id = μ id := fun _ _ => rfl
  refine x_enter (lv := [(0, .ref (E.1 + 0)), (1, .int s), (2, .int p)]) (by decide +kernel) (Nat.le_of_ble_eq_true rfl) rfl ?_
  refine x_aload_n 0 d_X3_least_0 rfl rfl ?_
  refine x_iload_n 1 d_X3_least_1 rfl rfl ?_
  refine x_cv (k := 0) (as := [.int s]) (c_X3_sheetAt l E μ s) v_X3_sheetAt w_X3_sheetAt q410 o_X rfl ⟨Nat.le_of_ble_eq_true rfl, Nat.le_of_ble_eq_true rfl⟩ rfl (Nat.le_of_ble_eq_true rfl) d_X3_least_2 ?_
  rintro r2 μ1 ⟨hm9, ⟨ks3, rfl⟩ | ⟨ks3, rfl⟩⟩ <;> replace hm9 := hm9.symm <;> subst hm9
  · obtain ⟨y, hy, rfl⟩ := inR_nat (n := 3) (by decide) ks3
    rw [nI_clamp (by omega)]
    have hz_y := hI.2.2.2.2.1 y (by omega)
    refine x_eqst (st' := [.ref (E.1 + (33 + 2 * y))]) rfl ?_
    refine x_astore_n [(3, .ref (E.1 + (33 + 2 * y))), (0, .ref (E.1 + 0)), (1, .int (nI y)), (2, .int p)] d_X3_least_5 rfl (Nat.le_of_ble_eq_true rfl) rfl ?_
    refine x_aload_n 0 d_X3_least_6 rfl rfl ?_
    refine x_ifnonnull 17 d_X3_least_7 (by decide) ?_
    refine x_aload_n 0 d_X3_least_17 rfl rfl ?_
    refine x_getiV (j := 0) (z := gSb g y) x_c1 (s_kd (x_sqs (i := y) (by omega))) (Nat.le_of_ble_eq_true rfl) q135 (s_n0 (x_sqs (i := y) (by omega))) (hX.2.2.2.2.1 y (by omega)) d_X3_least_18 ?_
    refine x_if_ne 31 d_X3_least_21 (by decide) (fun c4 => ?_) (fun c4 => ?_)
    · skip
      refine x_aload_n 1 d_X3_least_31 rfl rfl ?_
      refine x_iload_n 3 d_X3_least_32 rfl rfl ?_
      refine x_cvip (k := 0) (as := [.int p]) (c_X3_isPerson l E μ hL p) v_X3_isPerson w_X3_isPerson q234 o_X rfl ⟨Nat.le_of_ble_eq_true rfl, Nat.le_of_ble_eq_true rfl⟩ rfl (Nat.le_of_ble_eq_true rfl) d_X3_least_33 ?_
      refine x_ifb_ne 46 d_X3_least_36 (by decide) (fun c5 => ?_) (fun c5 => ?_)
      · skip
        obtain ⟨q, hq, rfl⟩ := isP_nat hWF c5
        refine x_iconst (x := 0) d_X3_least_46 (by decide) ?_
        refine x_istore [(4, .int 0), (3, .ref (E.1 + (33 + 2 * y))), (0, .ref (E.1 + 0)), (1, .int (nI y)), (2, .int (nI q))] d_X3_least_47 (Nat.le_of_ble_eq_true rfl) rfl ?_
        have L6 : ∀ k : Nat, k ≤ 100 → ∀ μ9 : x_Mem, (PR (gA g) 1 μ9) → (μ9 1 11 = gA g 0) → (XR g μ9) → (XD (gF g) μ9) → (∀ id, 41 ≤ id → μ9 id = μ id) → (∀ j, j < k → (fun k => fitsB (upd (gA g) (24 + 3 * q + 2) (nI k)) (gSn g y) true (gSz g y)) j = false) → x_G l E m_X3_least (x_mv E m_X3_least (x_I (fun z m => z = (F_least g (nI y) (nI q)).1 ∧ XS (F_least g (nI y) (nI q)).2 m ∧ ∀ id, 41 ≤ id → m id = μ id))) μ9 49 [(4, .int (nI k)), (3, .ref (E.1 + (33 + 2 * y))), (0, .ref (E.1 + 0)), (1, .int (nI y)), (2, .int (nI q))] [] := by
          refine x_down _ 100 (fun k hi8 ih7 => ?_)
          intro μ9 hL1 hH1 hX1 hD1 hF1 hq
          refine x_iload 0 d_X3_least_49 rfl ?_
          refine x_bipush (x := 99) d_X3_least_51 (by decide) ?_
          refine x_icmp_gt 84 d_X3_least_53 (by decide) (fun c10 => ?_) (fun c10 => ?_)
          · skip
            have hN := (nI_ltI (a := 99) (b := k) (by omega) (by omega)).mp c10
            refine x_aload_n 2 d_X3_least_84 rfl rfl ?_
            refine x_ldc q326 d_X3_least_85 ?_
            refine x_cvi (k := 0) (as := [.int (-1000004)]) (c_X3_finding l E μ9 (i := 3) hD1 (by decide) (w := (-1000004)) (by decide)) v_X3_finding w_X3_finding q183 o_X rfl ⟨Nat.le_of_ble_eq_true rfl, Nat.le_of_ble_eq_true rfl⟩ rfl (Nat.le_of_ble_eq_true rfl) d_X3_least_87 ?_
            rintro _ μ11 ⟨rfl, hD12, hF13⟩
            have hL14 := PR.cg hL1 (μ' := μ11) (fun id hid => (hF13 _ (by omega)))
            have hLH15 := hH1
            rw [← (show μ11 1 = μ9 1 from (hF13 _ (by omega)))] at hLH15
            have hX16 := XR.cg hX1 (μ' := μ11) (fun id hid => (hF13 _ (by omega)))
            have hF17 : ∀ id, 41 ≤ id → μ11 id = μ id := fun id hid => (show μ11 id = μ9 id from (hF13 _ (by omega))).trans (hF1 id hid)
            refine x_iret rfl d_X3_least_90 ?_
            have e7 : k = 100 := by omega
            subst e7
            have e8 := firstN_none hq
            have e9 : F_least g (nI y) (nI q) = fin g 3 := by simp [F_least, x_b_f, x_b_t, ks3, c4, c5, nI_clamp (n := y) (by omega), nI_clamp (n := q) (by omega), shO, e8, orN]
            rw [e9]
            exact ⟨rfl, XS.fin hL14 hLH15 hX16 hD12, hF17⟩
          · skip
            have hN : ¬ 99 < k := fun z => c10 (nI_lt z (by omega))
            refine x_aload_n 2 d_X3_least_56 rfl rfl ?_
            refine x_iload_n 4 d_X3_least_57 rfl rfl ?_
            refine x_iload 0 d_X3_least_58 rfl ?_
            refine x_cv (k := 0) (as := [.int (nI q), .int (nI k)]) (c_X3_trialBelieving l E μ9 hL1 hWF hH1 (p := q) (b := k) (by omega) (by omega)) v_X3_trialBelieving w_X3_trialBelieving q387 o_X rfl ⟨Nat.le_of_ble_eq_true rfl, Nat.le_of_ble_eq_true rfl⟩ rfl (Nat.le_of_ble_eq_true rfl) d_X3_least_60 ?_
            rintro _ μ18 ⟨rfl, hT19, hF20⟩
            have hL21 := PR.cg hL1 (μ' := μ18) (fun id hid => (hF20 _ (by omega)))
            have hLH22 := hH1
            rw [← (show μ18 1 = μ9 1 from (hF20 _ (by omega)))] at hLH22
            have hX23 := XR.cg hX1 (μ' := μ18) (fun id hid => (hF20 _ (by omega)))
            have hD24 := XD.cg hD1 (μ' := μ18) (fun id hid => (hF20 _ (by omega)))
            have hF25 : ∀ id, 41 ≤ id → μ18 id = μ id := fun id hid => (show μ18 id = μ9 id from (hF20 _ (by omega))).trans (hF1 id hid)
            refine x_eqst (st' := [.ref (E.1 + 10)]) rfl ?_
            refine x_aload_n 1 d_X3_least_63 rfl rfl ?_
            refine x_iconst (x := 1) d_X3_least_64 (by decide) ?_
            refine x_csi (as := [.ref (E.1 + 10), .ref (E.1 + (33 + 2 * y)), .int (x_b true)]) (c_X3_firstWrong l E μ18 (a := (upd (gA g) (24 + 3 * q + 2) (nI k))) hT19 (hWF.upB (k := k) (by omega) (by omega)) (q := y) (by omega) (hX23.2.2.2.2.2.1 y (by omega)) hz_y (hX23.2.2.2.2.2.2 y (by omega)) true) v_X3_firstWrong q416 q415 rfl ⟨Nat.le_of_ble_eq_true rfl, Nat.le_of_ble_eq_true rfl⟩ rfl (Nat.le_of_ble_eq_true rfl) d_X3_least_65 ?_
            rintro _ μ26 ⟨rfl, hF27⟩
            have hL28 := PR.cg hL21 (μ' := μ26) (fun id hid => (hF27 _ (by omega)))
            have hLH29 := hLH22
            rw [← (show μ26 1 = μ18 1 from (hF27 _ (by omega)))] at hLH29
            have hX30 := XR.cg hX23 (μ' := μ26) (fun id hid => (hF27 _ (by omega)))
            have hD31 := XD.cg hD24 (μ' := μ26) (fun id hid => (hF27 _ (by omega)))
            have hF32 : ∀ id, 41 ≤ id → μ26 id = μ id := fun id hid => (show μ26 id = μ18 id from (hF27 _ (by omega))).trans (hF25 id hid)
            refine x_aload_n 1 d_X3_least_68 rfl rfl ?_
            refine x_getiV (j := 1) (z := nI (gSz g y)) x_c1 (s_kd (x_sqs (i := y) (by omega))) (Nat.le_of_ble_eq_true rfl) q137 (s_n1 (x_sqs (i := y) (by omega))) (hX30.2.2.2.2.2.1 y (by omega)) d_X3_least_69 ?_
            refine x_icmp_ne 78 d_X3_least_72 (by decide) (fun c33 => ?_) (fun c33 => ?_)
            · skip
              have hft := fits_f hz_y c33
              refine x_iinc [(4, .int (nI (k + 1))), (3, .ref (E.1 + (33 + 2 * y))), (0, .ref (E.1 + 0)), (1, .int (nI y)), (2, .int (nI q))] 0 d_X3_least_78 rfl (x_inc _) (Nat.le_of_ble_eq_true rfl) rfl ?_
              refine x_goto 49 d_X3_least_81 (by decide) ?_
              exact ih7 (k + 1) (by omega) (by omega) μ26 hL28 hLH29 hX30 hD31 hF32 (lt_s hq hft)
            · skip
              have hft := fits_t hz_y c33
              refine x_iload 0 d_X3_least_75 rfl ?_
              refine x_iret rfl d_X3_least_77 ?_
              have e8 := firstN_some (f := (fun k => fitsB (upd (gA g) (24 + 3 * q + 2) (nI k)) (gSn g y) true (gSz g y))) (n := 100) (i := k) (by omega) hft hq
              have e9 : F_least g (nI y) (nI q) = (nI k, g) := by simp [F_least, x_b_f, x_b_t, ks3, c4, c5, nI_clamp (n := y) (by omega), nI_clamp (n := q) (by omega), shO, e8, orN, show k < 100 by omega]
              rw [e9]
              exact ⟨rfl, ⟨hL28, hLH29, hX30, hD31⟩, hF32⟩
        exact L6 0 (by omega) μ hL hH hX hD hF (fun _ hj => absurd hj (Nat.not_lt_zero _))
      · skip
        refine x_aload_n 1 d_X3_least_39 rfl rfl ?_
        refine x_ldc q182 d_X3_least_40 ?_
        refine x_cvi (k := 0) (as := [.int (-1000001)]) (c_X3_finding l E μ (i := 0) hD (by decide) (w := (-1000001)) (by decide)) v_X3_finding w_X3_finding q183 o_X rfl ⟨Nat.le_of_ble_eq_true rfl, Nat.le_of_ble_eq_true rfl⟩ rfl (Nat.le_of_ble_eq_true rfl) d_X3_least_42 ?_
        rintro _ μ34 ⟨rfl, hD35, hF36⟩
        have hL37 := PR.cg hL (μ' := μ34) (fun id hid => (hF36 _ (by omega)))
        have hLH38 := hH
        rw [← (show μ34 1 = μ 1 from (hF36 _ (by omega)))] at hLH38
        have hX39 := XR.cg hX (μ' := μ34) (fun id hid => (hF36 _ (by omega)))
        have hF40 : ∀ id, 41 ≤ id → μ34 id = μ id := fun id hid => (show μ34 id = μ id from (hF36 _ (by omega))).trans (hF id hid)
        refine x_iret rfl d_X3_least_45 ?_
        have e9 : F_least g (nI y) p = fin g 0 := by simp [F_least, x_b_f, x_b_t, ks3, c4, c5, nI_clamp (n := y) (by omega), shO]
        rw [e9]
        exact ⟨rfl, XS.fin hL37 hLH38 hX39 hD35, hF40⟩
    · skip
      refine x_aload_n 1 d_X3_least_24 rfl rfl ?_
      refine x_ldc q414 d_X3_least_25 ?_
      refine x_cvi (k := 0) (as := [.int (-1000006)]) (c_X3_finding l E μ (i := 5) hD (by decide) (w := (-1000006)) (by decide)) v_X3_finding w_X3_finding q183 o_X rfl ⟨Nat.le_of_ble_eq_true rfl, Nat.le_of_ble_eq_true rfl⟩ rfl (Nat.le_of_ble_eq_true rfl) d_X3_least_27 ?_
      rintro _ μ41 ⟨rfl, hD42, hF43⟩
      have hL44 := PR.cg hL (μ' := μ41) (fun id hid => (hF43 _ (by omega)))
      have hLH45 := hH
      rw [← (show μ41 1 = μ 1 from (hF43 _ (by omega)))] at hLH45
      have hX46 := XR.cg hX (μ' := μ41) (fun id hid => (hF43 _ (by omega)))
      have hF47 : ∀ id, 41 ≤ id → μ41 id = μ id := fun id hid => (show μ41 id = μ id from (hF43 _ (by omega))).trans (hF id hid)
      refine x_iret rfl d_X3_least_30 ?_
      have e9 : F_least g (nI y) p = fin g 5 := by simp [F_least, x_b_f, x_b_t, ks3, c4, nI_clamp (n := y) (by omega), shO]
      rw [e9]
      exact ⟨rfl, XS.fin hL44 hLH45 hX46 hD42, hF47⟩
  · skip
    refine x_eqst (st' := [.null]) rfl ?_
    refine x_astore_nN [(3, .null), (0, .ref (E.1 + 0)), (1, .int s), (2, .int p)] d_X3_least_5 rfl (Nat.le_of_ble_eq_true rfl) rfl ?_
    refine x_aload_nN 0 d_X3_least_6 rfl rfl ?_
    refine x_ifnonnullN d_X3_least_7 ?_
    refine x_aload_n 1 d_X3_least_10 rfl rfl ?_
    refine x_ldc q182 d_X3_least_11 ?_
    refine x_cvi (k := 0) (as := [.int (-1000001)]) (c_X3_finding l E μ (i := 0) hD (by decide) (w := (-1000001)) (by decide)) v_X3_finding w_X3_finding q183 o_X rfl ⟨Nat.le_of_ble_eq_true rfl, Nat.le_of_ble_eq_true rfl⟩ rfl (Nat.le_of_ble_eq_true rfl) d_X3_least_13 ?_
    rintro _ μ48 ⟨rfl, hD49, hF50⟩
    have hL51 := PR.cg hL (μ' := μ48) (fun id hid => (hF50 _ (by omega)))
    have hLH52 := hH
    rw [← (show μ48 1 = μ 1 from (hF50 _ (by omega)))] at hLH52
    have hX53 := XR.cg hX (μ' := μ48) (fun id hid => (hF50 _ (by omega)))
    have hF54 : ∀ id, 41 ≤ id → μ48 id = μ id := fun id hid => (show μ48 id = μ id from (hF50 _ (by omega))).trans (hF id hid)
    refine x_iret rfl d_X3_least_16 ?_
    have e9 : F_least g s p = fin g 0 := by simp [F_least, x_b_f, x_b_t, ks3, shO]
    rw [e9]
    exact ⟨rfl, XS.fin hL51 hLH52 hX53 hD49, hF54⟩
