def m_X4_go : x_M := (yX4_go, prog_6_method_38_code, 2, (some FieldType.int), 9, 201)
theorem v_X4_go : x_VM m_X4_go 1 := ⟨q818, q6, by decide +kernel, by decide +kernel, by decide +kernel⟩
theorem w_X4_go : x_VI m_X4_go := ⟨q816, q817⟩
theorem d_X4_go_0 : x_dec m_X4_go 0 (.iload_n 1) 1 1 := ⟨by decide +kernel, rfl⟩
theorem d_X4_go_1 : x_dec m_X4_go 1 (.iconst 1) 1 2 := ⟨by decide +kernel, rfl⟩
theorem d_X4_go_2 : x_dec m_X4_go 2 (.bipush 60) 2 4 := ⟨by decide +kernel, rfl⟩
theorem d_X4_go_4 : x_dec m_X4_go 4 (.invokestatic 46) 3 7 := ⟨by decide +kernel, rfl⟩
theorem d_X4_go_7 : x_dec m_X4_go 7 (.ifCond .ne 10) 3 10 := ⟨by decide +kernel, rfl⟩
theorem d_X4_go_10 : x_dec m_X4_go 10 (.aload_n 0) 1 11 := ⟨by decide +kernel, rfl⟩
theorem d_X4_go_11 : x_dec m_X4_go 11 (.ldc 40) 2 13 := ⟨by decide +kernel, rfl⟩
theorem d_X4_go_13 : x_dec m_X4_go 13 (.invokevirtual 42) 3 16 := ⟨by decide +kernel, rfl⟩
theorem d_X4_go_16 : x_dec m_X4_go 16 (.ireturn) 1 17 := ⟨by decide +kernel, rfl⟩
theorem d_X4_go_17 : x_dec m_X4_go 17 (.aload_n 0) 1 18 := ⟨by decide +kernel, rfl⟩
theorem d_X4_go_18 : x_dec m_X4_go 18 (.getfield 9) 3 21 := ⟨by decide +kernel, rfl⟩
theorem d_X4_go_21 : x_dec m_X4_go 21 (.iconst 0) 1 22 := ⟨by decide +kernel, rfl⟩
theorem d_X4_go_22 : x_dec m_X4_go 22 (.iaload) 1 23 := ⟨by decide +kernel, rfl⟩
theorem d_X4_go_23 : x_dec m_X4_go 23 (.iload_n 1) 1 24 := ⟨by decide +kernel, rfl⟩
theorem d_X4_go_24 : x_dec m_X4_go 24 (.iadd) 1 25 := ⟨by decide +kernel, rfl⟩
theorem d_X4_go_25 : x_dec m_X4_go 25 (.ldc 67) 2 27 := ⟨by decide +kernel, rfl⟩
theorem d_X4_go_27 : x_dec m_X4_go 27 (.if_icmp .le 10) 3 30 := ⟨by decide +kernel, rfl⟩
theorem d_X4_go_30 : x_dec m_X4_go 30 (.aload_n 0) 1 31 := ⟨by decide +kernel, rfl⟩
theorem d_X4_go_31 : x_dec m_X4_go 31 (.ldc 99) 2 33 := ⟨by decide +kernel, rfl⟩
theorem d_X4_go_33 : x_dec m_X4_go 33 (.invokevirtual 42) 3 36 := ⟨by decide +kernel, rfl⟩
theorem d_X4_go_36 : x_dec m_X4_go 36 (.ireturn) 1 37 := ⟨by decide +kernel, rfl⟩
theorem d_X4_go_37 : x_dec m_X4_go 37 (.aload_n 0) 1 38 := ⟨by decide +kernel, rfl⟩
theorem d_X4_go_38 : x_dec m_X4_go 38 (.iload_n 1) 1 39 := ⟨by decide +kernel, rfl⟩
theorem d_X4_go_39 : x_dec m_X4_go 39 (.invokevirtual 113) 3 42 := ⟨by decide +kernel, rfl⟩
theorem d_X4_go_42 : x_dec m_X4_go 42 (.aload_n 0) 1 43 := ⟨by decide +kernel, rfl⟩
theorem d_X4_go_43 : x_dec m_X4_go 43 (.getfield 9) 3 46 := ⟨by decide +kernel, rfl⟩
theorem d_X4_go_46 : x_dec m_X4_go 46 (.iconst 1) 1 47 := ⟨by decide +kernel, rfl⟩
theorem d_X4_go_47 : x_dec m_X4_go 47 (.iaload) 1 48 := ⟨by decide +kernel, rfl⟩
theorem d_X4_go_48 : x_dec m_X4_go 48 (.ireturn) 1 49 := ⟨by decide +kernel, rfl⟩
set_option maxHeartbeats 4000000 in
set_option maxRecDepth 100000 in
theorem c_X4_go (l : Launch) (E : x_E) (μ : x_Mem) (g : x_SG) (hS : MS g μ) (hI : Inv g) (n : Int32) : x_Met l m_X4_go E [.ref (E.1 + 41), .int n] μ (x_I (fun z m => z = (F_go g n).1 ∧ MS (F_go g n).2 m ∧ ∀ id, id < 41 → m id = μ id)) := by
  obtain ⟨hR, hX, hD⟩ := hS
  have hWF := hI.1.1
  have hn7 := hWF.2.1
  have hpn := hWF.1
  have hF : ∀ id, id < 41 → μ id = μ id := fun _ _ => rfl
  refine x_enter (lv := [(0, .ref (E.1 + 41)), (1, .int n)]) (by decide +kernel) (Nat.le_of_ble_eq_true rfl) rfl ?_
  refine x_iload_n 1 d_X4_go_0 rfl rfl ?_
  refine x_iconst (x := 1) d_X4_go_1 (by decide) ?_
  refine x_bipush (x := 60) d_X4_go_2 (by decide) ?_
  refine x_csip (as := [.int n, .int 1, .int 60]) (c_X4_in l E μ n 1 60) v_X4_in q728 q727 rfl ⟨Nat.le_of_ble_eq_true rfl, Nat.le_of_ble_eq_true rfl⟩ rfl (Nat.le_of_ble_eq_true rfl) d_X4_go_4 ?_
  refine x_ifb_ne 17 d_X4_go_7 (by decide) (fun c1 => ?_) (fun c1 => ?_)
  · skip
    obtain ⟨h, hh, rfl⟩ := (inR_nat2 (a := 1) (n := 60) (by decide) (by decide) c1)
    refine x_aload_n 0 d_X4_go_17 rfl rfl ?_
    refine x_getr (j := 0) 42 x_c4 rfl (Nat.le_of_ble_eq_true rfl) q668 rfl d_X4_go_18 ?_
    refine x_iconst (x := 0) d_X4_go_21 (by decide) ?_
    refine x_ialdN (z := (gA g) 0) 58 0 rfl rfl (by omega) (by decide) (hR 0 (by omega)) d_X4_go_22 ?_
    refine x_iload_n 1 d_X4_go_23 rfl rfl ?_
    refine x_iadd d_X4_go_24 ?_
    refine x_ldc q769 d_X4_go_25 ?_
    refine x_icmp_le 37 d_X4_go_27 (by decide) (fun c2 => ?_) (fun c2 => ?_)
    · skip
      refine x_aload_n 0 d_X4_go_37 rfl rfl ?_
      refine x_iload_n 1 d_X4_go_38 rfl rfl ?_
      refine x_cvv (k := 41) (as := [.int (nI h)]) (c_X4_goesOn l E μ hR hWF (h := h) (by omega)) v_X4_goesOn w_X4_goesOn q819 o_M rfl ⟨Nat.le_of_ble_eq_true rfl, Nat.le_of_ble_eq_true rfl⟩ rfl (Nat.le_of_ble_eq_true rfl) d_X4_go_39 ?_
      rintro μ3 ⟨hR4, hF5⟩
      have hX6 := MX.cg hX (μ' := μ3) (fun id hid => (hF5 _ (by omega)))
      have hD7 := MD.cg hD (μ' := μ3) (fun id hid => (hF5 _ (by omega)))
      have hF8 : ∀ id, id < 41 → μ3 id = μ id := fun id hid => (show μ3 id = μ id from (hF5 _ (by omega))).trans (hF id hid)
      refine x_aload_n 0 d_X4_go_42 rfl rfl ?_
      refine x_getr (j := 0) 42 x_c4 rfl (Nat.le_of_ble_eq_true rfl) q668 rfl d_X4_go_43 ?_
      refine x_iconst (x := 1) d_X4_go_46 (by decide) ?_
      refine x_ialdN (z := (hoursF (gA g) h) 1) 58 1 rfl rfl (by omega) (by decide) (hR4 1 (by omega)) d_X4_go_47 ?_
      refine x_iret rfl d_X4_go_48 ?_
      have e9 : F_go g (nI h) = ((hoursF (gA g) h) 1, sA g (hoursF (gA g) h)) := by simp [F_go, x_b_f, x_b_t, c1, nI_clamp (n := h) (by omega), show ¬ 99999 < gA g 0 + nI h from Int32.not_lt.mpr c2]
      rw [e9]
      exact ⟨rfl, MS.line hR4 hX6 hD7, hF8⟩
    · skip
      refine x_aload_n 0 d_X4_go_30 rfl rfl ?_
      refine x_ldc q810 d_X4_go_31 ?_
      refine x_cvi (k := 41) (as := [.int (-1000005)]) (c_X4_finds l E μ (i := 4) hD (by decide) (w := (-1000005)) (by decide)) v_X4_finds w_X4_finds q735 o_M rfl ⟨Nat.le_of_ble_eq_true rfl, Nat.le_of_ble_eq_true rfl⟩ rfl (Nat.le_of_ble_eq_true rfl) d_X4_go_33 ?_
      rintro _ μ9 ⟨rfl, hD10, hF11⟩
      have hR12 := MR.cg hR (μ' := μ9) (fun id hid => (hF11 _ (by omega)))
      have hX13 := MX.cg hX (μ' := μ9) (fun id hid => (hF11 _ (by omega)))
      have hF14 : ∀ id, id < 41 → μ9 id = μ id := fun id hid => (show μ9 id = μ id from (hF11 _ (by omega))).trans (hF id hid)
      refine x_iret rfl d_X4_go_36 ?_
      have e9 : F_go g (nI h) = fin g 4 := by simp [F_go, x_b_f, x_b_t, c1, nI_clamp (n := h) (by omega), show 99999 < gA g 0 + nI h from Int32.not_le.mp c2]
      rw [e9]
      exact ⟨rfl, MS.fin hR12 hX13 hD10, hF14⟩
  · skip
    refine x_aload_n 0 d_X4_go_10 rfl rfl ?_
    refine x_ldc q734 d_X4_go_11 ?_
    refine x_cvi (k := 41) (as := [.int (-1000001)]) (c_X4_finds l E μ (i := 0) hD (by decide) (w := (-1000001)) (by decide)) v_X4_finds w_X4_finds q735 o_M rfl ⟨Nat.le_of_ble_eq_true rfl, Nat.le_of_ble_eq_true rfl⟩ rfl (Nat.le_of_ble_eq_true rfl) d_X4_go_13 ?_
    rintro _ μ15 ⟨rfl, hD16, hF17⟩
    have hR18 := MR.cg hR (μ' := μ15) (fun id hid => (hF17 _ (by omega)))
    have hX19 := MX.cg hX (μ' := μ15) (fun id hid => (hF17 _ (by omega)))
    have hF20 : ∀ id, id < 41 → μ15 id = μ id := fun id hid => (show μ15 id = μ id from (hF17 _ (by omega))).trans (hF id hid)
    refine x_iret rfl d_X4_go_16 ?_
    have e9 : F_go g n = fin g 0 := by simp [F_go, x_b_f, x_b_t, c1]
    rw [e9]
    exact ⟨rfl, MS.fin hR18 hX19 hD16, hF20⟩
def m_X4_worth : x_M := (yX4_worth, prog_6_method_67_code, 3, (some FieldType.int), 6, 136)
theorem v_X4_worth : x_VM m_X4_worth 0 := ⟨q980, q6, by decide +kernel, by decide +kernel, by decide +kernel⟩
theorem w_X4_worth : x_VI m_X4_worth := ⟨q978, q979⟩
theorem d_X4_worth_0 : x_dec m_X4_worth 0 (.iconst 0) 1 1 := ⟨by decide +kernel, rfl⟩
theorem d_X4_worth_1 : x_dec m_X4_worth 1 (.istore_n 1) 1 2 := ⟨by decide +kernel, rfl⟩
theorem d_X4_worth_2 : x_dec m_X4_worth 2 (.iconst 0) 1 3 := ⟨by decide +kernel, rfl⟩
theorem d_X4_worth_3 : x_dec m_X4_worth 3 (.istore_n 2) 1 4 := ⟨by decide +kernel, rfl⟩
theorem d_X4_worth_4 : x_dec m_X4_worth 4 (.iload_n 2) 1 5 := ⟨by decide +kernel, rfl⟩
theorem d_X4_worth_5 : x_dec m_X4_worth 5 (.bipush 16) 2 7 := ⟨by decide +kernel, rfl⟩
theorem d_X4_worth_7 : x_dec m_X4_worth 7 (.if_icmp .ge 33) 3 10 := ⟨by decide +kernel, rfl⟩
theorem d_X4_worth_10 : x_dec m_X4_worth 10 (.iload_n 1) 1 11 := ⟨by decide +kernel, rfl⟩
theorem d_X4_worth_11 : x_dec m_X4_worth 11 (.aload_n 0) 1 12 := ⟨by decide +kernel, rfl⟩
theorem d_X4_worth_12 : x_dec m_X4_worth 12 (.iload_n 2) 1 13 := ⟨by decide +kernel, rfl⟩
theorem d_X4_worth_13 : x_dec m_X4_worth 13 (.invokevirtual 74) 3 16 := ⟨by decide +kernel, rfl⟩
theorem d_X4_worth_16 : x_dec m_X4_worth 16 (.ifCond .eq 15) 3 19 := ⟨by decide +kernel, rfl⟩
theorem d_X4_worth_19 : x_dec m_X4_worth 19 (.aload_n 0) 1 20 := ⟨by decide +kernel, rfl⟩
theorem d_X4_worth_20 : x_dec m_X4_worth 20 (.getfield 9) 3 23 := ⟨by decide +kernel, rfl⟩
theorem d_X4_worth_23 : x_dec m_X4_worth 23 (.bipush 8) 2 25 := ⟨by decide +kernel, rfl⟩
theorem d_X4_worth_25 : x_dec m_X4_worth 25 (.iload_n 2) 1 26 := ⟨by decide +kernel, rfl⟩
theorem d_X4_worth_26 : x_dec m_X4_worth 26 (.iadd) 1 27 := ⟨by decide +kernel, rfl⟩
theorem d_X4_worth_27 : x_dec m_X4_worth 27 (.iaload) 1 28 := ⟨by decide +kernel, rfl⟩
theorem d_X4_worth_28 : x_dec m_X4_worth 28 (.goto 4) 3 31 := ⟨by decide +kernel, rfl⟩
theorem d_X4_worth_31 : x_dec m_X4_worth 31 (.iconst 0) 1 32 := ⟨by decide +kernel, rfl⟩
theorem d_X4_worth_32 : x_dec m_X4_worth 32 (.iadd) 1 33 := ⟨by decide +kernel, rfl⟩
theorem d_X4_worth_33 : x_dec m_X4_worth 33 (.istore_n 1) 1 34 := ⟨by decide +kernel, rfl⟩
theorem d_X4_worth_34 : x_dec m_X4_worth 34 (.iinc 2 1) 3 37 := ⟨by decide +kernel, rfl⟩
theorem d_X4_worth_37 : x_dec m_X4_worth 37 (.goto (-33)) 3 40 := ⟨by decide +kernel, rfl⟩
theorem d_X4_worth_40 : x_dec m_X4_worth 40 (.iload_n 1) 1 41 := ⟨by decide +kernel, rfl⟩
theorem d_X4_worth_41 : x_dec m_X4_worth 41 (.ireturn) 1 42 := ⟨by decide +kernel, rfl⟩
set_option maxHeartbeats 4000000 in
set_option maxRecDepth 100000 in
theorem c_X4_worth (l : Launch) (E : x_E) (μ : x_Mem) (g : x_SG) (hS : MS g μ) (hI : Inv g) : x_Met l m_X4_worth E [.ref (E.1 + 41)] μ (x_I (fun z m => z = (F_worth g).1 ∧ MS (F_worth g).2 m ∧ ∀ id, id < 41 → m id = μ id)) := by
  obtain ⟨hR, hX, hD⟩ := hS
  have hWF := hI.1.1
  have hn7 := hWF.2.1
  have hpn := hWF.1
  have hF : ∀ id, id < 41 → μ id = μ id := fun _ _ => rfl
  refine x_enter (lv := [(0, .ref (E.1 + 41))]) (by decide +kernel) (Nat.le_of_ble_eq_true rfl) rfl ?_
  refine x_iconst (x := 0) d_X4_worth_0 (by decide) ?_
  refine x_istore_n [(1, .int 0), (0, .ref (E.1 + 41))] d_X4_worth_1 rfl (Nat.le_of_ble_eq_true rfl) rfl ?_
  refine x_iconst (x := 0) d_X4_worth_2 (by decide) ?_
  refine x_istore_n [(2, .int 0), (1, .int 0), (0, .ref (E.1 + 41))] d_X4_worth_3 rfl (Nat.le_of_ble_eq_true rfl) rfl ?_
  have L1 : ∀ i : Nat, i ≤ 16 → ∀ r : Int32, (r = sumTo (fun k => if thereB (gA g) k = true then gA g (8 + k) else 0) i) → x_G l E m_X4_worth (x_mv E m_X4_worth (x_I (fun z m => z = (F_worth g).1 ∧ MS (F_worth g).2 m ∧ ∀ id, id < 41 → m id = μ id))) μ 4 [(2, .int (nI i)), (1, .int r), (0, .ref (E.1 + 41))] [] := by
    refine x_down _ 16 (fun i hi3 ih2 => ?_)
    intro r hr
    refine x_iload_n 0 d_X4_worth_4 rfl rfl ?_
    refine x_bipush (x := 16) d_X4_worth_5 (by decide) ?_
    refine x_icmp_ge 40 d_X4_worth_7 (by decide) (fun c4 => ?_) (fun c4 => ?_)
    · skip
      have hN := x_ge (N := 16) c4 rfl rfl (by omega) (by omega)
      refine x_iload_n 1 d_X4_worth_40 rfl rfl ?_
      refine x_iret rfl d_X4_worth_41 ?_
      have e7 : i = 16 := by omega
      subst e7
      exact ⟨hr, ⟨hR, hX, hD⟩, hF⟩
    · skip
      have hN := x_lt (N := 16) c4 rfl rfl (by omega) (by omega)
      refine x_iload_n 1 d_X4_worth_10 rfl rfl ?_
      refine x_aload_n 2 d_X4_worth_11 rfl rfl ?_
      refine x_iload_n 0 d_X4_worth_12 rfl rfl ?_
      refine x_cvip (k := 41) (as := [.int (nI i)]) (c_X4_isThere l E μ hR hWF (k := i) (by omega)) v_X4_isThere w_X4_isThere q770 o_M rfl ⟨Nat.le_of_ble_eq_true rfl, Nat.le_of_ble_eq_true rfl⟩ rfl (Nat.le_of_ble_eq_true rfl) d_X4_worth_13 ?_
      refine x_ifb_eq 31 d_X4_worth_16 (by decide) (fun c5 => ?_) (fun c5 => ?_)
      · skip
        refine x_iconst (x := 0) d_X4_worth_31 (by decide) ?_
        refine x_iadd d_X4_worth_32 ?_
        refine x_istore_n [(1, .int (r + 0)), (2, .int (nI i)), (0, .ref (E.1 + 41))] d_X4_worth_33 rfl (Nat.le_of_ble_eq_true rfl) rfl ?_
        refine x_iinc [(2, .int (nI (i + 1))), (1, .int (r + 0)), (0, .ref (E.1 + 41))] 1 d_X4_worth_34 rfl (x_inc _) (Nat.le_of_ble_eq_true rfl) rfl ?_
        refine x_goto 4 d_X4_worth_37 (by decide) ?_
        exact ih2 (i + 1) (by omega) (by omega) (r + 0) (by rw [hr, sumTo, if_neg (by rw [c5]; decide)])
      · skip
        refine x_aload_n 2 d_X4_worth_19 rfl rfl ?_
        refine x_getr (j := 0) 42 x_c4 rfl (Nat.le_of_ble_eq_true rfl) q668 rfl d_X4_worth_20 ?_
        refine x_bipush (x := 8) d_X4_worth_23 (by decide) ?_
        refine x_iload_n 0 d_X4_worth_25 rfl rfl ?_
        refine x_iadd d_X4_worth_26 ?_
        rw [show (8 : Int32) + (nI i) = nI (8 + i) from nI_add 8 i]
        refine x_ialdN (z := (gA g) (8 + i)) 58 (8 + i) rfl rfl (by omega) (by decide) (hR (8 + i) (by omega)) d_X4_worth_27 ?_
        refine x_goto 32 d_X4_worth_28 (by decide) ?_
        refine x_iadd d_X4_worth_32 ?_
        refine x_istore_n [(1, .int (r + ((gA g) (8 + i)))), (2, .int (nI i)), (0, .ref (E.1 + 41))] d_X4_worth_33 rfl (Nat.le_of_ble_eq_true rfl) rfl ?_
        refine x_iinc [(2, .int (nI (i + 1))), (1, .int (r + ((gA g) (8 + i)))), (0, .ref (E.1 + 41))] 1 d_X4_worth_34 rfl (x_inc _) (Nat.le_of_ble_eq_true rfl) rfl ?_
        refine x_goto 4 d_X4_worth_37 (by decide) ?_
        exact ih2 (i + 1) (by omega) (by omega) (r + ((gA g) (8 + i))) (by rw [hr, sumTo, if_pos c5])
  exact L1 0 (by omega) 0 (by rfl)
def m_X4_hangs : x_M := (yX4_hangs, prog_6_method_68_code, 4, (some FieldType.int), 6, 136)
theorem v_X4_hangs : x_VM m_X4_hangs 1 := ⟨q984, q6, by decide +kernel, by decide +kernel, by decide +kernel⟩
theorem w_X4_hangs : x_VI m_X4_hangs := ⟨q982, q983⟩
theorem d_X4_hangs_0 : x_dec m_X4_hangs 0 (.aload_n 0) 1 1 := ⟨by decide +kernel, rfl⟩
theorem d_X4_hangs_1 : x_dec m_X4_hangs 1 (.iload_n 1) 1 2 := ⟨by decide +kernel, rfl⟩
theorem d_X4_hangs_2 : x_dec m_X4_hangs 2 (.invokevirtual 92) 3 5 := ⟨by decide +kernel, rfl⟩
theorem d_X4_hangs_5 : x_dec m_X4_hangs 5 (.ifCond .ne 10) 3 8 := ⟨by decide +kernel, rfl⟩
theorem d_X4_hangs_8 : x_dec m_X4_hangs 8 (.aload_n 0) 1 9 := ⟨by decide +kernel, rfl⟩
theorem d_X4_hangs_9 : x_dec m_X4_hangs 9 (.ldc 40) 2 11 := ⟨by decide +kernel, rfl⟩
theorem d_X4_hangs_11 : x_dec m_X4_hangs 11 (.invokevirtual 42) 3 14 := ⟨by decide +kernel, rfl⟩
theorem d_X4_hangs_14 : x_dec m_X4_hangs 14 (.ireturn) 1 15 := ⟨by decide +kernel, rfl⟩
theorem d_X4_hangs_15 : x_dec m_X4_hangs 15 (.iconst 0) 1 16 := ⟨by decide +kernel, rfl⟩
theorem d_X4_hangs_16 : x_dec m_X4_hangs 16 (.istore_n 2) 1 17 := ⟨by decide +kernel, rfl⟩
theorem d_X4_hangs_17 : x_dec m_X4_hangs 17 (.iconst 0) 1 18 := ⟨by decide +kernel, rfl⟩
theorem d_X4_hangs_18 : x_dec m_X4_hangs 18 (.istore_n 3) 1 19 := ⟨by decide +kernel, rfl⟩
theorem d_X4_hangs_19 : x_dec m_X4_hangs 19 (.iload_n 3) 1 20 := ⟨by decide +kernel, rfl⟩
theorem d_X4_hangs_20 : x_dec m_X4_hangs 20 (.bipush 16) 2 22 := ⟨by decide +kernel, rfl⟩
theorem d_X4_hangs_22 : x_dec m_X4_hangs 22 (.if_icmp .ge 49) 3 25 := ⟨by decide +kernel, rfl⟩
theorem d_X4_hangs_25 : x_dec m_X4_hangs 25 (.iload_n 2) 1 26 := ⟨by decide +kernel, rfl⟩
theorem d_X4_hangs_26 : x_dec m_X4_hangs 26 (.aload_n 0) 1 27 := ⟨by decide +kernel, rfl⟩
theorem d_X4_hangs_27 : x_dec m_X4_hangs 27 (.iload_n 3) 1 28 := ⟨by decide +kernel, rfl⟩
theorem d_X4_hangs_28 : x_dec m_X4_hangs 28 (.invokevirtual 74) 3 31 := ⟨by decide +kernel, rfl⟩
theorem d_X4_hangs_31 : x_dec m_X4_hangs 31 (.ifCond .eq 31) 3 34 := ⟨by decide +kernel, rfl⟩
theorem d_X4_hangs_34 : x_dec m_X4_hangs 34 (.aload_n 0) 1 35 := ⟨by decide +kernel, rfl⟩
theorem d_X4_hangs_35 : x_dec m_X4_hangs 35 (.iload_n 3) 1 36 := ⟨by decide +kernel, rfl⟩
theorem d_X4_hangs_36 : x_dec m_X4_hangs 36 (.invokevirtual 71) 3 39 := ⟨by decide +kernel, rfl⟩
theorem d_X4_hangs_39 : x_dec m_X4_hangs 39 (.aload_n 0) 1 40 := ⟨by decide +kernel, rfl⟩
theorem d_X4_hangs_40 : x_dec m_X4_hangs 40 (.iload_n 1) 1 41 := ⟨by decide +kernel, rfl⟩
theorem d_X4_hangs_41 : x_dec m_X4_hangs 41 (.iload_n 3) 1 42 := ⟨by decide +kernel, rfl⟩
theorem d_X4_hangs_42 : x_dec m_X4_hangs 42 (.invokevirtual 68) 3 45 := ⟨by decide +kernel, rfl⟩
theorem d_X4_hangs_45 : x_dec m_X4_hangs 45 (.isub) 1 46 := ⟨by decide +kernel, rfl⟩
theorem d_X4_hangs_46 : x_dec m_X4_hangs 46 (.aload_n 0) 1 47 := ⟨by decide +kernel, rfl⟩
theorem d_X4_hangs_47 : x_dec m_X4_hangs 47 (.getfield 9) 3 50 := ⟨by decide +kernel, rfl⟩
theorem d_X4_hangs_50 : x_dec m_X4_hangs 50 (.bipush 8) 2 52 := ⟨by decide +kernel, rfl⟩
theorem d_X4_hangs_52 : x_dec m_X4_hangs 52 (.iload_n 3) 1 53 := ⟨by decide +kernel, rfl⟩
theorem d_X4_hangs_53 : x_dec m_X4_hangs 53 (.iadd) 1 54 := ⟨by decide +kernel, rfl⟩
theorem d_X4_hangs_54 : x_dec m_X4_hangs 54 (.iaload) 1 55 := ⟨by decide +kernel, rfl⟩
theorem d_X4_hangs_55 : x_dec m_X4_hangs 55 (.if_icmp .ge 7) 3 58 := ⟨by decide +kernel, rfl⟩
theorem d_X4_hangs_58 : x_dec m_X4_hangs 58 (.iconst 1) 1 59 := ⟨by decide +kernel, rfl⟩
theorem d_X4_hangs_59 : x_dec m_X4_hangs 59 (.goto 4) 3 62 := ⟨by decide +kernel, rfl⟩
theorem d_X4_hangs_62 : x_dec m_X4_hangs 62 (.iconst 0) 1 63 := ⟨by decide +kernel, rfl⟩
theorem d_X4_hangs_63 : x_dec m_X4_hangs 63 (.iadd) 1 64 := ⟨by decide +kernel, rfl⟩
theorem d_X4_hangs_64 : x_dec m_X4_hangs 64 (.istore_n 2) 1 65 := ⟨by decide +kernel, rfl⟩
theorem d_X4_hangs_65 : x_dec m_X4_hangs 65 (.iinc 3 1) 3 68 := ⟨by decide +kernel, rfl⟩
theorem d_X4_hangs_68 : x_dec m_X4_hangs 68 (.goto (-49)) 3 71 := ⟨by decide +kernel, rfl⟩
theorem d_X4_hangs_71 : x_dec m_X4_hangs 71 (.iload_n 2) 1 72 := ⟨by decide +kernel, rfl⟩
theorem d_X4_hangs_72 : x_dec m_X4_hangs 72 (.ireturn) 1 73 := ⟨by decide +kernel, rfl⟩
set_option maxHeartbeats 4000000 in
set_option maxRecDepth 100000 in
theorem c_X4_hangs (l : Launch) (E : x_E) (μ : x_Mem) (g : x_SG) (hS : MS g μ) (hI : Inv g) (p : Int32) : x_Met l m_X4_hangs E [.ref (E.1 + 41), .int p] μ (x_I (fun z m => z = (F_hangs g p).1 ∧ MS (F_hangs g p).2 m ∧ ∀ id, id < 41 → m id = μ id)) := by
  obtain ⟨hR, hX, hD⟩ := hS
  have hWF := hI.1.1
  have hn7 := hWF.2.1
  have hpn := hWF.1
  have hF : ∀ id, id < 41 → μ id = μ id := fun _ _ => rfl
  refine x_enter (lv := [(0, .ref (E.1 + 41)), (1, .int p)]) (by decide +kernel) (Nat.le_of_ble_eq_true rfl) rfl ?_
  refine x_aload_n 0 d_X4_hangs_0 rfl rfl ?_
  refine x_iload_n 1 d_X4_hangs_1 rfl rfl ?_
  refine x_cvip (k := 41) (as := [.int p]) (c_X4_isOne l E μ hR hWF p) v_X4_isOne w_X4_isOne q791 o_M rfl ⟨Nat.le_of_ble_eq_true rfl, Nat.le_of_ble_eq_true rfl⟩ rfl (Nat.le_of_ble_eq_true rfl) d_X4_hangs_2 ?_
  refine x_ifb_ne 15 d_X4_hangs_5 (by decide) (fun c1 => ?_) (fun c1 => ?_)
  · skip
    obtain ⟨q, hq, rfl⟩ := isP_nat hWF c1
    refine x_iconst (x := 0) d_X4_hangs_15 (by decide) ?_
    refine x_istore_n [(2, .int 0), (0, .ref (E.1 + 41)), (1, .int (nI q))] d_X4_hangs_16 rfl (Nat.le_of_ble_eq_true rfl) rfl ?_
    refine x_iconst (x := 0) d_X4_hangs_17 (by decide) ?_
    refine x_istore_n [(3, .int 0), (2, .int 0), (0, .ref (E.1 + 41)), (1, .int (nI q))] d_X4_hangs_18 rfl (Nat.le_of_ble_eq_true rfl) rfl ?_
    have L2 : ∀ i : Nat, i ≤ 16 → ∀ r : Int32, (r = cntTo 0 (fun k => thereB (gA g) k && decide (sumF (gA g) (nI k) - bringsF (gA g) q (nI k) < gA g (8 + k))) i) → x_G l E m_X4_hangs (x_mv E m_X4_hangs (x_I (fun z m => z = (F_hangs g (nI q)).1 ∧ MS (F_hangs g (nI q)).2 m ∧ ∀ id, id < 41 → m id = μ id))) μ 19 [(3, .int (nI i)), (2, .int r), (0, .ref (E.1 + 41)), (1, .int (nI q))] [] := by
      refine x_down _ 16 (fun i hi4 ih3 => ?_)
      intro r hr
      refine x_iload_n 0 d_X4_hangs_19 rfl rfl ?_
      refine x_bipush (x := 16) d_X4_hangs_20 (by decide) ?_
      refine x_icmp_ge 71 d_X4_hangs_22 (by decide) (fun c5 => ?_) (fun c5 => ?_)
      · skip
        have hN := x_ge (N := 16) c5 rfl rfl (by omega) (by omega)
        refine x_iload_n 1 d_X4_hangs_71 rfl rfl ?_
        refine x_iret rfl d_X4_hangs_72 ?_
        have e7 : i = 16 := by omega
        subst e7
        subst hr
        have e9 : F_hangs g (nI q) = (cntTo 0 (fun k => thereB (gA g) k && decide (sumF (gA g) (nI k) - bringsF (gA g) q (nI k) < gA g (8 + k))) 16, g) := by simp [F_hangs, x_b_f, x_b_t, c1, nI_clamp (n := q) (by omega)]
        rw [e9]
        exact ⟨rfl, ⟨hR, hX, hD⟩, hF⟩
      · skip
        have hN := x_lt (N := 16) c5 rfl rfl (by omega) (by omega)
        refine x_iload_n 1 d_X4_hangs_25 rfl rfl ?_
        refine x_aload_n 2 d_X4_hangs_26 rfl rfl ?_
        refine x_iload_n 0 d_X4_hangs_27 rfl rfl ?_
        refine x_cvip (k := 41) (as := [.int (nI i)]) (c_X4_isThere l E μ hR hWF (k := i) (by omega)) v_X4_isThere w_X4_isThere q770 o_M rfl ⟨Nat.le_of_ble_eq_true rfl, Nat.le_of_ble_eq_true rfl⟩ rfl (Nat.le_of_ble_eq_true rfl) d_X4_hangs_28 ?_
        refine x_ifb_eq 62 d_X4_hangs_31 (by decide) (fun c6 => ?_) (fun c6 => ?_)
        · skip
          refine x_iconst (x := 0) d_X4_hangs_62 (by decide) ?_
          refine x_iadd d_X4_hangs_63 ?_
          refine x_istore_n [(2, .int (r + 0)), (3, .int (nI i)), (0, .ref (E.1 + 41)), (1, .int (nI q))] d_X4_hangs_64 rfl (Nat.le_of_ble_eq_true rfl) rfl ?_
          refine x_iinc [(3, .int (nI (i + 1))), (2, .int (r + 0)), (0, .ref (E.1 + 41)), (1, .int (nI q))] 1 d_X4_hangs_65 rfl (x_inc _) (Nat.le_of_ble_eq_true rfl) rfl ?_
          refine x_goto 19 d_X4_hangs_68 (by decide) ?_
          exact ih3 (i + 1) (by omega) (by omega) (r + 0) (by rw [hr, cntTo, if_neg (by rw [c6]; exact Bool.false_ne_true), Int32.add_zero])
        · skip
          refine x_aload_n 2 d_X4_hangs_34 rfl rfl ?_
          refine x_iload_n 0 d_X4_hangs_35 rfl rfl ?_
          refine x_cvip (k := 41) (as := [.int (nI i)]) (c_X4_sumAt l E μ hR hWF (k := i) (by omega)) v_X4_sumAt w_X4_sumAt q743 o_M rfl ⟨Nat.le_of_ble_eq_true rfl, Nat.le_of_ble_eq_true rfl⟩ rfl (Nat.le_of_ble_eq_true rfl) d_X4_hangs_36 ?_
          refine x_aload_n 2 d_X4_hangs_39 rfl rfl ?_
          refine x_iload_n 3 d_X4_hangs_40 rfl rfl ?_
          refine x_iload_n 0 d_X4_hangs_41 rfl rfl ?_
          refine x_cvip (k := 41) (as := [.int (nI q), .int (nI i)]) (c_X4_brings l E μ hR hWF (p := q) (k := i) (by omega) (by omega)) v_X4_brings w_X4_brings q747 o_M rfl ⟨Nat.le_of_ble_eq_true rfl, Nat.le_of_ble_eq_true rfl⟩ rfl (Nat.le_of_ble_eq_true rfl) d_X4_hangs_42 ?_
          refine x_isub d_X4_hangs_45 ?_
          refine x_aload_n 2 d_X4_hangs_46 rfl rfl ?_
          refine x_getr (j := 0) 42 x_c4 rfl (Nat.le_of_ble_eq_true rfl) q668 rfl d_X4_hangs_47 ?_
          refine x_bipush (x := 8) d_X4_hangs_50 (by decide) ?_
          refine x_iload_n 0 d_X4_hangs_52 rfl rfl ?_
          refine x_iadd d_X4_hangs_53 ?_
          rw [show (8 : Int32) + (nI i) = nI (8 + i) from nI_add 8 i]
          refine x_ialdN (z := (gA g) (8 + i)) 58 (8 + i) rfl rfl (by omega) (by decide) (hR (8 + i) (by omega)) d_X4_hangs_54 ?_
          refine x_icmp_ge 62 d_X4_hangs_55 (by decide) (fun c7 => ?_) (fun c7 => ?_)
          · skip
            refine x_iconst (x := 0) d_X4_hangs_62 (by decide) ?_
            refine x_iadd d_X4_hangs_63 ?_
            refine x_istore_n [(2, .int (r + 0)), (3, .int (nI i)), (0, .ref (E.1 + 41)), (1, .int (nI q))] d_X4_hangs_64 rfl (Nat.le_of_ble_eq_true rfl) rfl ?_
            refine x_iinc [(3, .int (nI (i + 1))), (2, .int (r + 0)), (0, .ref (E.1 + 41)), (1, .int (nI q))] 1 d_X4_hangs_65 rfl (x_inc _) (Nat.le_of_ble_eq_true rfl) rfl ?_
            refine x_goto 19 d_X4_hangs_68 (by decide) ?_
            exact ih3 (i + 1) (by omega) (by omega) (r + 0) (by rw [hr, cntTo, if_neg (by rw [decide_eq_false (Int32.not_lt.mpr c7)]; simp), Int32.add_zero])
          · skip
            refine x_iconst (x := 1) d_X4_hangs_58 (by decide) ?_
            refine x_goto 63 d_X4_hangs_59 (by decide) ?_
            refine x_iadd d_X4_hangs_63 ?_
            refine x_istore_n [(2, .int (r + 1)), (3, .int (nI i)), (0, .ref (E.1 + 41)), (1, .int (nI q))] d_X4_hangs_64 rfl (Nat.le_of_ble_eq_true rfl) rfl ?_
            refine x_iinc [(3, .int (nI (i + 1))), (2, .int (r + 1)), (0, .ref (E.1 + 41)), (1, .int (nI q))] 1 d_X4_hangs_65 rfl (x_inc _) (Nat.le_of_ble_eq_true rfl) rfl ?_
            refine x_goto 19 d_X4_hangs_68 (by decide) ?_
            exact ih3 (i + 1) (by omega) (by omega) (r + 1) (by rw [hr, cntTo, if_pos (by rw [c6, decide_eq_true (Int32.not_le.mp c7)]; rfl)])
    exact L2 0 (by omega) 0 (by rfl)
  · skip
    refine x_aload_n 0 d_X4_hangs_8 rfl rfl ?_
    refine x_ldc q734 d_X4_hangs_9 ?_
    refine x_cvi (k := 41) (as := [.int (-1000001)]) (c_X4_finds l E μ (i := 0) hD (by decide) (w := (-1000001)) (by decide)) v_X4_finds w_X4_finds q735 o_M rfl ⟨Nat.le_of_ble_eq_true rfl, Nat.le_of_ble_eq_true rfl⟩ rfl (Nat.le_of_ble_eq_true rfl) d_X4_hangs_11 ?_
    rintro _ μ8 ⟨rfl, hD9, hF10⟩
    have hR11 := MR.cg hR (μ' := μ8) (fun id hid => (hF10 _ (by omega)))
    have hX12 := MX.cg hX (μ' := μ8) (fun id hid => (hF10 _ (by omega)))
    have hF13 : ∀ id, id < 41 → μ8 id = μ id := fun id hid => (show μ8 id = μ id from (hF10 _ (by omega))).trans (hF id hid)
    refine x_iret rfl d_X4_hangs_14 ?_
    have e9 : F_hangs g p = fin g 0 := by simp [F_hangs, x_b_f, x_b_t, c1]
    rw [e9]
    exact ⟨rfl, MS.fin hR11 hX12 hD9, hF13⟩
def m_X4_when : x_M := (yX4_when, prog_6_method_45_code, 3, (some FieldType.int), 8, 179)
theorem v_X4_when : x_VM m_X4_when 1 := ⟨q881, q6, by decide +kernel, by decide +kernel, by decide +kernel⟩
theorem w_X4_when : x_VI m_X4_when := ⟨q879, q880⟩
theorem d_X4_when_0 : x_dec m_X4_when 0 (.iload_n 1) 1 1 := ⟨by decide +kernel, rfl⟩
theorem d_X4_when_1 : x_dec m_X4_when 1 (.invokestatic 140) 3 4 := ⟨by decide +kernel, rfl⟩
theorem d_X4_when_4 : x_dec m_X4_when 4 (.ifCond .ne 10) 3 7 := ⟨by decide +kernel, rfl⟩
theorem d_X4_when_7 : x_dec m_X4_when 7 (.aload_n 0) 1 8 := ⟨by decide +kernel, rfl⟩
theorem d_X4_when_8 : x_dec m_X4_when 8 (.ldc 40) 2 10 := ⟨by decide +kernel, rfl⟩
theorem d_X4_when_10 : x_dec m_X4_when 10 (.invokevirtual 42) 3 13 := ⟨by decide +kernel, rfl⟩
theorem d_X4_when_13 : x_dec m_X4_when 13 (.ireturn) 1 14 := ⟨by decide +kernel, rfl⟩
theorem d_X4_when_14 : x_dec m_X4_when 14 (.aload_n 0) 1 15 := ⟨by decide +kernel, rfl⟩
theorem d_X4_when_15 : x_dec m_X4_when 15 (.invokevirtual 134) 3 18 := ⟨by decide +kernel, rfl⟩
theorem d_X4_when_18 : x_dec m_X4_when 18 (.iconst 0) 1 19 := ⟨by decide +kernel, rfl⟩
theorem d_X4_when_19 : x_dec m_X4_when 19 (.istore_n 2) 1 20 := ⟨by decide +kernel, rfl⟩
theorem d_X4_when_20 : x_dec m_X4_when 20 (.iload_n 2) 1 21 := ⟨by decide +kernel, rfl⟩
theorem d_X4_when_21 : x_dec m_X4_when 21 (.bipush 100) 2 23 := ⟨by decide +kernel, rfl⟩
theorem d_X4_when_23 : x_dec m_X4_when 23 (.if_icmp .gt 23) 3 26 := ⟨by decide +kernel, rfl⟩
theorem d_X4_when_26 : x_dec m_X4_when 26 (.aload_n 0) 1 27 := ⟨by decide +kernel, rfl⟩
theorem d_X4_when_27 : x_dec m_X4_when 27 (.getfield 9) 3 30 := ⟨by decide +kernel, rfl⟩
theorem d_X4_when_30 : x_dec m_X4_when 30 (.iconst 1) 1 31 := ⟨by decide +kernel, rfl⟩
theorem d_X4_when_31 : x_dec m_X4_when 31 (.iaload) 1 32 := ⟨by decide +kernel, rfl⟩
theorem d_X4_when_32 : x_dec m_X4_when 32 (.iload_n 1) 1 33 := ⟨by decide +kernel, rfl⟩
theorem d_X4_when_33 : x_dec m_X4_when 33 (.if_icmp .eq 13) 3 36 := ⟨by decide +kernel, rfl⟩
theorem d_X4_when_36 : x_dec m_X4_when 36 (.aload_n 0) 1 37 := ⟨by decide +kernel, rfl⟩
theorem d_X4_when_37 : x_dec m_X4_when 37 (.invokevirtual 110) 3 40 := ⟨by decide +kernel, rfl⟩
theorem d_X4_when_40 : x_dec m_X4_when 40 (.iinc 2 1) 3 43 := ⟨by decide +kernel, rfl⟩
theorem d_X4_when_43 : x_dec m_X4_when 43 (.goto (-23)) 3 46 := ⟨by decide +kernel, rfl⟩
theorem d_X4_when_46 : x_dec m_X4_when 46 (.aload_n 0) 1 47 := ⟨by decide +kernel, rfl⟩
theorem d_X4_when_47 : x_dec m_X4_when 47 (.invokevirtual 131) 3 50 := ⟨by decide +kernel, rfl⟩
theorem d_X4_when_50 : x_dec m_X4_when 50 (.iload_n 2) 1 51 := ⟨by decide +kernel, rfl⟩
theorem d_X4_when_51 : x_dec m_X4_when 51 (.bipush 100) 2 53 := ⟨by decide +kernel, rfl⟩
theorem d_X4_when_53 : x_dec m_X4_when 53 (.if_icmp .le 12) 3 56 := ⟨by decide +kernel, rfl⟩
theorem d_X4_when_56 : x_dec m_X4_when 56 (.aload_n 0) 1 57 := ⟨by decide +kernel, rfl⟩
theorem d_X4_when_57 : x_dec m_X4_when 57 (.ldc 41) 2 59 := ⟨by decide +kernel, rfl⟩
theorem d_X4_when_59 : x_dec m_X4_when 59 (.invokevirtual 42) 3 62 := ⟨by decide +kernel, rfl⟩
theorem d_X4_when_62 : x_dec m_X4_when 62 (.goto 4) 3 65 := ⟨by decide +kernel, rfl⟩
theorem d_X4_when_65 : x_dec m_X4_when 65 (.iload_n 2) 1 66 := ⟨by decide +kernel, rfl⟩
theorem d_X4_when_66 : x_dec m_X4_when 66 (.ireturn) 1 67 := ⟨by decide +kernel, rfl⟩
set_option maxHeartbeats 4000000 in
set_option maxRecDepth 100000 in
theorem c_X4_when (l : Launch) (E : x_E) (μ : x_Mem) (g : x_SG) (hS : MS g μ) (hI : Inv g) (y : Int32) : x_Met l m_X4_when E [.ref (E.1 + 41), .int y] μ (x_I (fun z m => z = (F_when g y).1 ∧ MS (F_when g y).2 m ∧ ∀ id, id < 41 → m id = μ id)) := by
  obtain ⟨hR, hX, hD⟩ := hS
  have hWF := hI.1.1
  have hn7 := hWF.2.1
  have hpn := hWF.1
  have hF : ∀ id, id < 41 → μ id = μ id := fun _ _ => rfl
  refine x_enter (lv := [(0, .ref (E.1 + 41)), (1, .int y)]) (by decide +kernel) (Nat.le_of_ble_eq_true rfl) rfl ?_
  refine x_iload_n 1 d_X4_when_0 rfl rfl ?_
  refine x_csip (as := [.int y]) (c_X4_isYard l E μ y) v_X4_isYard q883 q882 rfl ⟨Nat.le_of_ble_eq_true rfl, Nat.le_of_ble_eq_true rfl⟩ rfl (Nat.le_of_ble_eq_true rfl) d_X4_when_1 ?_
  refine x_ifb_ne 14 d_X4_when_4 (by decide) (fun c1 => ?_) (fun c1 => ?_)
  · skip
    refine x_aload_n 0 d_X4_when_14 rfl rfl ?_
    refine x_cvv (k := 41) (as := []) (c_X4_thinks l E μ hR) v_X4_thinks w_X4_thinks q859 o_M rfl ⟨Nat.le_of_ble_eq_true rfl, Nat.le_of_ble_eq_true rfl⟩ rfl (Nat.le_of_ble_eq_true rfl) d_X4_when_15 ?_
    rintro μ2 ⟨hW3, hF4⟩
    have hR5 := MR.cg hR (μ' := μ2) (fun id hid => (hF4 _ (by omega)))
    have hX6 := MX.cg hX (μ' := μ2) (fun id hid => (hF4 _ (by omega)))
    have hD7 := MD.cg hD (μ' := μ2) (fun id hid => (hF4 _ (by omega)))
    have hF8 : ∀ id, id < 41 → μ2 id = μ id := fun id hid => (show μ2 id = μ id from (hF4 _ (by omega))).trans (hF id hid)
    refine x_iconst (x := 0) d_X4_when_18 (by decide) ?_
    refine x_istore_n [(2, .int 0), (0, .ref (E.1 + 41)), (1, .int y)] d_X4_when_19 rfl (Nat.le_of_ble_eq_true rfl) rfl ?_
    have L9 : ∀ i : Nat, i ≤ 101 → ∀ μ12 : x_Mem, (MR (hoursF (gA g) i) μ12) → (MW (gA g) μ12) → (MX g μ12) → (MD (gF g) μ12) → (∀ id, id < 41 → μ12 id = μ id) → (∀ j, j < i → decide (hoursF (gA g) j 1 = y) = false) → x_G l E m_X4_when (x_mv E m_X4_when (x_I (fun z m => z = (F_when g y).1 ∧ MS (F_when g y).2 m ∧ ∀ id, id < 41 → m id = μ id))) μ12 20 [(2, .int (nI i)), (0, .ref (E.1 + 41)), (1, .int y)] [] := by
      refine x_down _ 101 (fun i hi11 ih10 => ?_)
      intro μ12 hR1 hW1 hX1 hD1 hF1 hq
      refine x_iload_n 0 d_X4_when_20 rfl rfl ?_
      refine x_bipush (x := 100) d_X4_when_21 (by decide) ?_
      refine x_icmp_gt 46 d_X4_when_23 (by decide) (fun c13 => ?_) (fun c13 => ?_)
      · skip
        have hN := (nI_ltI (a := 100) (b := i) (by omega) (by omega)).mp c13
        refine x_aload_n 1 d_X4_when_46 rfl rfl ?_
        refine x_cvv (k := 41) (as := []) (c_X4_putsBack l E μ12 hW1) v_X4_putsBack w_X4_putsBack q870 o_M rfl ⟨Nat.le_of_ble_eq_true rfl, Nat.le_of_ble_eq_true rfl⟩ rfl (Nat.le_of_ble_eq_true rfl) d_X4_when_47 ?_
        rintro μ14 ⟨hR15, hF16⟩
        have hX17 := MX.cg hX1 (μ' := μ14) (fun id hid => (hF16 _ (by omega)))
        have hD18 := MD.cg hD1 (μ' := μ14) (fun id hid => (hF16 _ (by omega)))
        have hF19 : ∀ id, id < 41 → μ14 id = μ id := fun id hid => (show μ14 id = μ12 id from (hF16 _ (by omega))).trans (hF1 id hid)
        have hW20 := MW.cg hW1 (μ' := μ14) (fun id hid => (hF16 _ (by omega)))
        refine x_iload_n 0 d_X4_when_50 rfl rfl ?_
        refine x_bipush (x := 100) d_X4_when_51 (by decide) ?_
        refine x_icmp_le 65 d_X4_when_53 (by decide) (fun c21 => ?_) (fun c21 => ?_)
        · skip
          have hM := (nI_leI (a := i) (b := 100) (by omega) (by omega)).mp c21
          refine x_iload_n 0 d_X4_when_65 rfl rfl ?_
          refine x_iret rfl d_X4_when_66 ?_
          exact absurd hM (by omega)
        · skip
          have hM : ¬ i ≤ 100 := fun z => c21 (nI_le (a := i) (b := 100) z (by decide))
          refine x_aload_n 1 d_X4_when_56 rfl rfl ?_
          refine x_ldc q885 d_X4_when_57 ?_
          refine x_cvi (k := 41) (as := [.int (-1000004)]) (c_X4_finds l E μ14 (i := 3) hD18 (by decide) (w := (-1000004)) (by decide)) v_X4_finds w_X4_finds q735 o_M rfl ⟨Nat.le_of_ble_eq_true rfl, Nat.le_of_ble_eq_true rfl⟩ rfl (Nat.le_of_ble_eq_true rfl) d_X4_when_59 ?_
          rintro _ μ22 ⟨rfl, hD23, hF24⟩
          have hR25 := MR.cg hR15 (μ' := μ22) (fun id hid => (hF24 _ (by omega)))
          have hX26 := MX.cg hX17 (μ' := μ22) (fun id hid => (hF24 _ (by omega)))
          have hF27 : ∀ id, id < 41 → μ22 id = μ id := fun id hid => (show μ22 id = μ14 id from (hF24 _ (by omega))).trans (hF19 id hid)
          have hW28 := MW.cg hW20 (μ' := μ22) (fun id hid => (hF24 _ (by omega)))
          refine x_goto 66 d_X4_when_62 (by decide) ?_
          refine x_iret rfl d_X4_when_66 ?_
          have e7 : i = 101 := by omega
          subst e7
          have e8 := firstN_none hq
          have e9 : F_when g y = fin g 3 := by simp [F_when, x_b_f, x_b_t, c1, e8, orN]
          rw [e9]
          exact ⟨rfl, MS.fin hR25 hX26 hD23, hF27⟩
      · skip
        have hN : ¬ 100 < i := fun z => c13 (nI_lt z (by omega))
        refine x_aload_n 1 d_X4_when_26 rfl rfl ?_
        refine x_getr (j := 0) 42 x_c4 rfl (Nat.le_of_ble_eq_true rfl) q668 rfl d_X4_when_27 ?_
        refine x_iconst (x := 1) d_X4_when_30 (by decide) ?_
        refine x_ialdN (z := (hoursF (gA g) i) 1) 58 1 rfl rfl (by omega) (by decide) (hR1 1 (by omega)) d_X4_when_31 ?_
        refine x_iload_n 2 d_X4_when_32 rfl rfl ?_
        refine x_icmp_eq 46 d_X4_when_33 (by decide) (fun c29 => ?_) (fun c29 => ?_)
        · skip
          refine x_aload_n 1 d_X4_when_46 rfl rfl ?_
          refine x_cvv (k := 41) (as := []) (c_X4_putsBack l E μ12 hW1) v_X4_putsBack w_X4_putsBack q870 o_M rfl ⟨Nat.le_of_ble_eq_true rfl, Nat.le_of_ble_eq_true rfl⟩ rfl (Nat.le_of_ble_eq_true rfl) d_X4_when_47 ?_
          rintro μ30 ⟨hR31, hF32⟩
          have hX33 := MX.cg hX1 (μ' := μ30) (fun id hid => (hF32 _ (by omega)))
          have hD34 := MD.cg hD1 (μ' := μ30) (fun id hid => (hF32 _ (by omega)))
          have hF35 : ∀ id, id < 41 → μ30 id = μ id := fun id hid => (show μ30 id = μ12 id from (hF32 _ (by omega))).trans (hF1 id hid)
          have hW36 := MW.cg hW1 (μ' := μ30) (fun id hid => (hF32 _ (by omega)))
          refine x_iload_n 0 d_X4_when_50 rfl rfl ?_
          refine x_bipush (x := 100) d_X4_when_51 (by decide) ?_
          refine x_icmp_le 65 d_X4_when_53 (by decide) (fun c37 => ?_) (fun c37 => ?_)
          · skip
            have hM := (nI_leI (a := i) (b := 100) (by omega) (by omega)).mp c37
            refine x_iload_n 0 d_X4_when_65 rfl rfl ?_
            refine x_iret rfl d_X4_when_66 ?_
            have e8 := firstN_some (n := 101) (i := i) (by omega) (decide_eq_true c29) hq
            have e9 : F_when g y = (nI i, g) := by simp [F_when, x_b_f, x_b_t, c1, e8, orN, show i < 101 by omega]
            rw [e9]
            exact ⟨rfl, ⟨hR31, hX33, hD34⟩, hF35⟩
          · skip
            have hM : ¬ i ≤ 100 := fun z => c37 (nI_le (a := i) (b := 100) z (by decide))
            refine x_aload_n 1 d_X4_when_56 rfl rfl ?_
            refine x_ldc q885 d_X4_when_57 ?_
            refine x_cvi (k := 41) (as := [.int (-1000004)]) (c_X4_finds l E μ30 (i := 3) hD34 (by decide) (w := (-1000004)) (by decide)) v_X4_finds w_X4_finds q735 o_M rfl ⟨Nat.le_of_ble_eq_true rfl, Nat.le_of_ble_eq_true rfl⟩ rfl (Nat.le_of_ble_eq_true rfl) d_X4_when_59 ?_
            rintro _ μ38 ⟨rfl, hD39, hF40⟩
            have hR41 := MR.cg hR31 (μ' := μ38) (fun id hid => (hF40 _ (by omega)))
            have hX42 := MX.cg hX33 (μ' := μ38) (fun id hid => (hF40 _ (by omega)))
            have hF43 : ∀ id, id < 41 → μ38 id = μ id := fun id hid => (show μ38 id = μ30 id from (hF40 _ (by omega))).trans (hF35 id hid)
            have hW44 := MW.cg hW36 (μ' := μ38) (fun id hid => (hF40 _ (by omega)))
            refine x_goto 66 d_X4_when_62 (by decide) ?_
            refine x_iret rfl d_X4_when_66 ?_
            exact absurd hM (by omega)
        · skip
          refine x_aload_n 1 d_X4_when_36 rfl rfl ?_
          refine x_cvv (k := 41) (as := []) (c_X4_hour l E μ12 hR1 (WF.hours hWF i)) v_X4_hour w_X4_hour q823 o_M rfl ⟨Nat.le_of_ble_eq_true rfl, Nat.le_of_ble_eq_true rfl⟩ rfl (Nat.le_of_ble_eq_true rfl) d_X4_when_37 ?_
          rintro μ45 ⟨hR46, hF47⟩
          have hX48 := MX.cg hX1 (μ' := μ45) (fun id hid => (hF47 _ (by omega)))
          have hD49 := MD.cg hD1 (μ' := μ45) (fun id hid => (hF47 _ (by omega)))
          have hF50 : ∀ id, id < 41 → μ45 id = μ id := fun id hid => (show μ45 id = μ12 id from (hF47 _ (by omega))).trans (hF1 id hid)
          have hW51 := MW.cg hW1 (μ' := μ45) (fun id hid => (hF47 _ (by omega)))
          refine x_iinc [(2, .int (nI (i + 1))), (0, .ref (E.1 + 41)), (1, .int y)] 0 d_X4_when_40 rfl (x_inc _) (Nat.le_of_ble_eq_true rfl) rfl ?_
          refine x_goto 20 d_X4_when_43 (by decide) ?_
          exact ih10 (i + 1) (by omega) (by omega) μ45 hR46 hW51 hX48 hD49 hF50 (lt_s hq (decide_eq_false c29))
    exact L9 0 (by omega) μ2 hR5 hW3 hX6 hD7 hF8 (fun _ h => absurd h (Nat.not_lt_zero _))
  · skip
    refine x_aload_n 0 d_X4_when_7 rfl rfl ?_
    refine x_ldc q734 d_X4_when_8 ?_
    refine x_cvi (k := 41) (as := [.int (-1000001)]) (c_X4_finds l E μ (i := 0) hD (by decide) (w := (-1000001)) (by decide)) v_X4_finds w_X4_finds q735 o_M rfl ⟨Nat.le_of_ble_eq_true rfl, Nat.le_of_ble_eq_true rfl⟩ rfl (Nat.le_of_ble_eq_true rfl) d_X4_when_10 ?_
    rintro _ μ52 ⟨rfl, hD53, hF54⟩
    have hR55 := MR.cg hR (μ' := μ52) (fun id hid => (hF54 _ (by omega)))
    have hX56 := MX.cg hX (μ' := μ52) (fun id hid => (hF54 _ (by omega)))
    have hF57 : ∀ id, id < 41 → μ52 id = μ id := fun id hid => (show μ52 id = μ id from (hF54 _ (by omega))).trans (hF id hid)
    refine x_iret rfl d_X4_when_13 ?_
    have e9 : F_when g y = fin g 0 := by simp [F_when, x_b_f, x_b_t, c1]
    rw [e9]
    exact ⟨rfl, MS.fin hR55 hX56 hD53, hF57⟩
def m_X4_falls : x_M := (yX4_falls, prog_6_method_46_code, 2, (some FieldType.int), 8, 179)
theorem v_X4_falls : x_VM m_X4_falls 0 := ⟨q889, q6, by decide +kernel, by decide +kernel, by decide +kernel⟩
theorem w_X4_falls : x_VI m_X4_falls := ⟨q887, q888⟩
theorem d_X4_falls_0 : x_dec m_X4_falls 0 (.aload_n 0) 1 1 := ⟨by decide +kernel, rfl⟩
theorem d_X4_falls_1 : x_dec m_X4_falls 1 (.invokevirtual 134) 3 4 := ⟨by decide +kernel, rfl⟩
theorem d_X4_falls_4 : x_dec m_X4_falls 4 (.iconst 0) 1 5 := ⟨by decide +kernel, rfl⟩
theorem d_X4_falls_5 : x_dec m_X4_falls 5 (.istore_n 1) 1 6 := ⟨by decide +kernel, rfl⟩
theorem d_X4_falls_6 : x_dec m_X4_falls 6 (.iload_n 1) 1 7 := ⟨by decide +kernel, rfl⟩
theorem d_X4_falls_7 : x_dec m_X4_falls 7 (.bipush 100) 2 9 := ⟨by decide +kernel, rfl⟩
theorem d_X4_falls_9 : x_dec m_X4_falls 9 (.if_icmp .gt 20) 3 12 := ⟨by decide +kernel, rfl⟩
theorem d_X4_falls_12 : x_dec m_X4_falls 12 (.aload_n 0) 1 13 := ⟨by decide +kernel, rfl⟩
theorem d_X4_falls_13 : x_dec m_X4_falls 13 (.invokevirtual 103) 3 16 := ⟨by decide +kernel, rfl⟩
theorem d_X4_falls_16 : x_dec m_X4_falls 16 (.ifCond .ne 13) 3 19 := ⟨by decide +kernel, rfl⟩
theorem d_X4_falls_19 : x_dec m_X4_falls 19 (.aload_n 0) 1 20 := ⟨by decide +kernel, rfl⟩
theorem d_X4_falls_20 : x_dec m_X4_falls 20 (.invokevirtual 110) 3 23 := ⟨by decide +kernel, rfl⟩
theorem d_X4_falls_23 : x_dec m_X4_falls 23 (.iinc 1 1) 3 26 := ⟨by decide +kernel, rfl⟩
theorem d_X4_falls_26 : x_dec m_X4_falls 26 (.goto (-20)) 3 29 := ⟨by decide +kernel, rfl⟩
theorem d_X4_falls_29 : x_dec m_X4_falls 29 (.aload_n 0) 1 30 := ⟨by decide +kernel, rfl⟩
theorem d_X4_falls_30 : x_dec m_X4_falls 30 (.invokevirtual 131) 3 33 := ⟨by decide +kernel, rfl⟩
theorem d_X4_falls_33 : x_dec m_X4_falls 33 (.iload_n 1) 1 34 := ⟨by decide +kernel, rfl⟩
theorem d_X4_falls_34 : x_dec m_X4_falls 34 (.bipush 100) 2 36 := ⟨by decide +kernel, rfl⟩
theorem d_X4_falls_36 : x_dec m_X4_falls 36 (.if_icmp .le 12) 3 39 := ⟨by decide +kernel, rfl⟩
theorem d_X4_falls_39 : x_dec m_X4_falls 39 (.aload_n 0) 1 40 := ⟨by decide +kernel, rfl⟩
theorem d_X4_falls_40 : x_dec m_X4_falls 40 (.ldc 41) 2 42 := ⟨by decide +kernel, rfl⟩
theorem d_X4_falls_42 : x_dec m_X4_falls 42 (.invokevirtual 42) 3 45 := ⟨by decide +kernel, rfl⟩
theorem d_X4_falls_45 : x_dec m_X4_falls 45 (.goto 4) 3 48 := ⟨by decide +kernel, rfl⟩
theorem d_X4_falls_48 : x_dec m_X4_falls 48 (.iload_n 1) 1 49 := ⟨by decide +kernel, rfl⟩
theorem d_X4_falls_49 : x_dec m_X4_falls 49 (.ireturn) 1 50 := ⟨by decide +kernel, rfl⟩
set_option maxHeartbeats 4000000 in
set_option maxRecDepth 100000 in
theorem c_X4_falls (l : Launch) (E : x_E) (μ : x_Mem) (g : x_SG) (hS : MS g μ) (hI : Inv g) : x_Met l m_X4_falls E [.ref (E.1 + 41)] μ (x_I (fun z m => z = (F_falls g).1 ∧ MS (F_falls g).2 m ∧ ∀ id, id < 41 → m id = μ id)) := by
  obtain ⟨hR, hX, hD⟩ := hS
  have hWF := hI.1.1
  have hn7 := hWF.2.1
  have hpn := hWF.1
  have hF : ∀ id, id < 41 → μ id = μ id := fun _ _ => rfl
  refine x_enter (lv := [(0, .ref (E.1 + 41))]) (by decide +kernel) (Nat.le_of_ble_eq_true rfl) rfl ?_
  refine x_aload_n 0 d_X4_falls_0 rfl rfl ?_
  refine x_cvv (k := 41) (as := []) (c_X4_thinks l E μ hR) v_X4_thinks w_X4_thinks q859 o_M rfl ⟨Nat.le_of_ble_eq_true rfl, Nat.le_of_ble_eq_true rfl⟩ rfl (Nat.le_of_ble_eq_true rfl) d_X4_falls_1 ?_
  rintro μ1 ⟨hW2, hF3⟩
  have hR4 := MR.cg hR (μ' := μ1) (fun id hid => (hF3 _ (by omega)))
  have hX5 := MX.cg hX (μ' := μ1) (fun id hid => (hF3 _ (by omega)))
  have hD6 := MD.cg hD (μ' := μ1) (fun id hid => (hF3 _ (by omega)))
  have hF7 : ∀ id, id < 41 → μ1 id = μ id := fun id hid => (show μ1 id = μ id from (hF3 _ (by omega))).trans (hF id hid)
  refine x_iconst (x := 0) d_X4_falls_4 (by decide) ?_
  refine x_istore_n [(1, .int 0), (0, .ref (E.1 + 41))] d_X4_falls_5 rfl (Nat.le_of_ble_eq_true rfl) rfl ?_
  have L8 : ∀ i : Nat, i ≤ 101 → ∀ μ11 : x_Mem, (MR (hoursF (gA g) i) μ11) → (MW (gA g) μ11) → (MX g μ11) → (MD (gF g) μ11) → (∀ id, id < 41 → μ11 id = μ id) → (∀ j, j < i → fallB (hoursF (gA g) j) = false) → x_G l E m_X4_falls (x_mv E m_X4_falls (x_I (fun z m => z = (F_falls g).1 ∧ MS (F_falls g).2 m ∧ ∀ id, id < 41 → m id = μ id))) μ11 6 [(1, .int (nI i)), (0, .ref (E.1 + 41))] [] := by
    refine x_down _ 101 (fun i hi10 ih9 => ?_)
    intro μ11 hR1 hW1 hX1 hD1 hF1 hq
    refine x_iload_n 0 d_X4_falls_6 rfl rfl ?_
    refine x_bipush (x := 100) d_X4_falls_7 (by decide) ?_
    refine x_icmp_gt 29 d_X4_falls_9 (by decide) (fun c12 => ?_) (fun c12 => ?_)
    · skip
      have hN := (nI_ltI (a := 100) (b := i) (by omega) (by omega)).mp c12
      refine x_aload_n 1 d_X4_falls_29 rfl rfl ?_
      refine x_cvv (k := 41) (as := []) (c_X4_putsBack l E μ11 hW1) v_X4_putsBack w_X4_putsBack q870 o_M rfl ⟨Nat.le_of_ble_eq_true rfl, Nat.le_of_ble_eq_true rfl⟩ rfl (Nat.le_of_ble_eq_true rfl) d_X4_falls_30 ?_
      rintro μ13 ⟨hR14, hF15⟩
      have hX16 := MX.cg hX1 (μ' := μ13) (fun id hid => (hF15 _ (by omega)))
      have hD17 := MD.cg hD1 (μ' := μ13) (fun id hid => (hF15 _ (by omega)))
      have hF18 : ∀ id, id < 41 → μ13 id = μ id := fun id hid => (show μ13 id = μ11 id from (hF15 _ (by omega))).trans (hF1 id hid)
      have hW19 := MW.cg hW1 (μ' := μ13) (fun id hid => (hF15 _ (by omega)))
      refine x_iload_n 0 d_X4_falls_33 rfl rfl ?_
      refine x_bipush (x := 100) d_X4_falls_34 (by decide) ?_
      refine x_icmp_le 48 d_X4_falls_36 (by decide) (fun c20 => ?_) (fun c20 => ?_)
      · skip
        have hM := (nI_leI (a := i) (b := 100) (by omega) (by omega)).mp c20
        refine x_iload_n 0 d_X4_falls_48 rfl rfl ?_
        refine x_iret rfl d_X4_falls_49 ?_
        exact absurd hM (by omega)
      · skip
        have hM : ¬ i ≤ 100 := fun z => c20 (nI_le (a := i) (b := 100) z (by decide))
        refine x_aload_n 1 d_X4_falls_39 rfl rfl ?_
        refine x_ldc q885 d_X4_falls_40 ?_
        refine x_cvi (k := 41) (as := [.int (-1000004)]) (c_X4_finds l E μ13 (i := 3) hD17 (by decide) (w := (-1000004)) (by decide)) v_X4_finds w_X4_finds q735 o_M rfl ⟨Nat.le_of_ble_eq_true rfl, Nat.le_of_ble_eq_true rfl⟩ rfl (Nat.le_of_ble_eq_true rfl) d_X4_falls_42 ?_
        rintro _ μ21 ⟨rfl, hD22, hF23⟩
        have hR24 := MR.cg hR14 (μ' := μ21) (fun id hid => (hF23 _ (by omega)))
        have hX25 := MX.cg hX16 (μ' := μ21) (fun id hid => (hF23 _ (by omega)))
        have hF26 : ∀ id, id < 41 → μ21 id = μ id := fun id hid => (show μ21 id = μ13 id from (hF23 _ (by omega))).trans (hF18 id hid)
        have hW27 := MW.cg hW19 (μ' := μ21) (fun id hid => (hF23 _ (by omega)))
        refine x_goto 49 d_X4_falls_45 (by decide) ?_
        refine x_iret rfl d_X4_falls_49 ?_
        have e7 : i = 101 := by omega
        subst e7
        have e8 := firstN_none hq
        have e9 : F_falls g = fin g 3 := by simp [F_falls, x_b_f, x_b_t, e8, orN]
        rw [e9]
        exact ⟨rfl, MS.fin hR24 hX25 hD22, hF26⟩
    · skip
      have hN : ¬ 100 < i := fun z => c12 (nI_lt z (by omega))
      refine x_aload_n 1 d_X4_falls_12 rfl rfl ?_
      refine x_cvip (k := 41) (as := []) (c_X4_willFall l E μ11 hR1 (WF.hours hWF i)) v_X4_willFall w_X4_willFall q827 o_M rfl ⟨Nat.le_of_ble_eq_true rfl, Nat.le_of_ble_eq_true rfl⟩ rfl (Nat.le_of_ble_eq_true rfl) d_X4_falls_13 ?_
      refine x_ifb_ne 29 d_X4_falls_16 (by decide) (fun c28 => ?_) (fun c28 => ?_)
      · skip
        refine x_aload_n 1 d_X4_falls_29 rfl rfl ?_
        refine x_cvv (k := 41) (as := []) (c_X4_putsBack l E μ11 hW1) v_X4_putsBack w_X4_putsBack q870 o_M rfl ⟨Nat.le_of_ble_eq_true rfl, Nat.le_of_ble_eq_true rfl⟩ rfl (Nat.le_of_ble_eq_true rfl) d_X4_falls_30 ?_
        rintro μ29 ⟨hR30, hF31⟩
        have hX32 := MX.cg hX1 (μ' := μ29) (fun id hid => (hF31 _ (by omega)))
        have hD33 := MD.cg hD1 (μ' := μ29) (fun id hid => (hF31 _ (by omega)))
        have hF34 : ∀ id, id < 41 → μ29 id = μ id := fun id hid => (show μ29 id = μ11 id from (hF31 _ (by omega))).trans (hF1 id hid)
        have hW35 := MW.cg hW1 (μ' := μ29) (fun id hid => (hF31 _ (by omega)))
        refine x_iload_n 0 d_X4_falls_33 rfl rfl ?_
        refine x_bipush (x := 100) d_X4_falls_34 (by decide) ?_
        refine x_icmp_le 48 d_X4_falls_36 (by decide) (fun c36 => ?_) (fun c36 => ?_)
        · skip
          have hM := (nI_leI (a := i) (b := 100) (by omega) (by omega)).mp c36
          refine x_iload_n 0 d_X4_falls_48 rfl rfl ?_
          refine x_iret rfl d_X4_falls_49 ?_
          have e8 := firstN_some (n := 101) (i := i) (by omega) (c28) hq
          have e9 : F_falls g = (nI i, g) := by simp [F_falls, x_b_f, x_b_t, e8, orN, show i < 101 by omega]
          rw [e9]
          exact ⟨rfl, ⟨hR30, hX32, hD33⟩, hF34⟩
        · skip
          have hM : ¬ i ≤ 100 := fun z => c36 (nI_le (a := i) (b := 100) z (by decide))
          refine x_aload_n 1 d_X4_falls_39 rfl rfl ?_
          refine x_ldc q885 d_X4_falls_40 ?_
          refine x_cvi (k := 41) (as := [.int (-1000004)]) (c_X4_finds l E μ29 (i := 3) hD33 (by decide) (w := (-1000004)) (by decide)) v_X4_finds w_X4_finds q735 o_M rfl ⟨Nat.le_of_ble_eq_true rfl, Nat.le_of_ble_eq_true rfl⟩ rfl (Nat.le_of_ble_eq_true rfl) d_X4_falls_42 ?_
          rintro _ μ37 ⟨rfl, hD38, hF39⟩
          have hR40 := MR.cg hR30 (μ' := μ37) (fun id hid => (hF39 _ (by omega)))
          have hX41 := MX.cg hX32 (μ' := μ37) (fun id hid => (hF39 _ (by omega)))
          have hF42 : ∀ id, id < 41 → μ37 id = μ id := fun id hid => (show μ37 id = μ29 id from (hF39 _ (by omega))).trans (hF34 id hid)
          have hW43 := MW.cg hW35 (μ' := μ37) (fun id hid => (hF39 _ (by omega)))
          refine x_goto 49 d_X4_falls_45 (by decide) ?_
          refine x_iret rfl d_X4_falls_49 ?_
          exact absurd hM (by omega)
      · skip
        refine x_aload_n 1 d_X4_falls_19 rfl rfl ?_
        refine x_cvv (k := 41) (as := []) (c_X4_hour l E μ11 hR1 (WF.hours hWF i)) v_X4_hour w_X4_hour q823 o_M rfl ⟨Nat.le_of_ble_eq_true rfl, Nat.le_of_ble_eq_true rfl⟩ rfl (Nat.le_of_ble_eq_true rfl) d_X4_falls_20 ?_
        rintro μ44 ⟨hR45, hF46⟩
        have hX47 := MX.cg hX1 (μ' := μ44) (fun id hid => (hF46 _ (by omega)))
        have hD48 := MD.cg hD1 (μ' := μ44) (fun id hid => (hF46 _ (by omega)))
        have hF49 : ∀ id, id < 41 → μ44 id = μ id := fun id hid => (show μ44 id = μ11 id from (hF46 _ (by omega))).trans (hF1 id hid)
        have hW50 := MW.cg hW1 (μ' := μ44) (fun id hid => (hF46 _ (by omega)))
        refine x_iinc [(1, .int (nI (i + 1))), (0, .ref (E.1 + 41))] 0 d_X4_falls_23 rfl (x_inc _) (Nat.le_of_ble_eq_true rfl) rfl ?_
        refine x_goto 6 d_X4_falls_26 (by decide) ?_
        exact ih9 (i + 1) (by omega) (by omega) μ44 hR45 hW50 hX47 hD48 hF49 (lt_s hq c28)
  exact L8 0 (by omega) μ1 hR4 hW2 hX5 hD6 hF7 (fun _ h => absurd h (Nat.not_lt_zero _))
