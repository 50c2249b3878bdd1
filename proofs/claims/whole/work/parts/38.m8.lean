def m_X4_manyHeld : x_M := (yX4_manyHeld, prog_6_method_100_code, 3, (some FieldType.int), 0, 0)
theorem v_X4_manyHeld : x_VM m_X4_manyHeld 0 := ⟨q1122, q6, by decide +kernel, by decide +kernel, by decide +kernel⟩
theorem w_X4_manyHeld : x_VI m_X4_manyHeld := ⟨q1121, qs62⟩
theorem d_X4_manyHeld_0 : x_dec m_X4_manyHeld 0 (.iconst 0) 1 1 := ⟨by decide +kernel, rfl⟩
theorem d_X4_manyHeld_1 : x_dec m_X4_manyHeld 1 (.istore_n 1) 1 2 := ⟨by decide +kernel, rfl⟩
theorem d_X4_manyHeld_2 : x_dec m_X4_manyHeld 2 (.bipush 48) 2 4 := ⟨by decide +kernel, rfl⟩
theorem d_X4_manyHeld_4 : x_dec m_X4_manyHeld 4 (.istore_n 2) 1 5 := ⟨by decide +kernel, rfl⟩
theorem d_X4_manyHeld_5 : x_dec m_X4_manyHeld 5 (.iload_n 2) 1 6 := ⟨by decide +kernel, rfl⟩
theorem d_X4_manyHeld_6 : x_dec m_X4_manyHeld 6 (.bipush 58) 2 8 := ⟨by decide +kernel, rfl⟩
theorem d_X4_manyHeld_8 : x_dec m_X4_manyHeld 8 (.if_icmp .ge 26) 3 11 := ⟨by decide +kernel, rfl⟩
theorem d_X4_manyHeld_11 : x_dec m_X4_manyHeld 11 (.iload_n 1) 1 12 := ⟨by decide +kernel, rfl⟩
theorem d_X4_manyHeld_12 : x_dec m_X4_manyHeld 12 (.aload_n 0) 1 13 := ⟨by decide +kernel, rfl⟩
theorem d_X4_manyHeld_13 : x_dec m_X4_manyHeld 13 (.getfield 9) 3 16 := ⟨by decide +kernel, rfl⟩
theorem d_X4_manyHeld_16 : x_dec m_X4_manyHeld 16 (.iload_n 2) 1 17 := ⟨by decide +kernel, rfl⟩
theorem d_X4_manyHeld_17 : x_dec m_X4_manyHeld 17 (.iaload) 1 18 := ⟨by decide +kernel, rfl⟩
theorem d_X4_manyHeld_18 : x_dec m_X4_manyHeld 18 (.ifCond .lt 7) 3 21 := ⟨by decide +kernel, rfl⟩
theorem d_X4_manyHeld_21 : x_dec m_X4_manyHeld 21 (.iconst 1) 1 22 := ⟨by decide +kernel, rfl⟩
theorem d_X4_manyHeld_22 : x_dec m_X4_manyHeld 22 (.goto 4) 3 25 := ⟨by decide +kernel, rfl⟩
theorem d_X4_manyHeld_25 : x_dec m_X4_manyHeld 25 (.iconst 0) 1 26 := ⟨by decide +kernel, rfl⟩
theorem d_X4_manyHeld_26 : x_dec m_X4_manyHeld 26 (.iadd) 1 27 := ⟨by decide +kernel, rfl⟩
theorem d_X4_manyHeld_27 : x_dec m_X4_manyHeld 27 (.istore_n 1) 1 28 := ⟨by decide +kernel, rfl⟩
theorem d_X4_manyHeld_28 : x_dec m_X4_manyHeld 28 (.iinc 2 1) 3 31 := ⟨by decide +kernel, rfl⟩
theorem d_X4_manyHeld_31 : x_dec m_X4_manyHeld 31 (.goto (-26)) 3 34 := ⟨by decide +kernel, rfl⟩
theorem d_X4_manyHeld_34 : x_dec m_X4_manyHeld 34 (.iload_n 1) 1 35 := ⟨by decide +kernel, rfl⟩
theorem d_X4_manyHeld_35 : x_dec m_X4_manyHeld 35 (.ireturn) 1 36 := ⟨by decide +kernel, rfl⟩
set_option maxHeartbeats 4000000 in
set_option maxRecDepth 100000 in
theorem c_X4_manyHeld (l : Launch) (E : x_E) (μ : x_Mem) {a : x_St} (hR : MR a μ) (hI : WF a) (hL : LI a) : x_Met l m_X4_manyHeld E [.ref (E.1 + 41)] μ (x_I (fun z m => z = spotsF a ∧ m = μ)) := by
  have hn7 := hI.2.1
  have hpn := hI.1
  refine x_enter (lv := [(0, .ref (E.1 + 41))]) (by decide +kernel) (Nat.le_of_ble_eq_true rfl) rfl ?_
  refine x_iconst (x := 0) d_X4_manyHeld_0 (by decide) ?_
  refine x_istore_n [(1, .int 0), (0, .ref (E.1 + 41))] d_X4_manyHeld_1 rfl (Nat.le_of_ble_eq_true rfl) rfl ?_
  refine x_bipush (x := 48) d_X4_manyHeld_2 (by decide) ?_
  refine x_istore_n [(2, .int 48), (1, .int 0), (0, .ref (E.1 + 41))] d_X4_manyHeld_4 rfl (Nat.le_of_ble_eq_true rfl) rfl ?_
  have L1 : ∀ i : Nat, i ≤ 58 → ∀ r : Int32, (r = cntTo 0 (fun j => decide (¬ a (48 + j) = -1)) (i - 48)) → (48 ≤ i) → x_G l E m_X4_manyHeld (x_mv E m_X4_manyHeld (x_I (fun z m => z = spotsF a ∧ m = μ))) μ 5 [(2, .int (nI i)), (1, .int r), (0, .ref (E.1 + 41))] [] := by
    refine x_down _ 58 (fun i hi3 ih2 => ?_)
    intro r hr h48
    refine x_iload_n 0 d_X4_manyHeld_5 rfl rfl ?_
    refine x_bipush (x := 58) d_X4_manyHeld_6 (by decide) ?_
    refine x_icmp_ge 34 d_X4_manyHeld_8 (by decide) (fun c4 => ?_) (fun c4 => ?_)
    · skip
      have hN := x_ge (N := 58) c4 rfl rfl (by omega) (by omega)
      refine x_iload_n 1 d_X4_manyHeld_34 rfl rfl ?_
      refine x_iret rfl d_X4_manyHeld_35 ?_
      have e7 : i = 58 := by omega
      subst e7
      exact ⟨hr, rfl⟩
    · skip
      have hN := x_lt (N := 58) c4 rfl rfl (by omega) (by omega)
      refine x_iload_n 1 d_X4_manyHeld_11 rfl rfl ?_
      refine x_aload_n 2 d_X4_manyHeld_12 rfl rfl ?_
      refine x_getr (j := 0) 42 x_c4 rfl (Nat.le_of_ble_eq_true rfl) q668 rfl d_X4_manyHeld_13 ?_
      refine x_iload_n 0 d_X4_manyHeld_16 rfl rfl ?_
      refine x_ialdN (z := a i) 58 i rfl rfl (by omega) (by decide) (hR i (by omega)) d_X4_manyHeld_17 ?_
      refine x_if_lt 25 d_X4_manyHeld_18 (by decide) (fun c5 => ?_) (fun c5 => ?_)
      · skip
        refine x_iconst (x := 0) d_X4_manyHeld_25 (by decide) ?_
        refine x_iadd d_X4_manyHeld_26 ?_
        refine x_istore_n [(1, .int (r + 0)), (2, .int (nI i)), (0, .ref (E.1 + 41))] d_X4_manyHeld_27 rfl (Nat.le_of_ble_eq_true rfl) rfl ?_
        refine x_iinc [(2, .int (nI (i + 1))), (1, .int (r + 0)), (0, .ref (E.1 + 41))] 1 d_X4_manyHeld_28 rfl (x_inc _) (Nat.le_of_ble_eq_true rfl) rfl ?_
        refine x_goto 5 d_X4_manyHeld_31 (by decide) ?_
        exact ih2 (i + 1) (by omega) (by omega) (r + 0) (man_0 hL h48 (by omega) hr c5) (by omega)
      · skip
        refine x_iconst (x := 1) d_X4_manyHeld_21 (by decide) ?_
        refine x_goto 26 d_X4_manyHeld_22 (by decide) ?_
        refine x_iadd d_X4_manyHeld_26 ?_
        refine x_istore_n [(1, .int (r + 1)), (2, .int (nI i)), (0, .ref (E.1 + 41))] d_X4_manyHeld_27 rfl (Nat.le_of_ble_eq_true rfl) rfl ?_
        refine x_iinc [(2, .int (nI (i + 1))), (1, .int (r + 1)), (0, .ref (E.1 + 41))] 1 d_X4_manyHeld_28 rfl (x_inc _) (Nat.le_of_ble_eq_true rfl) rfl ?_
        refine x_goto 5 d_X4_manyHeld_31 (by decide) ?_
        exact ih2 (i + 1) (by omega) (by omega) (r + 1) (man_1 hL h48 (by omega) hr c5) (by omega)
  exact L1 48 (by omega) 0 (by rfl) (by omega)
def m_X4_count : x_M := (yX4_count, prog_6_method_101_code, 2, (some FieldType.int), 7, 158)
theorem v_X4_count : x_VM m_X4_count 1 := ⟨q1118, q6, by decide +kernel, by decide +kernel, by decide +kernel⟩
theorem w_X4_count : x_VI m_X4_count := ⟨q1116, q1117⟩
theorem d_X4_count_0 : x_dec m_X4_count 0 (.iload_n 1) 1 1 := ⟨by decide +kernel, rfl⟩
theorem d_X4_count_1 : x_dec m_X4_count 1 (.tableswitch 101 0 7 #[47, 54, 62, 70, 78, 83, 88, 96]) 47 48 := ⟨by decide +kernel, rfl⟩
theorem d_X4_count_48 : x_dec m_X4_count 48 (.aload_n 0) 1 49 := ⟨by decide +kernel, rfl⟩
theorem d_X4_count_49 : x_dec m_X4_count 49 (.getfield 9) 3 52 := ⟨by decide +kernel, rfl⟩
theorem d_X4_count_52 : x_dec m_X4_count 52 (.iconst 0) 1 53 := ⟨by decide +kernel, rfl⟩
theorem d_X4_count_53 : x_dec m_X4_count 53 (.iaload) 1 54 := ⟨by decide +kernel, rfl⟩
theorem d_X4_count_54 : x_dec m_X4_count 54 (.ireturn) 1 55 := ⟨by decide +kernel, rfl⟩
theorem d_X4_count_55 : x_dec m_X4_count 55 (.aload_n 0) 1 56 := ⟨by decide +kernel, rfl⟩
theorem d_X4_count_56 : x_dec m_X4_count 56 (.getfield 9) 3 59 := ⟨by decide +kernel, rfl⟩
theorem d_X4_count_59 : x_dec m_X4_count 59 (.bipush 7) 2 61 := ⟨by decide +kernel, rfl⟩
theorem d_X4_count_61 : x_dec m_X4_count 61 (.iaload) 1 62 := ⟨by decide +kernel, rfl⟩
theorem d_X4_count_62 : x_dec m_X4_count 62 (.ireturn) 1 63 := ⟨by decide +kernel, rfl⟩
theorem d_X4_count_63 : x_dec m_X4_count 63 (.aload_n 0) 1 64 := ⟨by decide +kernel, rfl⟩
theorem d_X4_count_64 : x_dec m_X4_count 64 (.invokevirtual 117) 3 67 := ⟨by decide +kernel, rfl⟩
theorem d_X4_count_67 : x_dec m_X4_count 67 (.invokestatic 152) 3 70 := ⟨by decide +kernel, rfl⟩
theorem d_X4_count_70 : x_dec m_X4_count 70 (.ireturn) 1 71 := ⟨by decide +kernel, rfl⟩
theorem d_X4_count_71 : x_dec m_X4_count 71 (.aload_n 0) 1 72 := ⟨by decide +kernel, rfl⟩
theorem d_X4_count_72 : x_dec m_X4_count 72 (.invokevirtual 121) 3 75 := ⟨by decide +kernel, rfl⟩
theorem d_X4_count_75 : x_dec m_X4_count 75 (.invokestatic 152) 3 78 := ⟨by decide +kernel, rfl⟩
theorem d_X4_count_78 : x_dec m_X4_count 78 (.ireturn) 1 79 := ⟨by decide +kernel, rfl⟩
theorem d_X4_count_79 : x_dec m_X4_count 79 (.aload_n 0) 1 80 := ⟨by decide +kernel, rfl⟩
theorem d_X4_count_80 : x_dec m_X4_count 80 (.invokevirtual 124) 3 83 := ⟨by decide +kernel, rfl⟩
theorem d_X4_count_83 : x_dec m_X4_count 83 (.ireturn) 1 84 := ⟨by decide +kernel, rfl⟩
theorem d_X4_count_84 : x_dec m_X4_count 84 (.aload_n 0) 1 85 := ⟨by decide +kernel, rfl⟩
theorem d_X4_count_85 : x_dec m_X4_count 85 (.getfield 183) 3 88 := ⟨by decide +kernel, rfl⟩
theorem d_X4_count_88 : x_dec m_X4_count 88 (.ireturn) 1 89 := ⟨by decide +kernel, rfl⟩
theorem d_X4_count_89 : x_dec m_X4_count 89 (.aload_n 0) 1 90 := ⟨by decide +kernel, rfl⟩
theorem d_X4_count_90 : x_dec m_X4_count 90 (.getfield 9) 3 93 := ⟨by decide +kernel, rfl⟩
theorem d_X4_count_93 : x_dec m_X4_count 93 (.bipush 6) 2 95 := ⟨by decide +kernel, rfl⟩
theorem d_X4_count_95 : x_dec m_X4_count 95 (.iaload) 1 96 := ⟨by decide +kernel, rfl⟩
theorem d_X4_count_96 : x_dec m_X4_count 96 (.ireturn) 1 97 := ⟨by decide +kernel, rfl⟩
theorem d_X4_count_97 : x_dec m_X4_count 97 (.aload_n 0) 1 98 := ⟨by decide +kernel, rfl⟩
theorem d_X4_count_98 : x_dec m_X4_count 98 (.invokevirtual 249) 3 101 := ⟨by decide +kernel, rfl⟩
theorem d_X4_count_101 : x_dec m_X4_count 101 (.ireturn) 1 102 := ⟨by decide +kernel, rfl⟩
theorem d_X4_count_102 : x_dec m_X4_count 102 (.aload_n 0) 1 103 := ⟨by decide +kernel, rfl⟩
theorem d_X4_count_103 : x_dec m_X4_count 103 (.ldc 40) 2 105 := ⟨by decide +kernel, rfl⟩
theorem d_X4_count_105 : x_dec m_X4_count 105 (.invokevirtual 42) 3 108 := ⟨by decide +kernel, rfl⟩
theorem d_X4_count_108 : x_dec m_X4_count 108 (.ireturn) 1 109 := ⟨by decide +kernel, rfl⟩
set_option maxHeartbeats 4000000 in
set_option maxRecDepth 100000 in
theorem c_X4_count (l : Launch) (E : x_E) (μ : x_Mem) (g : x_SG) (hS : MS g μ) (hI : Inv g) (w : Int32) : x_Met l m_X4_count E [.ref (E.1 + 41), .int w] μ (x_I (fun z m => z = (F_count g w).1 ∧ MS (F_count g w).2 m ∧ ∀ id, id < 41 → m id = μ id)) := by
  obtain ⟨hR, hX, hD⟩ := hS
  have hWF := hI.1.1
  have hn7 := hWF.2.1
  have hpn := hWF.1
  have hF : ∀ id, id < 41 → μ id = μ id := fun _ _ => rfl
  have h64 := setN_64 (thereB (gA g)) (n := 16) (by decide)
  have h65 := setN_64 (fun p => decide (gA g (24 + 3 * p + 1) = -1)) (n := pn (gA g)) (by omega)
  refine x_enter (lv := [(0, .ref (E.1 + 41)), (1, .int w)]) (by decide +kernel) (Nat.le_of_ble_eq_true rfl) rfl ?_
  refine x_iload_n 1 d_X4_count_0 rfl rfl ?_
  by_cases k1 : w = 0
  · have k1T : (w).toInt = 0 := by rw [k1]; decide
    refine x_tswIn 48 (off := 47) d_X4_count_1 (by rw [k1T]; decide) (by rw [k1T]; decide) (by rw [k1T]; decide) (by decide) ?_
    refine x_aload_n 0 d_X4_count_48 rfl rfl ?_
    refine x_getr (j := 0) 42 x_c4 rfl (Nat.le_of_ble_eq_true rfl) q668 rfl d_X4_count_49 ?_
    refine x_iconst (x := 0) d_X4_count_52 (by decide) ?_
    refine x_ialdN (z := (gA g) 0) 58 0 rfl rfl (by omega) (by decide) (hR 0 (by omega)) d_X4_count_53 ?_
    refine x_iret rfl d_X4_count_54 ?_
    have e9 : F_count g w = ((gA g) 0, g) := by simp [F_count, x_b_f, x_b_t, k1, hn7]
    rw [e9]
    exact ⟨rfl, ⟨hR, hX, hD⟩, hF⟩
  by_cases k2 : w = 1
  · have k2T : (w).toInt = 1 := by rw [k2]; decide
    refine x_tswIn 55 (off := 54) d_X4_count_1 (by rw [k2T]; decide) (by rw [k2T]; decide) (by rw [k2T]; decide) (by decide) ?_
    refine x_aload_n 0 d_X4_count_55 rfl rfl ?_
    refine x_getr (j := 0) 42 x_c4 rfl (Nat.le_of_ble_eq_true rfl) q668 rfl d_X4_count_56 ?_
    refine x_bipush (x := 7) d_X4_count_59 (by decide) ?_
    refine x_ialdN (z := nI (pn (gA g))) 58 7 rfl rfl (by omega) (by decide) ((hR 7 (by decide)).trans hn7) d_X4_count_61 ?_
    refine x_iret rfl d_X4_count_62 ?_
    have e9 : F_count g w = (nI (pn (gA g)), g) := by simp [F_count, x_b_f, x_b_t, k2, hn7]
    rw [e9]
    exact ⟨rfl, ⟨hR, hX, hD⟩, hF⟩
  by_cases k3 : w = 2
  · have k3T : (w).toInt = 2 := by rw [k3]; decide
    refine x_tswIn 63 (off := 62) d_X4_count_1 (by rw [k3T]; decide) (by rw [k3T]; decide) (by rw [k3T]; decide) (by decide) ?_
    refine x_aload_n 0 d_X4_count_63 rfl rfl ?_
    refine x_cvip (k := 41) (as := []) (c_X4_aboard l E μ hR hWF) v_X4_aboard w_X4_aboard q843 o_M rfl ⟨Nat.le_of_ble_eq_true rfl, Nat.le_of_ble_eq_true rfl⟩ rfl (Nat.le_of_ble_eq_true rfl) d_X4_count_64 ?_
    rw [aboardN hpn]
    refine x_csip (as := [.int (nI (setN (fun p => decide (gA g (24 + 3 * p + 1) = -1)) (pn (gA g))))]) (c_X4_bits l E μ (s := (setN (fun p => decide (gA g (24 + 3 * p + 1) = -1)) (pn (gA g)))) (by omega)) v_X4_bits q923 q922 rfl ⟨Nat.le_of_ble_eq_true rfl, Nat.le_of_ble_eq_true rfl⟩ rfl (Nat.le_of_ble_eq_true rfl) d_X4_count_67 ?_
    rw [pop_set (by omega)]
    refine x_iret rfl d_X4_count_70 ?_
    have e9 : F_count g w = (cntTo 0 (fun p => decide (gA g (24 + 3 * p + 1) = -1)) (pn (gA g)), g) := by simp [F_count, x_b_f, x_b_t, k3, hn7]
    rw [e9]
    exact ⟨rfl, ⟨hR, hX, hD⟩, hF⟩
  by_cases k4 : w = 3
  · have k4T : (w).toInt = 3 := by rw [k4]; decide
    refine x_tswIn 71 (off := 70) d_X4_count_1 (by rw [k4T]; decide) (by rw [k4T]; decide) (by rw [k4T]; decide) (by decide) ?_
    refine x_aload_n 0 d_X4_count_71 rfl rfl ?_
    refine x_cvip (k := 41) (as := []) (c_X4_allThere l E μ hR hWF) v_X4_allThere w_X4_allThere q847 o_M rfl ⟨Nat.le_of_ble_eq_true rfl, Nat.le_of_ble_eq_true rfl⟩ rfl (Nat.le_of_ble_eq_true rfl) d_X4_count_72 ?_
    rw [thereN]
    refine x_csip (as := [.int (nI (setN (thereB (gA g)) 16))]) (c_X4_bits l E μ (s := (setN (thereB (gA g)) 16)) (by omega)) v_X4_bits q923 q922 rfl ⟨Nat.le_of_ble_eq_true rfl, Nat.le_of_ble_eq_true rfl⟩ rfl (Nat.le_of_ble_eq_true rfl) d_X4_count_75 ?_
    rw [pop_set (by decide)]
    refine x_iret rfl d_X4_count_78 ?_
    have e9 : F_count g w = (cntTo 0 (thereB (gA g)) 16, g) := by simp [F_count, x_b_f, x_b_t, k4, hn7]
    rw [e9]
    exact ⟨rfl, ⟨hR, hX, hD⟩, hF⟩
  by_cases k5 : w = 4
  · have k5T : (w).toInt = 4 := by rw [k5]; decide
    refine x_tswIn 79 (off := 78) d_X4_count_1 (by rw [k5T]; decide) (by rw [k5T]; decide) (by rw [k5T]; decide) (by decide) ?_
    refine x_aload_n 0 d_X4_count_79 rfl rfl ?_
    refine x_cvip (k := 41) (as := []) (c_X4_allBelief l E μ hR hWF) v_X4_allBelief w_X4_allBelief q851 o_M rfl ⟨Nat.le_of_ble_eq_true rfl, Nat.le_of_ble_eq_true rfl⟩ rfl (Nat.le_of_ble_eq_true rfl) d_X4_count_80 ?_
    refine x_iret rfl d_X4_count_83 ?_
    have e9 : F_count g w = (beliefsF (gA g), g) := by simp [F_count, x_b_f, x_b_t, k5, hn7]
    rw [e9]
    exact ⟨rfl, ⟨hR, hX, hD⟩, hF⟩
  by_cases k6 : w = 5
  · have k6T : (w).toInt = 5 := by rw [k6]; decide
    refine x_tswIn 84 (off := 83) d_X4_count_1 (by rw [k6T]; decide) (by rw [k6T]; decide) (by rw [k6T]; decide) (by decide) ?_
    refine x_aload_n 0 d_X4_count_84 rfl rfl ?_
    refine x_getiV (j := 11) (z := nI (gT g)) x_c4 rfl (Nat.le_of_ble_eq_true rfl) q679 rfl (hX.2.2.1) d_X4_count_85 ?_
    refine x_iret rfl d_X4_count_88 ?_
    have e9 : F_count g w = (nI (gT g), g) := by simp [F_count, x_b_f, x_b_t, k6, hn7]
    rw [e9]
    exact ⟨rfl, ⟨hR, hX, hD⟩, hF⟩
  by_cases k7 : w = 6
  · have k7T : (w).toInt = 6 := by rw [k7]; decide
    refine x_tswIn 89 (off := 88) d_X4_count_1 (by rw [k7T]; decide) (by rw [k7T]; decide) (by rw [k7T]; decide) (by decide) ?_
    refine x_aload_n 0 d_X4_count_89 rfl rfl ?_
    refine x_getr (j := 0) 42 x_c4 rfl (Nat.le_of_ble_eq_true rfl) q668 rfl d_X4_count_90 ?_
    refine x_bipush (x := 6) d_X4_count_93 (by decide) ?_
    refine x_ialdN (z := (gA g) 6) 58 6 rfl rfl (by omega) (by decide) (hR 6 (by omega)) d_X4_count_95 ?_
    refine x_iret rfl d_X4_count_96 ?_
    have e9 : F_count g w = ((gA g) 6, g) := by simp [F_count, x_b_f, x_b_t, k7, hn7]
    rw [e9]
    exact ⟨rfl, ⟨hR, hX, hD⟩, hF⟩
  by_cases k8 : w = 7
  · have k8T : (w).toInt = 7 := by rw [k8]; decide
    refine x_tswIn 97 (off := 96) d_X4_count_1 (by rw [k8T]; decide) (by rw [k8T]; decide) (by rw [k8T]; decide) (by decide) ?_
    refine x_aload_n 0 d_X4_count_97 rfl rfl ?_
    refine x_cvip (k := 41) (as := []) (c_X4_manyHeld l E μ hR hWF hI.1) v_X4_manyHeld w_X4_manyHeld q1119 o_M rfl ⟨Nat.le_of_ble_eq_true rfl, Nat.le_of_ble_eq_true rfl⟩ rfl (Nat.le_of_ble_eq_true rfl) d_X4_count_98 ?_
    refine x_iret rfl d_X4_count_101 ?_
    have e9 : F_count g w = (spotsF (gA g), g) := by simp [F_count, x_b_f, x_b_t, k8, hn7]
    rw [e9]
    exact ⟨rfl, ⟨hR, hX, hD⟩, hF⟩
  have k1T : ¬ (w).toInt = 0 := lv_neT k1 (by decide)
  have k2T : ¬ (w).toInt = 1 := lv_neT k2 (by decide)
  have k3T : ¬ (w).toInt = 2 := lv_neT k3 (by decide)
  have k4T : ¬ (w).toInt = 3 := lv_neT k4 (by decide)
  have k5T : ¬ (w).toInt = 4 := lv_neT k5 (by decide)
  have k6T : ¬ (w).toInt = 5 := lv_neT k6 (by decide)
  have k7T : ¬ (w).toInt = 6 := lv_neT k7 (by decide)
  have k8T : ¬ (w).toInt = 7 := lv_neT k8 (by decide)
  refine x_tswOut 102 d_X4_count_1 (by omega) (by decide) ?_
  refine x_aload_n 0 d_X4_count_102 rfl rfl ?_
  refine x_ldc q734 d_X4_count_103 ?_
  refine x_cvi (k := 41) (as := [.int (-1000001)]) (c_X4_finds l E μ (i := 0) hD (by decide) (w := (-1000001)) (by decide)) v_X4_finds w_X4_finds q735 o_M rfl ⟨Nat.le_of_ble_eq_true rfl, Nat.le_of_ble_eq_true rfl⟩ rfl (Nat.le_of_ble_eq_true rfl) d_X4_count_105 ?_
  rintro _ μ9 ⟨rfl, hD10, hF11⟩
  have hR12 := MR.cg hR (μ' := μ9) (fun id hid => (hF11 _ (by omega)))
  have hX13 := MX.cg hX (μ' := μ9) (fun id hid => (hF11 _ (by omega)))
  have hF14 : ∀ id, id < 41 → μ9 id = μ id := fun id hid => (show μ9 id = μ id from (hF11 _ (by omega))).trans (hF id hid)
  refine x_iret rfl d_X4_count_108 ?_
  have e9 : F_count g w = fin g 0 := by simp [F_count, x_b_f, x_b_t, k1, k2, k3, k4, k5, k6, k7, k8, hn7]
  rw [e9]
  exact ⟨rfl, MS.fin hR12 hX13 hD10, hF14⟩
def m_X4_isUnder : x_M := (yX4_isUnder, prog_6_method_89_code, 3, (some FieldType.boolean), 0, 0)
theorem v_X4_isUnder : x_VM m_X4_isUnder 2 := ⟨q1076, q6, by decide +kernel, by decide +kernel, by decide +kernel⟩
theorem d_X4_isUnder_0 : x_dec m_X4_isUnder 0 (.iload_n 0) 1 1 := ⟨by decide +kernel, rfl⟩
theorem d_X4_isUnder_1 : x_dec m_X4_isUnder 1 (.iconst 3) 1 2 := ⟨by decide +kernel, rfl⟩
theorem d_X4_isUnder_2 : x_dec m_X4_isUnder 2 (.if_icmp .eq 8) 3 5 := ⟨by decide +kernel, rfl⟩
theorem d_X4_isUnder_5 : x_dec m_X4_isUnder 5 (.iload_n 0) 1 6 := ⟨by decide +kernel, rfl⟩
theorem d_X4_isUnder_6 : x_dec m_X4_isUnder 6 (.iconst 4) 1 7 := ⟨by decide +kernel, rfl⟩
theorem d_X4_isUnder_7 : x_dec m_X4_isUnder 7 (.if_icmp .ne 7) 3 10 := ⟨by decide +kernel, rfl⟩
theorem d_X4_isUnder_10 : x_dec m_X4_isUnder 10 (.iconst 1) 1 11 := ⟨by decide +kernel, rfl⟩
theorem d_X4_isUnder_11 : x_dec m_X4_isUnder 11 (.goto 4) 3 14 := ⟨by decide +kernel, rfl⟩
theorem d_X4_isUnder_14 : x_dec m_X4_isUnder 14 (.iconst 0) 1 15 := ⟨by decide +kernel, rfl⟩
theorem d_X4_isUnder_15 : x_dec m_X4_isUnder 15 (.istore_n 2) 1 16 := ⟨by decide +kernel, rfl⟩
theorem d_X4_isUnder_16 : x_dec m_X4_isUnder 16 (.iload_n 1) 1 17 := ⟨by decide +kernel, rfl⟩
theorem d_X4_isUnder_17 : x_dec m_X4_isUnder 17 (.ifCond .eq 38) 3 20 := ⟨by decide +kernel, rfl⟩
theorem d_X4_isUnder_20 : x_dec m_X4_isUnder 20 (.iload_n 1) 1 21 := ⟨by decide +kernel, rfl⟩
theorem d_X4_isUnder_21 : x_dec m_X4_isUnder 21 (.iload_n 0) 1 22 := ⟨by decide +kernel, rfl⟩
theorem d_X4_isUnder_22 : x_dec m_X4_isUnder 22 (.if_icmp .eq 33) 3 25 := ⟨by decide +kernel, rfl⟩
theorem d_X4_isUnder_25 : x_dec m_X4_isUnder 25 (.iload_n 1) 1 26 := ⟨by decide +kernel, rfl⟩
theorem d_X4_isUnder_26 : x_dec m_X4_isUnder 26 (.iconst 1) 1 27 := ⟨by decide +kernel, rfl⟩
theorem d_X4_isUnder_27 : x_dec m_X4_isUnder 27 (.if_icmp .ne 9) 3 30 := ⟨by decide +kernel, rfl⟩
theorem d_X4_isUnder_30 : x_dec m_X4_isUnder 30 (.iload_n 0) 1 31 := ⟨by decide +kernel, rfl⟩
theorem d_X4_isUnder_31 : x_dec m_X4_isUnder 31 (.bipush 6) 2 33 := ⟨by decide +kernel, rfl⟩
theorem d_X4_isUnder_33 : x_dec m_X4_isUnder 33 (.if_icmp .eq 22) 3 36 := ⟨by decide +kernel, rfl⟩
theorem d_X4_isUnder_36 : x_dec m_X4_isUnder 36 (.iload_n 1) 1 37 := ⟨by decide +kernel, rfl⟩
theorem d_X4_isUnder_37 : x_dec m_X4_isUnder 37 (.iconst 2) 1 38 := ⟨by decide +kernel, rfl⟩
theorem d_X4_isUnder_38 : x_dec m_X4_isUnder 38 (.if_icmp .ne 7) 3 41 := ⟨by decide +kernel, rfl⟩
theorem d_X4_isUnder_41 : x_dec m_X4_isUnder 41 (.iload_n 2) 1 42 := ⟨by decide +kernel, rfl⟩
theorem d_X4_isUnder_42 : x_dec m_X4_isUnder 42 (.ifCond .ne 13) 3 45 := ⟨by decide +kernel, rfl⟩
theorem d_X4_isUnder_45 : x_dec m_X4_isUnder 45 (.iload_n 1) 1 46 := ⟨by decide +kernel, rfl⟩
theorem d_X4_isUnder_46 : x_dec m_X4_isUnder 46 (.iconst 3) 1 47 := ⟨by decide +kernel, rfl⟩
theorem d_X4_isUnder_47 : x_dec m_X4_isUnder 47 (.if_icmp .ne 12) 3 50 := ⟨by decide +kernel, rfl⟩
theorem d_X4_isUnder_50 : x_dec m_X4_isUnder 50 (.iload_n 0) 1 51 := ⟨by decide +kernel, rfl⟩
theorem d_X4_isUnder_51 : x_dec m_X4_isUnder 51 (.iconst 4) 1 52 := ⟨by decide +kernel, rfl⟩
theorem d_X4_isUnder_52 : x_dec m_X4_isUnder 52 (.if_icmp .ne 7) 3 55 := ⟨by decide +kernel, rfl⟩
theorem d_X4_isUnder_55 : x_dec m_X4_isUnder 55 (.iconst 1) 1 56 := ⟨by decide +kernel, rfl⟩
theorem d_X4_isUnder_56 : x_dec m_X4_isUnder 56 (.goto 4) 3 59 := ⟨by decide +kernel, rfl⟩
theorem d_X4_isUnder_59 : x_dec m_X4_isUnder 59 (.iconst 0) 1 60 := ⟨by decide +kernel, rfl⟩
theorem d_X4_isUnder_60 : x_dec m_X4_isUnder 60 (.ireturn) 1 61 := ⟨by decide +kernel, rfl⟩
set_option maxHeartbeats 4000000 in
set_option maxRecDepth 100000 in
theorem c_X4_isUnder (l : Launch) (E : x_E) (μ : x_Mem) {k t : Nat} (hk7 : k < 7) (ht7 : t < 7) : x_Met l m_X4_isUnder E [.int (nI k), .int (nI t)] μ (x_I (fun z m => z = x_b (underB (nI k) (nI t)) ∧ m = μ)) := by
  refine x_enter (lv := [(0, .int (nI k)), (1, .int (nI t))]) (by decide +kernel) (Nat.le_of_ble_eq_true rfl) rfl ?_
  refine x_iload_n 0 d_X4_isUnder_0 rfl rfl ?_
  refine x_iconst (x := 3) d_X4_isUnder_1 (by decide) ?_
  refine x_icmp_eq 10 d_X4_isUnder_2 (by decide) (fun c1 => ?_) (fun c1 => ?_)
  · skip
    refine x_iconst (x := 1) d_X4_isUnder_10 (by decide) ?_
    refine x_goto 15 d_X4_isUnder_11 (by decide) ?_
    refine x_istore_n [(2, .int 1), (0, .int (nI k)), (1, .int (nI t))] d_X4_isUnder_15 rfl (Nat.le_of_ble_eq_true rfl) rfl ?_
    refine x_iload_n 2 d_X4_isUnder_16 rfl rfl ?_
    refine x_if_eq 55 d_X4_isUnder_17 (by decide) (fun c2 => ?_) (fun c2 => ?_)
    · skip
      refine x_iconst (x := 1) d_X4_isUnder_55 (by decide) ?_
      refine x_goto 60 d_X4_isUnder_56 (by decide) ?_
      refine x_zret1 rfl d_X4_isUnder_60 ?_
      exact ⟨congrArg x_b (show true = underB (nI k) (nI t) from by unfold underB; first | (simp only [decide_eq_true c1, decide_eq_true c2, Bool.true_or, Bool.or_true, Bool.false_or, Bool.or_false, Bool.true_and, Bool.and_true, Bool.false_and, Bool.and_false, Bool.or_self, Bool.and_self]; done) | (simp [c1, c2]; done)), rfl⟩
    · skip
      refine x_iload_n 2 d_X4_isUnder_20 rfl rfl ?_
      refine x_iload_n 1 d_X4_isUnder_21 rfl rfl ?_
      refine x_icmp_eq 55 d_X4_isUnder_22 (by decide) (fun c3 => ?_) (fun c3 => ?_)
      · skip
        refine x_iconst (x := 1) d_X4_isUnder_55 (by decide) ?_
        refine x_goto 60 d_X4_isUnder_56 (by decide) ?_
        refine x_zret1 rfl d_X4_isUnder_60 ?_
        exact ⟨congrArg x_b (show true = underB (nI k) (nI t) from by unfold underB; first | (simp only [decide_eq_true c1, decide_eq_false c2, decide_eq_true c3, Bool.true_or, Bool.or_true, Bool.false_or, Bool.or_false, Bool.true_and, Bool.and_true, Bool.false_and, Bool.and_false, Bool.or_self, Bool.and_self]; done) | (simp [c1, c2, c3]; done)), rfl⟩
      · skip
        refine x_iload_n 2 d_X4_isUnder_25 rfl rfl ?_
        refine x_iconst (x := 1) d_X4_isUnder_26 (by decide) ?_
        refine x_icmp_ne 36 d_X4_isUnder_27 (by decide) (fun c4 => ?_) (fun c4 => ?_)
        · skip
          refine x_iload_n 2 d_X4_isUnder_36 rfl rfl ?_
          refine x_iconst (x := 2) d_X4_isUnder_37 (by decide) ?_
          refine x_icmp_ne 45 d_X4_isUnder_38 (by decide) (fun c5 => ?_) (fun c5 => ?_)
          · skip
            refine x_iload_n 2 d_X4_isUnder_45 rfl rfl ?_
            refine x_iconst (x := 3) d_X4_isUnder_46 (by decide) ?_
            refine x_icmp_ne 59 d_X4_isUnder_47 (by decide) (fun c6 => ?_) (fun c6 => ?_)
            · skip
              refine x_iconst (x := 0) d_X4_isUnder_59 (by decide) ?_
              refine x_zret0 rfl d_X4_isUnder_60 ?_
              exact ⟨congrArg x_b (show false = underB (nI k) (nI t) from by unfold underB; first | (simp only [decide_eq_true c1, decide_eq_false c2, decide_eq_false c3, decide_eq_false c4, decide_eq_false c5, decide_eq_false c6, Bool.true_or, Bool.or_true, Bool.false_or, Bool.or_false, Bool.true_and, Bool.and_true, Bool.false_and, Bool.and_false, Bool.or_self, Bool.and_self]; done) | (simp [c1, c2, c3, c4, c5, c6]; done)), rfl⟩
            · skip
              refine x_iload_n 1 d_X4_isUnder_50 rfl rfl ?_
              refine x_iconst (x := 4) d_X4_isUnder_51 (by decide) ?_
              refine x_icmp_ne 59 d_X4_isUnder_52 (by decide) (fun c7 => ?_) (fun c7 => ?_)
              · skip
                refine x_iconst (x := 0) d_X4_isUnder_59 (by decide) ?_
                refine x_zret0 rfl d_X4_isUnder_60 ?_
                exact ⟨congrArg x_b (show false = underB (nI k) (nI t) from by unfold underB; first | (simp only [decide_eq_true c1, decide_eq_false c2, decide_eq_false c3, decide_eq_false c4, decide_eq_false c5, decide_eq_true c6, decide_eq_false c7, Bool.true_or, Bool.or_true, Bool.false_or, Bool.or_false, Bool.true_and, Bool.and_true, Bool.false_and, Bool.and_false, Bool.or_self, Bool.and_self]; done) | (simp [c1, c2, c3, c4, c5, c6, c7]; done)), rfl⟩
              · skip
                exact absurd (c1.symm.trans c7) (by decide)
          · skip
            refine x_iload_n 0 d_X4_isUnder_41 rfl rfl ?_
            refine x_if_ne 55 d_X4_isUnder_42 (by decide) (fun c8 => ?_) (fun c8 => ?_)
            rotate_left
            · exact absurd c8 (by decide)
            refine x_iconst (x := 1) d_X4_isUnder_55 (by decide) ?_
            refine x_goto 60 d_X4_isUnder_56 (by decide) ?_
            refine x_zret1 rfl d_X4_isUnder_60 ?_
            exact ⟨congrArg x_b (show true = underB (nI k) (nI t) from by unfold underB; first | (simp only [decide_eq_true c1, decide_eq_false c2, decide_eq_false c3, decide_eq_false c4, decide_eq_true c5, Bool.true_or, Bool.or_true, Bool.false_or, Bool.or_false, Bool.true_and, Bool.and_true, Bool.false_and, Bool.and_false, Bool.or_self, Bool.and_self]; done) | (simp [c1, c2, c3, c4, c5]; done)), rfl⟩
        · skip
          refine x_iload_n 1 d_X4_isUnder_30 rfl rfl ?_
          refine x_bipush (x := 6) d_X4_isUnder_31 (by decide) ?_
          refine x_icmp_eq 55 d_X4_isUnder_33 (by decide) (fun c9 => ?_) (fun c9 => ?_)
          · skip
            exact absurd (c1.symm.trans c9) (by decide)
          · skip
            refine x_iload_n 2 d_X4_isUnder_36 rfl rfl ?_
            refine x_iconst (x := 2) d_X4_isUnder_37 (by decide) ?_
            refine x_icmp_ne 45 d_X4_isUnder_38 (by decide) (fun c10 => ?_) (fun c10 => ?_)
            · skip
              refine x_iload_n 2 d_X4_isUnder_45 rfl rfl ?_
              refine x_iconst (x := 3) d_X4_isUnder_46 (by decide) ?_
              refine x_icmp_ne 59 d_X4_isUnder_47 (by decide) (fun c11 => ?_) (fun c11 => ?_)
              · skip
                refine x_iconst (x := 0) d_X4_isUnder_59 (by decide) ?_
                refine x_zret0 rfl d_X4_isUnder_60 ?_
                exact ⟨congrArg x_b (show false = underB (nI k) (nI t) from by unfold underB; first | (simp only [decide_eq_true c1, decide_eq_false c2, decide_eq_false c3, decide_eq_true c4, decide_eq_false c9, decide_eq_false c10, decide_eq_false c11, Bool.true_or, Bool.or_true, Bool.false_or, Bool.or_false, Bool.true_and, Bool.and_true, Bool.false_and, Bool.and_false, Bool.or_self, Bool.and_self]; done) | (simp [c1, c2, c3, c4, c9, c10, c11]; done)), rfl⟩
              · skip
                exact absurd (c4.symm.trans c11) (by decide)
            · skip
              exact absurd (c4.symm.trans c10) (by decide)
  · skip
    refine x_iload_n 0 d_X4_isUnder_5 rfl rfl ?_
    refine x_iconst (x := 4) d_X4_isUnder_6 (by decide) ?_
    refine x_icmp_ne 14 d_X4_isUnder_7 (by decide) (fun c12 => ?_) (fun c12 => ?_)
    · skip
      refine x_iconst (x := 0) d_X4_isUnder_14 (by decide) ?_
      refine x_istore_n [(2, .int 0), (0, .int (nI k)), (1, .int (nI t))] d_X4_isUnder_15 rfl (Nat.le_of_ble_eq_true rfl) rfl ?_
      refine x_iload_n 2 d_X4_isUnder_16 rfl rfl ?_
      refine x_if_eq 55 d_X4_isUnder_17 (by decide) (fun c13 => ?_) (fun c13 => ?_)
      · skip
        refine x_iconst (x := 1) d_X4_isUnder_55 (by decide) ?_
        refine x_goto 60 d_X4_isUnder_56 (by decide) ?_
        refine x_zret1 rfl d_X4_isUnder_60 ?_
        exact ⟨congrArg x_b (show true = underB (nI k) (nI t) from by unfold underB; first | (simp only [decide_eq_false c1, decide_eq_false c12, decide_eq_true c13, Bool.true_or, Bool.or_true, Bool.false_or, Bool.or_false, Bool.true_and, Bool.and_true, Bool.false_and, Bool.and_false, Bool.or_self, Bool.and_self]; done) | (simp [c1, c12, c13]; done)), rfl⟩
      · skip
        refine x_iload_n 2 d_X4_isUnder_20 rfl rfl ?_
        refine x_iload_n 1 d_X4_isUnder_21 rfl rfl ?_
        refine x_icmp_eq 55 d_X4_isUnder_22 (by decide) (fun c14 => ?_) (fun c14 => ?_)
        · skip
          refine x_iconst (x := 1) d_X4_isUnder_55 (by decide) ?_
          refine x_goto 60 d_X4_isUnder_56 (by decide) ?_
          refine x_zret1 rfl d_X4_isUnder_60 ?_
          exact ⟨congrArg x_b (show true = underB (nI k) (nI t) from by unfold underB; first | (simp only [decide_eq_false c1, decide_eq_false c12, decide_eq_false c13, decide_eq_true c14, Bool.true_or, Bool.or_true, Bool.false_or, Bool.or_false, Bool.true_and, Bool.and_true, Bool.false_and, Bool.and_false, Bool.or_self, Bool.and_self]; done) | (simp [c1, c12, c13, c14]; done)), rfl⟩
        · skip
          refine x_iload_n 2 d_X4_isUnder_25 rfl rfl ?_
          refine x_iconst (x := 1) d_X4_isUnder_26 (by decide) ?_
          refine x_icmp_ne 36 d_X4_isUnder_27 (by decide) (fun c15 => ?_) (fun c15 => ?_)
          · skip
            refine x_iload_n 2 d_X4_isUnder_36 rfl rfl ?_
            refine x_iconst (x := 2) d_X4_isUnder_37 (by decide) ?_
            refine x_icmp_ne 45 d_X4_isUnder_38 (by decide) (fun c16 => ?_) (fun c16 => ?_)
            · skip
              refine x_iload_n 2 d_X4_isUnder_45 rfl rfl ?_
              refine x_iconst (x := 3) d_X4_isUnder_46 (by decide) ?_
              refine x_icmp_ne 59 d_X4_isUnder_47 (by decide) (fun c17 => ?_) (fun c17 => ?_)
              · skip
                refine x_iconst (x := 0) d_X4_isUnder_59 (by decide) ?_
                refine x_zret0 rfl d_X4_isUnder_60 ?_
                exact ⟨congrArg x_b (show false = underB (nI k) (nI t) from by unfold underB; first | (simp only [decide_eq_false c1, decide_eq_false c12, decide_eq_false c13, decide_eq_false c14, decide_eq_false c15, decide_eq_false c16, decide_eq_false c17, Bool.true_or, Bool.or_true, Bool.false_or, Bool.or_false, Bool.true_and, Bool.and_true, Bool.false_and, Bool.and_false, Bool.or_self, Bool.and_self]; done) | (simp [c1, c12, c13, c14, c15, c16, c17]; done)), rfl⟩
              · skip
                refine x_iload_n 1 d_X4_isUnder_50 rfl rfl ?_
                refine x_iconst (x := 4) d_X4_isUnder_51 (by decide) ?_
                refine x_icmp_ne 59 d_X4_isUnder_52 (by decide) (fun c18 => ?_) (fun c18 => ?_)
                · skip
                  refine x_iconst (x := 0) d_X4_isUnder_59 (by decide) ?_
                  refine x_zret0 rfl d_X4_isUnder_60 ?_
                  exact ⟨congrArg x_b (show false = underB (nI k) (nI t) from by unfold underB; first | (simp only [decide_eq_false c1, decide_eq_false c12, decide_eq_false c13, decide_eq_false c14, decide_eq_false c15, decide_eq_false c16, decide_eq_true c17, decide_eq_false c18, Bool.true_or, Bool.or_true, Bool.false_or, Bool.or_false, Bool.true_and, Bool.and_true, Bool.false_and, Bool.and_false, Bool.or_self, Bool.and_self]; done) | (simp [c1, c12, c13, c14, c15, c16, c17, c18]; done)), rfl⟩
                · skip
                  exact absurd c18 c12
            · skip
              refine x_iload_n 0 d_X4_isUnder_41 rfl rfl ?_
              refine x_if_ne 55 d_X4_isUnder_42 (by decide) (fun c19 => ?_) (fun c19 => ?_)
              · exact absurd c19 (by decide)
              refine x_iload_n 2 d_X4_isUnder_45 rfl rfl ?_
              refine x_iconst (x := 3) d_X4_isUnder_46 (by decide) ?_
              refine x_icmp_ne 59 d_X4_isUnder_47 (by decide) (fun c20 => ?_) (fun c20 => ?_)
              · skip
                refine x_iconst (x := 0) d_X4_isUnder_59 (by decide) ?_
                refine x_zret0 rfl d_X4_isUnder_60 ?_
                exact ⟨congrArg x_b (show false = underB (nI k) (nI t) from by unfold underB; first | (simp only [decide_eq_false c1, decide_eq_false c12, decide_eq_false c13, decide_eq_false c14, decide_eq_false c15, decide_eq_true c16, decide_eq_false c20, Bool.true_or, Bool.or_true, Bool.false_or, Bool.or_false, Bool.true_and, Bool.and_true, Bool.false_and, Bool.and_false, Bool.or_self, Bool.and_self]; done) | (simp [c1, c12, c13, c14, c15, c16, c20]; done)), rfl⟩
              · skip
                exact absurd (c16.symm.trans c20) (by decide)
          · skip
            refine x_iload_n 1 d_X4_isUnder_30 rfl rfl ?_
            refine x_bipush (x := 6) d_X4_isUnder_31 (by decide) ?_
            refine x_icmp_eq 55 d_X4_isUnder_33 (by decide) (fun c21 => ?_) (fun c21 => ?_)
            · skip
              refine x_iconst (x := 1) d_X4_isUnder_55 (by decide) ?_
              refine x_goto 60 d_X4_isUnder_56 (by decide) ?_
              refine x_zret1 rfl d_X4_isUnder_60 ?_
              exact ⟨congrArg x_b (show true = underB (nI k) (nI t) from by unfold underB; first | (simp only [decide_eq_false c1, decide_eq_false c12, decide_eq_false c13, decide_eq_false c14, decide_eq_true c15, decide_eq_true c21, Bool.true_or, Bool.or_true, Bool.false_or, Bool.or_false, Bool.true_and, Bool.and_true, Bool.false_and, Bool.and_false, Bool.or_self, Bool.and_self]; done) | (simp [c1, c12, c13, c14, c15, c21]; done)), rfl⟩
            · skip
              refine x_iload_n 2 d_X4_isUnder_36 rfl rfl ?_
              refine x_iconst (x := 2) d_X4_isUnder_37 (by decide) ?_
              refine x_icmp_ne 45 d_X4_isUnder_38 (by decide) (fun c22 => ?_) (fun c22 => ?_)
              · skip
                refine x_iload_n 2 d_X4_isUnder_45 rfl rfl ?_
                refine x_iconst (x := 3) d_X4_isUnder_46 (by decide) ?_
                refine x_icmp_ne 59 d_X4_isUnder_47 (by decide) (fun c23 => ?_) (fun c23 => ?_)
                · skip
                  refine x_iconst (x := 0) d_X4_isUnder_59 (by decide) ?_
                  refine x_zret0 rfl d_X4_isUnder_60 ?_
                  exact ⟨congrArg x_b (show false = underB (nI k) (nI t) from by unfold underB; first | (simp only [decide_eq_false c1, decide_eq_false c12, decide_eq_false c13, decide_eq_false c14, decide_eq_true c15, decide_eq_false c21, decide_eq_false c22, decide_eq_false c23, Bool.true_or, Bool.or_true, Bool.false_or, Bool.or_false, Bool.true_and, Bool.and_true, Bool.false_and, Bool.and_false, Bool.or_self, Bool.and_self]; done) | (simp [c1, c12, c13, c14, c15, c21, c22, c23]; done)), rfl⟩
                · skip
                  exact absurd (c15.symm.trans c23) (by decide)
              · skip
                exact absurd (c15.symm.trans c22) (by decide)
    · skip
      refine x_iconst (x := 1) d_X4_isUnder_10 (by decide) ?_
      refine x_goto 15 d_X4_isUnder_11 (by decide) ?_
      refine x_istore_n [(2, .int 1), (0, .int (nI k)), (1, .int (nI t))] d_X4_isUnder_15 rfl (Nat.le_of_ble_eq_true rfl) rfl ?_
      refine x_iload_n 2 d_X4_isUnder_16 rfl rfl ?_
      refine x_if_eq 55 d_X4_isUnder_17 (by decide) (fun c24 => ?_) (fun c24 => ?_)
      · skip
        refine x_iconst (x := 1) d_X4_isUnder_55 (by decide) ?_
        refine x_goto 60 d_X4_isUnder_56 (by decide) ?_
        refine x_zret1 rfl d_X4_isUnder_60 ?_
        exact ⟨congrArg x_b (show true = underB (nI k) (nI t) from by unfold underB; first | (simp only [decide_eq_false c1, decide_eq_true c12, decide_eq_true c24, Bool.true_or, Bool.or_true, Bool.false_or, Bool.or_false, Bool.true_and, Bool.and_true, Bool.false_and, Bool.and_false, Bool.or_self, Bool.and_self]; done) | (simp [c1, c12, c24]; done)), rfl⟩
      · skip
        refine x_iload_n 2 d_X4_isUnder_20 rfl rfl ?_
        refine x_iload_n 1 d_X4_isUnder_21 rfl rfl ?_
        refine x_icmp_eq 55 d_X4_isUnder_22 (by decide) (fun c25 => ?_) (fun c25 => ?_)
        · skip
          refine x_iconst (x := 1) d_X4_isUnder_55 (by decide) ?_
          refine x_goto 60 d_X4_isUnder_56 (by decide) ?_
          refine x_zret1 rfl d_X4_isUnder_60 ?_
          exact ⟨congrArg x_b (show true = underB (nI k) (nI t) from by unfold underB; first | (simp only [decide_eq_false c1, decide_eq_true c12, decide_eq_false c24, decide_eq_true c25, Bool.true_or, Bool.or_true, Bool.false_or, Bool.or_false, Bool.true_and, Bool.and_true, Bool.false_and, Bool.and_false, Bool.or_self, Bool.and_self]; done) | (simp [c1, c12, c24, c25]; done)), rfl⟩
        · skip
          refine x_iload_n 2 d_X4_isUnder_25 rfl rfl ?_
          refine x_iconst (x := 1) d_X4_isUnder_26 (by decide) ?_
          refine x_icmp_ne 36 d_X4_isUnder_27 (by decide) (fun c26 => ?_) (fun c26 => ?_)
          · skip
            refine x_iload_n 2 d_X4_isUnder_36 rfl rfl ?_
            refine x_iconst (x := 2) d_X4_isUnder_37 (by decide) ?_
            refine x_icmp_ne 45 d_X4_isUnder_38 (by decide) (fun c27 => ?_) (fun c27 => ?_)
            · skip
              refine x_iload_n 2 d_X4_isUnder_45 rfl rfl ?_
              refine x_iconst (x := 3) d_X4_isUnder_46 (by decide) ?_
              refine x_icmp_ne 59 d_X4_isUnder_47 (by decide) (fun c28 => ?_) (fun c28 => ?_)
              · skip
                refine x_iconst (x := 0) d_X4_isUnder_59 (by decide) ?_
                refine x_zret0 rfl d_X4_isUnder_60 ?_
                exact ⟨congrArg x_b (show false = underB (nI k) (nI t) from by unfold underB; first | (simp only [decide_eq_false c1, decide_eq_true c12, decide_eq_false c24, decide_eq_false c25, decide_eq_false c26, decide_eq_false c27, decide_eq_false c28, Bool.true_or, Bool.or_true, Bool.false_or, Bool.or_false, Bool.true_and, Bool.and_true, Bool.false_and, Bool.and_false, Bool.or_self, Bool.and_self]; done) | (simp [c1, c12, c24, c25, c26, c27, c28]; done)), rfl⟩
              · skip
                refine x_iload_n 1 d_X4_isUnder_50 rfl rfl ?_
                refine x_iconst (x := 4) d_X4_isUnder_51 (by decide) ?_
                refine x_icmp_ne 59 d_X4_isUnder_52 (by decide) (fun c29 => ?_) (fun c29 => ?_)
                · skip
                  exact absurd c12 c29
                · skip
                  refine x_iconst (x := 1) d_X4_isUnder_55 (by decide) ?_
                  refine x_goto 60 d_X4_isUnder_56 (by decide) ?_
                  refine x_zret1 rfl d_X4_isUnder_60 ?_
                  exact ⟨congrArg x_b (show true = underB (nI k) (nI t) from by unfold underB; first | (simp only [decide_eq_false c1, decide_eq_true c12, decide_eq_false c24, decide_eq_false c25, decide_eq_false c26, decide_eq_false c27, decide_eq_true c28, decide_eq_true c29, Bool.true_or, Bool.or_true, Bool.false_or, Bool.or_false, Bool.true_and, Bool.and_true, Bool.false_and, Bool.and_false, Bool.or_self, Bool.and_self]; done) | (simp [c1, c12, c24, c25, c26, c27, c28, c29]; done)), rfl⟩
            · skip
              refine x_iload_n 0 d_X4_isUnder_41 rfl rfl ?_
              refine x_if_ne 55 d_X4_isUnder_42 (by decide) (fun c30 => ?_) (fun c30 => ?_)
              rotate_left
              · exact absurd c30 (by decide)
              refine x_iconst (x := 1) d_X4_isUnder_55 (by decide) ?_
              refine x_goto 60 d_X4_isUnder_56 (by decide) ?_
              refine x_zret1 rfl d_X4_isUnder_60 ?_
              exact ⟨congrArg x_b (show true = underB (nI k) (nI t) from by unfold underB; first | (simp only [decide_eq_false c1, decide_eq_true c12, decide_eq_false c24, decide_eq_false c25, decide_eq_false c26, decide_eq_true c27, Bool.true_or, Bool.or_true, Bool.false_or, Bool.or_false, Bool.true_and, Bool.and_true, Bool.false_and, Bool.and_false, Bool.or_self, Bool.and_self]; done) | (simp [c1, c12, c24, c25, c26, c27]; done)), rfl⟩
          · skip
            refine x_iload_n 1 d_X4_isUnder_30 rfl rfl ?_
            refine x_bipush (x := 6) d_X4_isUnder_31 (by decide) ?_
            refine x_icmp_eq 55 d_X4_isUnder_33 (by decide) (fun c31 => ?_) (fun c31 => ?_)
            · skip
              exact absurd (c12.symm.trans c31) (by decide)
            · skip
              refine x_iload_n 2 d_X4_isUnder_36 rfl rfl ?_
              refine x_iconst (x := 2) d_X4_isUnder_37 (by decide) ?_
              refine x_icmp_ne 45 d_X4_isUnder_38 (by decide) (fun c32 => ?_) (fun c32 => ?_)
              · skip
                refine x_iload_n 2 d_X4_isUnder_45 rfl rfl ?_
                refine x_iconst (x := 3) d_X4_isUnder_46 (by decide) ?_
                refine x_icmp_ne 59 d_X4_isUnder_47 (by decide) (fun c33 => ?_) (fun c33 => ?_)
                · skip
                  refine x_iconst (x := 0) d_X4_isUnder_59 (by decide) ?_
                  refine x_zret0 rfl d_X4_isUnder_60 ?_
                  exact ⟨congrArg x_b (show false = underB (nI k) (nI t) from by unfold underB; first | (simp only [decide_eq_false c1, decide_eq_true c12, decide_eq_false c24, decide_eq_false c25, decide_eq_true c26, decide_eq_false c31, decide_eq_false c32, decide_eq_false c33, Bool.true_or, Bool.or_true, Bool.false_or, Bool.or_false, Bool.true_and, Bool.and_true, Bool.false_and, Bool.and_false, Bool.or_self, Bool.and_self]; done) | (simp [c1, c12, c24, c25, c26, c31, c32, c33]; done)), rfl⟩
                · skip
                  exact absurd (c26.symm.trans c33) (by decide)
              · skip
                exact absurd (c26.symm.trans c32) (by decide)
def m_X4_as : x_M := (yX4_as, prog_6_method_90_code, 4, (some FieldType.int), 1, 22)
theorem v_X4_as : x_VM m_X4_as 2 := ⟨q1073, q6, by decide +kernel, by decide +kernel, by decide +kernel⟩
theorem w_X4_as : x_VI m_X4_as := ⟨q1071, q1072⟩
theorem d_X4_as_0 : x_dec m_X4_as 0 (.iload_n 1) 1 1 := ⟨by decide +kernel, rfl⟩
theorem d_X4_as_1 : x_dec m_X4_as 1 (.iconst 0) 1 2 := ⟨by decide +kernel, rfl⟩
theorem d_X4_as_2 : x_dec m_X4_as 2 (.bipush 9) 2 4 := ⟨by decide +kernel, rfl⟩
theorem d_X4_as_4 : x_dec m_X4_as 4 (.invokestatic 46) 3 7 := ⟨by decide +kernel, rfl⟩
theorem d_X4_as_7 : x_dec m_X4_as 7 (.ifCond .eq 13) 3 10 := ⟨by decide +kernel, rfl⟩
theorem d_X4_as_10 : x_dec m_X4_as 10 (.iload_n 2) 1 11 := ⟨by decide +kernel, rfl⟩
theorem d_X4_as_11 : x_dec m_X4_as 11 (.iconst 0) 1 12 := ⟨by decide +kernel, rfl⟩
theorem d_X4_as_12 : x_dec m_X4_as 12 (.bipush 6) 2 14 := ⟨by decide +kernel, rfl⟩
theorem d_X4_as_14 : x_dec m_X4_as 14 (.invokestatic 46) 3 17 := ⟨by decide +kernel, rfl⟩
theorem d_X4_as_17 : x_dec m_X4_as 17 (.ifCond .ne 10) 3 20 := ⟨by decide +kernel, rfl⟩
theorem d_X4_as_20 : x_dec m_X4_as 20 (.aload_n 0) 1 21 := ⟨by decide +kernel, rfl⟩
theorem d_X4_as_21 : x_dec m_X4_as 21 (.ldc 40) 2 23 := ⟨by decide +kernel, rfl⟩
theorem d_X4_as_23 : x_dec m_X4_as 23 (.invokevirtual 42) 3 26 := ⟨by decide +kernel, rfl⟩
theorem d_X4_as_26 : x_dec m_X4_as 26 (.ireturn) 1 27 := ⟨by decide +kernel, rfl⟩
theorem d_X4_as_27 : x_dec m_X4_as 27 (.aload_n 0) 1 28 := ⟨by decide +kernel, rfl⟩
theorem d_X4_as_28 : x_dec m_X4_as 28 (.getfield 9) 3 31 := ⟨by decide +kernel, rfl⟩
theorem d_X4_as_31 : x_dec m_X4_as 31 (.bipush 48) 2 33 := ⟨by decide +kernel, rfl⟩
theorem d_X4_as_33 : x_dec m_X4_as 33 (.iload_n 1) 1 34 := ⟨by decide +kernel, rfl⟩
theorem d_X4_as_34 : x_dec m_X4_as 34 (.iadd) 1 35 := ⟨by decide +kernel, rfl⟩
theorem d_X4_as_35 : x_dec m_X4_as 35 (.iaload) 1 36 := ⟨by decide +kernel, rfl⟩
theorem d_X4_as_36 : x_dec m_X4_as 36 (.istore_n 3) 1 37 := ⟨by decide +kernel, rfl⟩
theorem d_X4_as_37 : x_dec m_X4_as 37 (.iload_n 3) 1 38 := ⟨by decide +kernel, rfl⟩
theorem d_X4_as_38 : x_dec m_X4_as 38 (.ifCond .ge 10) 3 41 := ⟨by decide +kernel, rfl⟩
theorem d_X4_as_41 : x_dec m_X4_as 41 (.aload_n 0) 1 42 := ⟨by decide +kernel, rfl⟩
theorem d_X4_as_42 : x_dec m_X4_as 42 (.ldc 161) 2 44 := ⟨by decide +kernel, rfl⟩
theorem d_X4_as_44 : x_dec m_X4_as 44 (.invokevirtual 42) 3 47 := ⟨by decide +kernel, rfl⟩
theorem d_X4_as_47 : x_dec m_X4_as 47 (.ireturn) 1 48 := ⟨by decide +kernel, rfl⟩
theorem d_X4_as_48 : x_dec m_X4_as 48 (.aload_n 0) 1 49 := ⟨by decide +kernel, rfl⟩
theorem d_X4_as_49 : x_dec m_X4_as 49 (.iload_n 3) 1 50 := ⟨by decide +kernel, rfl⟩
theorem d_X4_as_50 : x_dec m_X4_as 50 (.iconst 0) 1 51 := ⟨by decide +kernel, rfl⟩
theorem d_X4_as_51 : x_dec m_X4_as 51 (.invokevirtual 50) 3 54 := ⟨by decide +kernel, rfl⟩
theorem d_X4_as_54 : x_dec m_X4_as 54 (.iload_n 2) 1 55 := ⟨by decide +kernel, rfl⟩
theorem d_X4_as_55 : x_dec m_X4_as 55 (.invokestatic 237) 3 58 := ⟨by decide +kernel, rfl⟩
theorem d_X4_as_58 : x_dec m_X4_as 58 (.ifCond .eq 7) 3 61 := ⟨by decide +kernel, rfl⟩
theorem d_X4_as_61 : x_dec m_X4_as 61 (.iload_n 3) 1 62 := ⟨by decide +kernel, rfl⟩
theorem d_X4_as_62 : x_dec m_X4_as 62 (.goto 9) 3 65 := ⟨by decide +kernel, rfl⟩
theorem d_X4_as_65 : x_dec m_X4_as 65 (.aload_n 0) 1 66 := ⟨by decide +kernel, rfl⟩
theorem d_X4_as_66 : x_dec m_X4_as 66 (.ldc 240) 2 68 := ⟨by decide +kernel, rfl⟩
theorem d_X4_as_68 : x_dec m_X4_as 68 (.invokevirtual 42) 3 71 := ⟨by decide +kernel, rfl⟩
theorem d_X4_as_71 : x_dec m_X4_as 71 (.ireturn) 1 72 := ⟨by decide +kernel, rfl⟩
set_option maxHeartbeats 4000000 in
set_option maxRecDepth 100000 in
theorem c_X4_as (l : Launch) (E : x_E) (μ : x_Mem) (g : x_SG) (hS : MS g μ) (hI : Inv g) (j k : Int32) : x_Met l m_X4_as E [.ref (E.1 + 41), .int j, .int k] μ (x_I (fun z m => z = (F_as g j k).1 ∧ MS (F_as g j k).2 m ∧ ∀ id, id < 41 → m id = μ id)) := by
  obtain ⟨hR, hX, hD⟩ := hS
  have hWF := hI.1.1
  have hn7 := hWF.2.1
  have hpn := hWF.1
  have hF : ∀ id, id < 41 → μ id = μ id := fun _ _ => rfl
  refine x_enter (lv := [(0, .ref (E.1 + 41)), (1, .int j), (2, .int k)]) (by decide +kernel) (Nat.le_of_ble_eq_true rfl) rfl ?_
  refine x_iload_n 1 d_X4_as_0 rfl rfl ?_
  refine x_iconst (x := 0) d_X4_as_1 (by decide) ?_
  refine x_bipush (x := 9) d_X4_as_2 (by decide) ?_
  refine x_csip (as := [.int j, .int 0, .int 9]) (c_X4_in l E μ j 0 9) v_X4_in q728 q727 rfl ⟨Nat.le_of_ble_eq_true rfl, Nat.le_of_ble_eq_true rfl⟩ rfl (Nat.le_of_ble_eq_true rfl) d_X4_as_4 ?_
  refine x_ifb_eq 20 d_X4_as_7 (by decide) (fun c1 => ?_) (fun c1 => ?_)
  · skip
    refine x_aload_n 0 d_X4_as_20 rfl rfl ?_
    refine x_ldc q734 d_X4_as_21 ?_
    refine x_cvi (k := 41) (as := [.int (-1000001)]) (c_X4_finds l E μ (i := 0) hD (by decide) (w := (-1000001)) (by decide)) v_X4_finds w_X4_finds q735 o_M rfl ⟨Nat.le_of_ble_eq_true rfl, Nat.le_of_ble_eq_true rfl⟩ rfl (Nat.le_of_ble_eq_true rfl) d_X4_as_23 ?_
    rintro _ μ2 ⟨rfl, hD3, hF4⟩
    have hR5 := MR.cg hR (μ' := μ2) (fun id hid => (hF4 _ (by omega)))
    have hX6 := MX.cg hX (μ' := μ2) (fun id hid => (hF4 _ (by omega)))
    have hF7 : ∀ id, id < 41 → μ2 id = μ id := fun id hid => (show μ2 id = μ id from (hF4 _ (by omega))).trans (hF id hid)
    refine x_iret rfl d_X4_as_26 ?_
    have e9 : F_as g j k = fin g 0 := by simp [F_as, x_b_f, x_b_t, c1]
    rw [e9]
    exact ⟨rfl, MS.fin hR5 hX6 hD3, hF7⟩
  · skip
    obtain ⟨jj, hjj, rfl⟩ := inR_nat (n := 9) (by decide) c1
    refine x_iload_n 2 d_X4_as_10 rfl rfl ?_
    refine x_iconst (x := 0) d_X4_as_11 (by decide) ?_
    refine x_bipush (x := 6) d_X4_as_12 (by decide) ?_
    refine x_csip (as := [.int k, .int 0, .int 6]) (c_X4_in l E μ k 0 6) v_X4_in q728 q727 rfl ⟨Nat.le_of_ble_eq_true rfl, Nat.le_of_ble_eq_true rfl⟩ rfl (Nat.le_of_ble_eq_true rfl) d_X4_as_14 ?_
    refine x_ifb_ne 27 d_X4_as_17 (by decide) (fun c8 => ?_) (fun c8 => ?_)
    · skip
      obtain ⟨kk, hkk, rfl⟩ := inR_nat (n := 6) (by decide) c8
      refine x_aload_n 0 d_X4_as_27 rfl rfl ?_
      refine x_getr (j := 0) 42 x_c4 rfl (Nat.le_of_ble_eq_true rfl) q668 rfl d_X4_as_28 ?_
      refine x_bipush (x := 48) d_X4_as_31 (by decide) ?_
      refine x_iload_n 1 d_X4_as_33 rfl rfl ?_
      refine x_iadd d_X4_as_34 ?_
      rw [show (48 : Int32) + (nI jj) = nI (48 + jj) from nI_add 48 jj]
      refine x_ialdN (z := (gA g) (48 + jj)) 58 (48 + jj) rfl rfl (by omega) (by decide) (hR (48 + jj) (by omega)) d_X4_as_35 ?_
      refine x_istore_n [(3, .int ((gA g) (48 + jj))), (0, .ref (E.1 + 41)), (1, .int (nI jj)), (2, .int (nI kk))] d_X4_as_36 rfl (Nat.le_of_ble_eq_true rfl) rfl ?_
      refine x_iload_n 0 d_X4_as_37 rfl rfl ?_
      refine x_if_ge 48 d_X4_as_38 (by decide) (fun c9 => ?_) (fun c9 => ?_)
      · skip
        obtain ⟨q, hq, eq⟩ := spot_pos hI.1 (j := jj) (by omega) c9
        have hne := nI_ne_m1 (n := q) (by omega)
        rw [eq]
        obtain ⟨kq, hkq, ekq⟩ := hWF.2.2.1 q (by omega)
        refine x_aload_n 1 d_X4_as_48 rfl rfl ?_
        refine x_iload_n 0 d_X4_as_49 rfl rfl ?_
        refine x_iconst (x := 0) d_X4_as_50 (by decide) ?_
        refine x_cvip (k := 41) (as := [.int (nI q), .int 0]) (c_X4_told l E μ hR (p := q) (w := 0) (j := 24 + 3 * q) rfl (by omega)) v_X4_told w_X4_told q755 o_M rfl ⟨Nat.le_of_ble_eq_true rfl, Nat.le_of_ble_eq_true rfl⟩ rfl (Nat.le_of_ble_eq_true rfl) d_X4_as_51 ?_
        rw [ekq]
        refine x_iload_n 3 d_X4_as_54 rfl rfl ?_
        refine x_csip (as := [.int (nI kq), .int (nI kk)]) (c_X4_isUnder l E μ (k := kq) (t := kk) (by omega) (by omega)) v_X4_isUnder q1075 q1074 rfl ⟨Nat.le_of_ble_eq_true rfl, Nat.le_of_ble_eq_true rfl⟩ rfl (Nat.le_of_ble_eq_true rfl) d_X4_as_55 ?_
        refine x_ifb_eq 65 d_X4_as_58 (by decide) (fun c10 => ?_) (fun c10 => ?_)
        · skip
          refine x_aload_n 1 d_X4_as_65 rfl rfl ?_
          refine x_ldc q1077 d_X4_as_66 ?_
          refine x_cvi (k := 41) (as := [.int (-1000003)]) (c_X4_finds l E μ (i := 2) hD (by decide) (w := (-1000003)) (by decide)) v_X4_finds w_X4_finds q735 o_M rfl ⟨Nat.le_of_ble_eq_true rfl, Nat.le_of_ble_eq_true rfl⟩ rfl (Nat.le_of_ble_eq_true rfl) d_X4_as_68 ?_
          rintro _ μ11 ⟨rfl, hD12, hF13⟩
          have hR14 := MR.cg hR (μ' := μ11) (fun id hid => (hF13 _ (by omega)))
          have hX15 := MX.cg hX (μ' := μ11) (fun id hid => (hF13 _ (by omega)))
          have hF16 : ∀ id, id < 41 → μ11 id = μ id := fun id hid => (show μ11 id = μ id from (hF13 _ (by omega))).trans (hF id hid)
          refine x_iret rfl d_X4_as_71 ?_
          have e9 : F_as g (nI jj) (nI kk) = fin g 2 := by simp [F_as, x_b_f, x_b_t, c1, c8, c10, nI_clamp (n := jj) (by omega), nI_clamp (n := kk) (by omega), eq, hne, ekq, nI_clamp (n := q) (by omega)]
          rw [e9]
          exact ⟨rfl, MS.fin hR14 hX15 hD12, hF16⟩
        · skip
          refine x_iload_n 0 d_X4_as_61 rfl rfl ?_
          refine x_goto 71 d_X4_as_62 (by decide) ?_
          refine x_iret rfl d_X4_as_71 ?_
          have e9 : F_as g (nI jj) (nI kk) = (nI q, g) := by simp [F_as, x_b_f, x_b_t, c1, c8, c10, nI_clamp (n := jj) (by omega), nI_clamp (n := kk) (by omega), eq, hne, ekq, nI_clamp (n := q) (by omega)]
          rw [e9]
          exact ⟨rfl, ⟨hR, hX, hD⟩, hF⟩
      · skip
        have e5 := (spot_neg hI.1 (j := jj) (by omega)).mp (Int32.not_le.mp c9)
        refine x_aload_n 1 d_X4_as_41 rfl rfl ?_
        refine x_ldc q964 d_X4_as_42 ?_
        refine x_cvi (k := 41) (as := [.int (-1000006)]) (c_X4_finds l E μ (i := 5) hD (by decide) (w := (-1000006)) (by decide)) v_X4_finds w_X4_finds q735 o_M rfl ⟨Nat.le_of_ble_eq_true rfl, Nat.le_of_ble_eq_true rfl⟩ rfl (Nat.le_of_ble_eq_true rfl) d_X4_as_44 ?_
        rintro _ μ17 ⟨rfl, hD18, hF19⟩
        have hR20 := MR.cg hR (μ' := μ17) (fun id hid => (hF19 _ (by omega)))
        have hX21 := MX.cg hX (μ' := μ17) (fun id hid => (hF19 _ (by omega)))
        have hF22 : ∀ id, id < 41 → μ17 id = μ id := fun id hid => (show μ17 id = μ id from (hF19 _ (by omega))).trans (hF id hid)
        refine x_iret rfl d_X4_as_47 ?_
        have e9 : F_as g (nI jj) (nI kk) = fin g 5 := by simp [F_as, x_b_f, x_b_t, c1, c8, nI_clamp (n := jj) (by omega), nI_clamp (n := kk) (by omega), e5]
        rw [e9]
        exact ⟨rfl, MS.fin hR20 hX21 hD18, hF22⟩
    · skip
      refine x_aload_n 0 d_X4_as_20 rfl rfl ?_
      refine x_ldc q734 d_X4_as_21 ?_
      refine x_cvi (k := 41) (as := [.int (-1000001)]) (c_X4_finds l E μ (i := 0) hD (by decide) (w := (-1000001)) (by decide)) v_X4_finds w_X4_finds q735 o_M rfl ⟨Nat.le_of_ble_eq_true rfl, Nat.le_of_ble_eq_true rfl⟩ rfl (Nat.le_of_ble_eq_true rfl) d_X4_as_23 ?_
      rintro _ μ23 ⟨rfl, hD24, hF25⟩
      have hR26 := MR.cg hR (μ' := μ23) (fun id hid => (hF25 _ (by omega)))
      have hX27 := MX.cg hX (μ' := μ23) (fun id hid => (hF25 _ (by omega)))
      have hF28 : ∀ id, id < 41 → μ23 id = μ id := fun id hid => (show μ23 id = μ id from (hF25 _ (by omega))).trans (hF id hid)
      refine x_iret rfl d_X4_as_26 ?_
      have e9 : F_as g (nI jj) k = fin g 0 := by simp [F_as, x_b_f, x_b_t, c1, c8, nI_clamp (n := jj) (by omega)]
      rw [e9]
      exact ⟨rfl, MS.fin hR26 hX27 hD24, hF28⟩
def m_X4_draw : x_M := (yX4_draw, prog_6_method_71_code, 1, (some FieldType.int), 0, 0)
theorem v_X4_draw : x_VM m_X4_draw 0 := ⟨q1000, q6, by decide +kernel, by decide +kernel, by decide +kernel⟩
theorem w_X4_draw : x_VI m_X4_draw := ⟨q999, qs50⟩
theorem d_X4_draw_0 : x_dec m_X4_draw 0 (.aload_n 0) 1 1 := ⟨by decide +kernel, rfl⟩
theorem d_X4_draw_1 : x_dec m_X4_draw 1 (.getfield 9) 3 4 := ⟨by decide +kernel, rfl⟩
theorem d_X4_draw_4 : x_dec m_X4_draw 4 (.bipush 6) 2 6 := ⟨by decide +kernel, rfl⟩
theorem d_X4_draw_6 : x_dec m_X4_draw 6 (.aload_n 0) 1 7 := ⟨by decide +kernel, rfl⟩
theorem d_X4_draw_7 : x_dec m_X4_draw 7 (.getfield 9) 3 10 := ⟨by decide +kernel, rfl⟩
theorem d_X4_draw_10 : x_dec m_X4_draw 10 (.bipush 6) 2 12 := ⟨by decide +kernel, rfl⟩
theorem d_X4_draw_12 : x_dec m_X4_draw 12 (.iaload) 1 13 := ⟨by decide +kernel, rfl⟩
theorem d_X4_draw_13 : x_dec m_X4_draw 13 (.ldc 175) 2 15 := ⟨by decide +kernel, rfl⟩
theorem d_X4_draw_15 : x_dec m_X4_draw 15 (.imul) 1 16 := ⟨by decide +kernel, rfl⟩
theorem d_X4_draw_16 : x_dec m_X4_draw 16 (.sipush 12345) 3 19 := ⟨by decide +kernel, rfl⟩
theorem d_X4_draw_19 : x_dec m_X4_draw 19 (.iadd) 1 20 := ⟨by decide +kernel, rfl⟩
theorem d_X4_draw_20 : x_dec m_X4_draw 20 (.iastore) 1 21 := ⟨by decide +kernel, rfl⟩
theorem d_X4_draw_21 : x_dec m_X4_draw 21 (.aload_n 0) 1 22 := ⟨by decide +kernel, rfl⟩
theorem d_X4_draw_22 : x_dec m_X4_draw 22 (.getfield 9) 3 25 := ⟨by decide +kernel, rfl⟩
theorem d_X4_draw_25 : x_dec m_X4_draw 25 (.bipush 6) 2 27 := ⟨by decide +kernel, rfl⟩
theorem d_X4_draw_27 : x_dec m_X4_draw 27 (.iaload) 1 28 := ⟨by decide +kernel, rfl⟩
theorem d_X4_draw_28 : x_dec m_X4_draw 28 (.bipush 8) 2 30 := ⟨by decide +kernel, rfl⟩
theorem d_X4_draw_30 : x_dec m_X4_draw 30 (.iushr) 1 31 := ⟨by decide +kernel, rfl⟩
theorem d_X4_draw_31 : x_dec m_X4_draw 31 (.ireturn) 1 32 := ⟨by decide +kernel, rfl⟩
set_option maxHeartbeats 4000000 in
set_option maxRecDepth 100000 in
theorem c_X4_draw (l : Launch) (E : x_E) (μ : x_Mem) {a : x_St} (hR : MR a μ) : x_Met l m_X4_draw E [.ref (E.1 + 41)] μ (x_I (fun z m => z = drawV a ∧ MR (upd a 6 (zF a)) m ∧ ∀ id, id ≠ 42 → m id = μ id)) := by
  have hF : ∀ id, id ≠ 42 → μ id = μ id := fun _ _ => rfl
  refine x_enter (lv := [(0, .ref (E.1 + 41))]) (by decide +kernel) (Nat.le_of_ble_eq_true rfl) rfl ?_
  refine x_aload_n 0 d_X4_draw_0 rfl rfl ?_
  refine x_getr (j := 0) 42 x_c4 rfl (Nat.le_of_ble_eq_true rfl) q668 rfl d_X4_draw_1 ?_
  refine x_bipush (x := 6) d_X4_draw_4 (by decide) ?_
  refine x_aload_n 0 d_X4_draw_6 rfl rfl ?_
  refine x_getr (j := 0) 42 x_c4 rfl (Nat.le_of_ble_eq_true rfl) q668 rfl d_X4_draw_7 ?_
  refine x_bipush (x := 6) d_X4_draw_10 (by decide) ?_
  refine x_ialdN (z := a 6) 58 6 rfl rfl (by omega) (by decide) (hR 6 (by omega)) d_X4_draw_12 ?_
  refine x_ldc q1001 d_X4_draw_13 ?_
  refine x_imul d_X4_draw_15 ?_
  refine x_sipush (x := 12345) d_X4_draw_16 (by decide) ?_
  refine x_iadd d_X4_draw_19 ?_
  refine x_iastNG 58 6 rfl rfl (by omega) (by decide) d_X4_draw_20 (fun μ1 eμ1 => ?_)
  have hR2 : MR (upd a (6) (((a 6) * 1103515245) + 12345)) μ1 := MR.w hR eμ1
  have hF3 : ∀ id, id ≠ 42 → μ1 id = μ id := fun id hid => (show μ1 id = μ id from (by rw [eμ1, upd2_ne _ _ _ (by omega)])).trans (hF id hid)
  refine x_aload_n 0 d_X4_draw_21 rfl rfl ?_
  refine x_getr (j := 0) 42 x_c4 rfl (Nat.le_of_ble_eq_true rfl) q668 rfl d_X4_draw_22 ?_
  refine x_bipush (x := 6) d_X4_draw_25 (by decide) ?_
  refine x_ialdN (z := (upd a (6) (((a 6) * 1103515245) + 12345)) 6) 58 6 rfl rfl (by omega) (by decide) (hR2 6 (by omega)) d_X4_draw_27 ?_
  refine x_bipush (x := 8) d_X4_draw_28 (by decide) ?_
  refine x_iushr d_X4_draw_30 ?_
  refine x_iret rfl d_X4_draw_31 ?_
  exact ⟨by unfold drawV zF; rw [upd_s], hR2, hF3⟩
def m_X4_gold : x_M := (yX4_gold, prog_6_method_72_code, 4, (some FieldType.int), 8, 179)
theorem v_X4_gold : x_VM m_X4_gold 1 := ⟨q996, q6, by decide +kernel, by decide +kernel, by decide +kernel⟩
theorem w_X4_gold : x_VI m_X4_gold := ⟨q994, q995⟩
theorem d_X4_gold_0 : x_dec m_X4_gold 0 (.iload_n 1) 1 1 := ⟨by decide +kernel, rfl⟩
theorem d_X4_gold_1 : x_dec m_X4_gold 1 (.iconst 1) 1 2 := ⟨by decide +kernel, rfl⟩
theorem d_X4_gold_2 : x_dec m_X4_gold 2 (.bipush 20) 2 4 := ⟨by decide +kernel, rfl⟩
theorem d_X4_gold_4 : x_dec m_X4_gold 4 (.invokestatic 46) 3 7 := ⟨by decide +kernel, rfl⟩
theorem d_X4_gold_7 : x_dec m_X4_gold 7 (.ifCond .ne 10) 3 10 := ⟨by decide +kernel, rfl⟩
theorem d_X4_gold_10 : x_dec m_X4_gold 10 (.aload_n 0) 1 11 := ⟨by decide +kernel, rfl⟩
theorem d_X4_gold_11 : x_dec m_X4_gold 11 (.ldc 40) 2 13 := ⟨by decide +kernel, rfl⟩
theorem d_X4_gold_13 : x_dec m_X4_gold 13 (.invokevirtual 42) 3 16 := ⟨by decide +kernel, rfl⟩
theorem d_X4_gold_16 : x_dec m_X4_gold 16 (.ireturn) 1 17 := ⟨by decide +kernel, rfl⟩
theorem d_X4_gold_17 : x_dec m_X4_gold 17 (.aload_n 0) 1 18 := ⟨by decide +kernel, rfl⟩
theorem d_X4_gold_18 : x_dec m_X4_gold 18 (.getfield 9) 3 21 := ⟨by decide +kernel, rfl⟩
theorem d_X4_gold_21 : x_dec m_X4_gold 21 (.iconst 0) 1 22 := ⟨by decide +kernel, rfl⟩
theorem d_X4_gold_22 : x_dec m_X4_gold 22 (.iaload) 1 23 := ⟨by decide +kernel, rfl⟩
theorem d_X4_gold_23 : x_dec m_X4_gold 23 (.iload_n 1) 1 24 := ⟨by decide +kernel, rfl⟩
theorem d_X4_gold_24 : x_dec m_X4_gold 24 (.iadd) 1 25 := ⟨by decide +kernel, rfl⟩
theorem d_X4_gold_25 : x_dec m_X4_gold 25 (.ldc 67) 2 27 := ⟨by decide +kernel, rfl⟩
theorem d_X4_gold_27 : x_dec m_X4_gold 27 (.if_icmp .le 10) 3 30 := ⟨by decide +kernel, rfl⟩
theorem d_X4_gold_30 : x_dec m_X4_gold 30 (.aload_n 0) 1 31 := ⟨by decide +kernel, rfl⟩
theorem d_X4_gold_31 : x_dec m_X4_gold 31 (.ldc 99) 2 33 := ⟨by decide +kernel, rfl⟩
theorem d_X4_gold_33 : x_dec m_X4_gold 33 (.invokevirtual 42) 3 36 := ⟨by decide +kernel, rfl⟩
theorem d_X4_gold_36 : x_dec m_X4_gold 36 (.ireturn) 1 37 := ⟨by decide +kernel, rfl⟩
theorem d_X4_gold_37 : x_dec m_X4_gold 37 (.iconst 0) 1 38 := ⟨by decide +kernel, rfl⟩
theorem d_X4_gold_38 : x_dec m_X4_gold 38 (.istore_n 2) 1 39 := ⟨by decide +kernel, rfl⟩
theorem d_X4_gold_39 : x_dec m_X4_gold 39 (.iload_n 2) 1 40 := ⟨by decide +kernel, rfl⟩
theorem d_X4_gold_40 : x_dec m_X4_gold 40 (.iload_n 1) 1 41 := ⟨by decide +kernel, rfl⟩
theorem d_X4_gold_41 : x_dec m_X4_gold 41 (.if_icmp .ge 46) 3 44 := ⟨by decide +kernel, rfl⟩
theorem d_X4_gold_44 : x_dec m_X4_gold 44 (.bipush 8) 2 46 := ⟨by decide +kernel, rfl⟩
theorem d_X4_gold_46 : x_dec m_X4_gold 46 (.aload_n 0) 1 47 := ⟨by decide +kernel, rfl⟩
theorem d_X4_gold_47 : x_dec m_X4_gold 47 (.invokevirtual 176) 3 50 := ⟨by decide +kernel, rfl⟩
theorem d_X4_gold_50 : x_dec m_X4_gold 50 (.bipush 16) 2 52 := ⟨by decide +kernel, rfl⟩
theorem d_X4_gold_52 : x_dec m_X4_gold 52 (.irem) 1 53 := ⟨by decide +kernel, rfl⟩
theorem d_X4_gold_53 : x_dec m_X4_gold 53 (.iadd) 1 54 := ⟨by decide +kernel, rfl⟩
theorem d_X4_gold_54 : x_dec m_X4_gold 54 (.istore_n 3) 1 55 := ⟨by decide +kernel, rfl⟩
theorem d_X4_gold_55 : x_dec m_X4_gold 55 (.aload_n 0) 1 56 := ⟨by decide +kernel, rfl⟩
theorem d_X4_gold_56 : x_dec m_X4_gold 56 (.getfield 9) 3 59 := ⟨by decide +kernel, rfl⟩
theorem d_X4_gold_59 : x_dec m_X4_gold 59 (.iload_n 3) 1 60 := ⟨by decide +kernel, rfl⟩
theorem d_X4_gold_60 : x_dec m_X4_gold 60 (.aload_n 0) 1 61 := ⟨by decide +kernel, rfl⟩
theorem d_X4_gold_61 : x_dec m_X4_gold 61 (.getfield 9) 3 64 := ⟨by decide +kernel, rfl⟩
theorem d_X4_gold_64 : x_dec m_X4_gold 64 (.iload_n 3) 1 65 := ⟨by decide +kernel, rfl⟩
theorem d_X4_gold_65 : x_dec m_X4_gold 65 (.iaload) 1 66 := ⟨by decide +kernel, rfl⟩
theorem d_X4_gold_66 : x_dec m_X4_gold 66 (.bipush 10) 2 68 := ⟨by decide +kernel, rfl⟩
theorem d_X4_gold_68 : x_dec m_X4_gold 68 (.isub) 1 69 := ⟨by decide +kernel, rfl⟩
theorem d_X4_gold_69 : x_dec m_X4_gold 69 (.iconst 0) 1 70 := ⟨by decide +kernel, rfl⟩
theorem d_X4_gold_70 : x_dec m_X4_gold 70 (.sipush 999) 3 73 := ⟨by decide +kernel, rfl⟩
theorem d_X4_gold_73 : x_dec m_X4_gold 73 (.invokestatic 54) 3 76 := ⟨by decide +kernel, rfl⟩
theorem d_X4_gold_76 : x_dec m_X4_gold 76 (.iastore) 1 77 := ⟨by decide +kernel, rfl⟩
theorem d_X4_gold_77 : x_dec m_X4_gold 77 (.aload_n 0) 1 78 := ⟨by decide +kernel, rfl⟩
theorem d_X4_gold_78 : x_dec m_X4_gold 78 (.invokevirtual 110) 3 81 := ⟨by decide +kernel, rfl⟩
theorem d_X4_gold_81 : x_dec m_X4_gold 81 (.iinc 2 1) 3 84 := ⟨by decide +kernel, rfl⟩
theorem d_X4_gold_84 : x_dec m_X4_gold 84 (.goto (-45)) 3 87 := ⟨by decide +kernel, rfl⟩
theorem d_X4_gold_87 : x_dec m_X4_gold 87 (.aload_n 0) 1 88 := ⟨by decide +kernel, rfl⟩
theorem d_X4_gold_88 : x_dec m_X4_gold 88 (.getfield 9) 3 91 := ⟨by decide +kernel, rfl⟩
theorem d_X4_gold_91 : x_dec m_X4_gold 91 (.iconst 1) 1 92 := ⟨by decide +kernel, rfl⟩
theorem d_X4_gold_92 : x_dec m_X4_gold 92 (.iaload) 1 93 := ⟨by decide +kernel, rfl⟩
theorem d_X4_gold_93 : x_dec m_X4_gold 93 (.ireturn) 1 94 := ⟨by decide +kernel, rfl⟩
set_option maxHeartbeats 4000000 in
set_option maxRecDepth 100000 in
theorem c_X4_gold (l : Launch) (E : x_E) (μ : x_Mem) (g : x_SG) (hS : MS g μ) (hI : Inv g) (n : Int32) : x_Met l m_X4_gold E [.ref (E.1 + 41), .int n] μ (x_I (fun z m => z = (F_gold g n).1 ∧ MS (F_gold g n).2 m ∧ ∀ id, id < 41 → m id = μ id)) := by
  obtain ⟨hR, hX, hD⟩ := hS
  have hWF := hI.1.1
  have hn7 := hWF.2.1
  have hpn := hWF.1
  have hF : ∀ id, id < 41 → μ id = μ id := fun _ _ => rfl
  refine x_enter (lv := [(0, .ref (E.1 + 41)), (1, .int n)]) (by decide +kernel) (Nat.le_of_ble_eq_true rfl) rfl ?_
  refine x_iload_n 1 d_X4_gold_0 rfl rfl ?_
  refine x_iconst (x := 1) d_X4_gold_1 (by decide) ?_
  refine x_bipush (x := 20) d_X4_gold_2 (by decide) ?_
  refine x_csip (as := [.int n, .int 1, .int 20]) (c_X4_in l E μ n 1 20) v_X4_in q728 q727 rfl ⟨Nat.le_of_ble_eq_true rfl, Nat.le_of_ble_eq_true rfl⟩ rfl (Nat.le_of_ble_eq_true rfl) d_X4_gold_4 ?_
  refine x_ifb_ne 17 d_X4_gold_7 (by decide) (fun c1 => ?_) (fun c1 => ?_)
  · skip
    obtain ⟨h, hh, rfl⟩ := (inR_nat2 (a := 1) (n := 20) (by decide) (by decide) c1)
    refine x_aload_n 0 d_X4_gold_17 rfl rfl ?_
    refine x_getr (j := 0) 42 x_c4 rfl (Nat.le_of_ble_eq_true rfl) q668 rfl d_X4_gold_18 ?_
    refine x_iconst (x := 0) d_X4_gold_21 (by decide) ?_
    refine x_ialdN (z := (gA g) 0) 58 0 rfl rfl (by omega) (by decide) (hR 0 (by omega)) d_X4_gold_22 ?_
    refine x_iload_n 1 d_X4_gold_23 rfl rfl ?_
    refine x_iadd d_X4_gold_24 ?_
    refine x_ldc q769 d_X4_gold_25 ?_
    refine x_icmp_le 37 d_X4_gold_27 (by decide) (fun c2 => ?_) (fun c2 => ?_)
    · skip
      refine x_iconst (x := 0) d_X4_gold_37 (by decide) ?_
      refine x_istore_n [(2, .int 0), (0, .ref (E.1 + 41)), (1, .int (nI h))] d_X4_gold_38 rfl (Nat.le_of_ble_eq_true rfl) rfl ?_
      have L3 : ∀ i : Nat, i ≤ h → ∀ μ6 : x_Mem, (MR (goldF (gA g) i) μ6) → (MX g μ6) → (MD (gF g) μ6) → (∀ id, id < 41 → μ6 id = μ id) → x_G l E m_X4_gold (x_mv E m_X4_gold (x_I (fun z m => z = (F_gold g (nI h)).1 ∧ MS (F_gold g (nI h)).2 m ∧ ∀ id, id < 41 → m id = μ id))) μ6 39 [(2, .int (nI i)), (0, .ref (E.1 + 41)), (1, .int (nI h))] [] := by
        refine x_down _ h (fun i hi5 ih4 => ?_)
        intro μ6 hR1 hX1 hD1 hF1
        refine x_iload_n 0 d_X4_gold_39 rfl rfl ?_
        refine x_iload_n 2 d_X4_gold_40 rfl rfl ?_
        refine x_icmp_ge 87 d_X4_gold_41 (by decide) (fun c7 => ?_) (fun c7 => ?_)
        · skip
          have hN := x_ge (N := h) c7 rfl rfl (by omega) (by omega)
          refine x_aload_n 1 d_X4_gold_87 rfl rfl ?_
          refine x_getr (j := 0) 42 x_c4 rfl (Nat.le_of_ble_eq_true rfl) q668 rfl d_X4_gold_88 ?_
          refine x_iconst (x := 1) d_X4_gold_91 (by decide) ?_
          refine x_ialdN (z := (goldF (gA g) i) 1) 58 1 rfl rfl (by omega) (by decide) (hR1 1 (by omega)) d_X4_gold_92 ?_
          refine x_iret rfl d_X4_gold_93 ?_
          have e7 : i = h := by omega
          subst e7
          have e9 : F_gold g (nI i) = (goldF (gA g) i 1, sA g (goldF (gA g) i)) := by simp [F_gold, x_b_f, x_b_t, c1, nI_clamp (n := i) (by omega), show ¬ 99999 < gA g 0 + nI i from Int32.not_lt.mpr c2]
          rw [e9]
          exact ⟨rfl, MS.line hR1 hX1 hD1, hF1⟩
        · skip
          have hN := x_lt (N := h) c7 rfl rfl (by omega) (by omega)
          refine x_bipush (x := 8) d_X4_gold_44 (by decide) ?_
          refine x_aload_n 1 d_X4_gold_46 rfl rfl ?_
          refine x_cvi (k := 41) (as := []) (c_X4_draw l E μ6 hR1) v_X4_draw w_X4_draw q997 o_M rfl ⟨Nat.le_of_ble_eq_true rfl, Nat.le_of_ble_eq_true rfl⟩ rfl (Nat.le_of_ble_eq_true rfl) d_X4_gold_47 ?_
          rintro _ μ8 ⟨rfl, hR9, hF10⟩
          have hX11 := MX.cg hX1 (μ' := μ8) (fun id hid => (hF10 _ (by omega)))
          have hD12 := MD.cg hD1 (μ' := μ8) (fun id hid => (hF10 _ (by omega)))
          have hF13 : ∀ id, id < 41 → μ8 id = μ id := fun id hid => (show μ8 id = μ6 id from (hF10 _ (by omega))).trans (hF1 id hid)
          refine x_bipush (x := 16) d_X4_gold_50 (by decide) ?_
          refine x_irem d_X4_gold_52 (by decide) ?_
          rw [rem16]
          have hdr := dr_lt (goldF (gA g) i)
          obtain ⟨n9, hn9, en9⟩ := gold_need hI.1 i _ hdr
          refine x_iadd d_X4_gold_53 ?_
          rw [show (8 : Int32) + (nI (dr (goldF (gA g) i))) = nI (8 + (dr (goldF (gA g) i))) from nI_add 8 (dr (goldF (gA g) i))]
          refine x_istore_n [(3, .int (nI (8 + (dr (goldF (gA g) i))))), (2, .int (nI i)), (0, .ref (E.1 + 41)), (1, .int (nI h))] d_X4_gold_54 rfl (Nat.le_of_ble_eq_true rfl) rfl ?_
          refine x_aload_n 2 d_X4_gold_55 rfl rfl ?_
          refine x_getr (j := 0) 42 x_c4 rfl (Nat.le_of_ble_eq_true rfl) q668 rfl d_X4_gold_56 ?_
          refine x_iload_n 0 d_X4_gold_59 rfl rfl ?_
          refine x_aload_n 2 d_X4_gold_60 rfl rfl ?_
          refine x_getr (j := 0) 42 x_c4 rfl (Nat.le_of_ble_eq_true rfl) q668 rfl d_X4_gold_61 ?_
          refine x_iload_n 0 d_X4_gold_64 rfl rfl ?_
          refine x_ialdN (z := goldF (gA g) i (8 + dr (goldF (gA g) i))) 58 (8 + (dr (goldF (gA g) i))) rfl rfl (by omega) (by decide) ((hR9 _ (by omega)).trans (upd_n _ _ (by omega))) d_X4_gold_65 ?_
          refine x_bipush (x := 10) d_X4_gold_66 (by decide) ?_
          refine x_isub d_X4_gold_68 ?_
          refine x_iconst (x := 0) d_X4_gold_69 (by decide) ?_
          refine x_sipush (x := 999) d_X4_gold_70 (by decide) ?_
          refine x_csip (as := [.int ((goldF (gA g) i (8 + dr (goldF (gA g) i))) - 10), .int 0, .int 999]) (c_X4_held l E μ8 ((goldF (gA g) i (8 + dr (goldF (gA g) i))) - 10) 0 999) v_X4_held q760 q759 rfl ⟨Nat.le_of_ble_eq_true rfl, Nat.le_of_ble_eq_true rfl⟩ rfl (Nat.le_of_ble_eq_true rfl) d_X4_gold_73 ?_
          rw [held_gold hn9 en9]
          refine x_iastNG 58 (8 + (dr (goldF (gA g) i))) rfl rfl (by omega) (by decide) d_X4_gold_76 (fun μ14 eμ14 => ?_)
          have hR15 : MR (upd (upd (goldF (gA g) i) 6 (zF (goldF (gA g) i))) ((8 + (dr (goldF (gA g) i)))) (maxI 0 (goldF (gA g) i (8 + dr (goldF (gA g) i)) - 10))) μ14 := MR.w hR9 eμ14
          have hX16 := MX.cg hX11 (μ' := μ14) (fun id hid => (by rw [eμ14, upd2_ne _ _ _ (by omega)]))
          have hD17 := MD.cg hD12 (μ' := μ14) (fun id hid => (by rw [eμ14, upd2_ne _ _ _ (by omega)]))
          have hF18 : ∀ id, id < 41 → μ14 id = μ id := fun id hid => (show μ14 id = μ8 id from (by rw [eμ14, upd2_ne _ _ _ (by omega)])).trans (hF13 id hid)
          refine x_aload_n 2 d_X4_gold_77 rfl rfl ?_
          refine x_cvv (k := 41) (as := []) (c_X4_hour l E μ14 hR15 (((WF.gold hWF i).upN (Or.inr (Or.inl rfl)) _).upN (Or.inr (Or.inr (Or.inl (by omega)))) _)) v_X4_hour w_X4_hour q823 o_M rfl ⟨Nat.le_of_ble_eq_true rfl, Nat.le_of_ble_eq_true rfl⟩ rfl (Nat.le_of_ble_eq_true rfl) d_X4_gold_78 ?_
          rintro μ19 ⟨hR20, hF21⟩
          have hX22 := MX.cg hX16 (μ' := μ19) (fun id hid => (hF21 _ (by omega)))
          have hD23 := MD.cg hD17 (μ' := μ19) (fun id hid => (hF21 _ (by omega)))
          have hF24 : ∀ id, id < 41 → μ19 id = μ id := fun id hid => (show μ19 id = μ14 id from (hF21 _ (by omega))).trans (hF18 id hid)
          refine x_iinc [(2, .int (nI (i + 1))), (3, .int (nI (8 + (dr (goldF (gA g) i))))), (0, .ref (E.1 + 41)), (1, .int (nI h))] 1 d_X4_gold_81 rfl (x_inc _) (Nat.le_of_ble_eq_true rfl) rfl ?_
          refine x_goto 39 d_X4_gold_84 (by decide) ?_
          refine x_lv [0, 2, 3] rfl ?_
          exact ih4 (i + 1) (by omega) (by omega) μ19 hR20 hX22 hD23 hF24
      exact L3 0 (by omega) μ hR hX hD hF
    · skip
      refine x_aload_n 0 d_X4_gold_30 rfl rfl ?_
      refine x_ldc q810 d_X4_gold_31 ?_
      refine x_cvi (k := 41) (as := [.int (-1000005)]) (c_X4_finds l E μ (i := 4) hD (by decide) (w := (-1000005)) (by decide)) v_X4_finds w_X4_finds q735 o_M rfl ⟨Nat.le_of_ble_eq_true rfl, Nat.le_of_ble_eq_true rfl⟩ rfl (Nat.le_of_ble_eq_true rfl) d_X4_gold_33 ?_
      rintro _ μ25 ⟨rfl, hD26, hF27⟩
      have hR28 := MR.cg hR (μ' := μ25) (fun id hid => (hF27 _ (by omega)))
      have hX29 := MX.cg hX (μ' := μ25) (fun id hid => (hF27 _ (by omega)))
      have hF30 : ∀ id, id < 41 → μ25 id = μ id := fun id hid => (show μ25 id = μ id from (hF27 _ (by omega))).trans (hF id hid)
      refine x_iret rfl d_X4_gold_36 ?_
      have e9 : F_gold g (nI h) = fin g 4 := by simp [F_gold, x_b_f, x_b_t, c1, nI_clamp (n := h) (by omega), show 99999 < gA g 0 + nI h from Int32.not_le.mp c2]
      rw [e9]
      exact ⟨rfl, MS.fin hR28 hX29 hD26, hF30⟩
  · skip
    refine x_aload_n 0 d_X4_gold_10 rfl rfl ?_
    refine x_ldc q734 d_X4_gold_11 ?_
    refine x_cvi (k := 41) (as := [.int (-1000001)]) (c_X4_finds l E μ (i := 0) hD (by decide) (w := (-1000001)) (by decide)) v_X4_finds w_X4_finds q735 o_M rfl ⟨Nat.le_of_ble_eq_true rfl, Nat.le_of_ble_eq_true rfl⟩ rfl (Nat.le_of_ble_eq_true rfl) d_X4_gold_13 ?_
    rintro _ μ31 ⟨rfl, hD32, hF33⟩
    have hR34 := MR.cg hR (μ' := μ31) (fun id hid => (hF33 _ (by omega)))
    have hX35 := MX.cg hX (μ' := μ31) (fun id hid => (hF33 _ (by omega)))
    have hF36 : ∀ id, id < 41 → μ31 id = μ id := fun id hid => (show μ31 id = μ id from (hF33 _ (by omega))).trans (hF id hid)
    refine x_iret rfl d_X4_gold_16 ?_
    have e9 : F_gold g n = fin g 0 := by simp [F_gold, x_b_f, x_b_t, c1]
    rw [e9]
    exact ⟨rfl, MS.fin hR34 hX35 hD32, hF36⟩
def m_X4_odds : x_M := (yX4_odds, prog_6_method_73_code, 10, (some FieldType.long), 7, 158)
theorem v_X4_odds : x_VM m_X4_odds 2 := ⟨q1005, q6, by decide +kernel, by decide +kernel, by decide +kernel⟩
theorem w_X4_odds : x_VI m_X4_odds := ⟨q1003, q1004⟩
theorem d_X4_odds_0 : x_dec m_X4_odds 0 (.iload_n 1) 1 1 := ⟨by decide +kernel, rfl⟩
theorem d_X4_odds_1 : x_dec m_X4_odds 1 (.iconst 0) 1 2 := ⟨by decide +kernel, rfl⟩
theorem d_X4_odds_2 : x_dec m_X4_odds 2 (.bipush 14) 2 4 := ⟨by decide +kernel, rfl⟩
theorem d_X4_odds_4 : x_dec m_X4_odds 4 (.invokestatic 46) 3 7 := ⟨by decide +kernel, rfl⟩
theorem d_X4_odds_7 : x_dec m_X4_odds 7 (.ifCond .eq 12) 3 10 := ⟨by decide +kernel, rfl⟩
theorem d_X4_odds_10 : x_dec m_X4_odds 10 (.iload_n 2) 1 11 := ⟨by decide +kernel, rfl⟩
theorem d_X4_odds_11 : x_dec m_X4_odds 11 (.iconst 0) 1 12 := ⟨by decide +kernel, rfl⟩
theorem d_X4_odds_12 : x_dec m_X4_odds 12 (.iconst 1) 1 13 := ⟨by decide +kernel, rfl⟩
theorem d_X4_odds_13 : x_dec m_X4_odds 13 (.invokestatic 46) 3 16 := ⟨by decide +kernel, rfl⟩
theorem d_X4_odds_16 : x_dec m_X4_odds 16 (.ifCond .ne 11) 3 19 := ⟨by decide +kernel, rfl⟩
theorem d_X4_odds_19 : x_dec m_X4_odds 19 (.aload_n 0) 1 20 := ⟨by decide +kernel, rfl⟩
theorem d_X4_odds_20 : x_dec m_X4_odds 20 (.ldc 40) 2 22 := ⟨by decide +kernel, rfl⟩
theorem d_X4_odds_22 : x_dec m_X4_odds 22 (.invokevirtual 42) 3 25 := ⟨by decide +kernel, rfl⟩
theorem d_X4_odds_25 : x_dec m_X4_odds 25 (.i2l) 1 26 := ⟨by decide +kernel, rfl⟩
theorem d_X4_odds_26 : x_dec m_X4_odds 26 (.lreturn) 1 27 := ⟨by decide +kernel, rfl⟩
theorem d_X4_odds_27 : x_dec m_X4_odds 27 (.aload_n 0) 1 28 := ⟨by decide +kernel, rfl⟩
theorem d_X4_odds_28 : x_dec m_X4_odds 28 (.invokevirtual 121) 3 31 := ⟨by decide +kernel, rfl⟩
theorem d_X4_odds_31 : x_dec m_X4_odds 31 (.invokestatic 152) 3 34 := ⟨by decide +kernel, rfl⟩
theorem d_X4_odds_34 : x_dec m_X4_odds 34 (.i2l) 1 35 := ⟨by decide +kernel, rfl⟩
theorem d_X4_odds_35 : x_dec m_X4_odds 35 (.lstore_n 3) 1 36 := ⟨by decide +kernel, rfl⟩
theorem d_X4_odds_36 : x_dec m_X4_odds 36 (.ldc2_w 179) 3 39 := ⟨by decide +kernel, rfl⟩
theorem d_X4_odds_39 : x_dec m_X4_odds 39 (.lstore 5) 2 41 := ⟨by decide +kernel, rfl⟩
theorem d_X4_odds_41 : x_dec m_X4_odds 41 (.lload_n 3) 1 42 := ⟨by decide +kernel, rfl⟩
theorem d_X4_odds_42 : x_dec m_X4_odds 42 (.ldc2_w 181) 3 45 := ⟨by decide +kernel, rfl⟩
theorem d_X4_odds_45 : x_dec m_X4_odds 45 (.lrem) 1 46 := ⟨by decide +kernel, rfl⟩
theorem d_X4_odds_46 : x_dec m_X4_odds 46 (.lconst 0) 1 47 := ⟨by decide +kernel, rfl⟩
theorem d_X4_odds_47 : x_dec m_X4_odds 47 (.lcmp) 1 48 := ⟨by decide +kernel, rfl⟩
theorem d_X4_odds_48 : x_dec m_X4_odds 48 (.ifCond .ne 27) 3 51 := ⟨by decide +kernel, rfl⟩
theorem d_X4_odds_51 : x_dec m_X4_odds 51 (.lload 5) 2 53 := ⟨by decide +kernel, rfl⟩
theorem d_X4_odds_53 : x_dec m_X4_odds 53 (.lconst 1) 1 54 := ⟨by decide +kernel, rfl⟩
theorem d_X4_odds_54 : x_dec m_X4_odds 54 (.lcmp) 1 55 := ⟨by decide +kernel, rfl⟩
theorem d_X4_odds_55 : x_dec m_X4_odds 55 (.ifCond .le 20) 3 58 := ⟨by decide +kernel, rfl⟩
theorem d_X4_odds_58 : x_dec m_X4_odds 58 (.lload_n 3) 1 59 := ⟨by decide +kernel, rfl⟩
theorem d_X4_odds_59 : x_dec m_X4_odds 59 (.ldc2_w 181) 3 62 := ⟨by decide +kernel, rfl⟩
theorem d_X4_odds_62 : x_dec m_X4_odds 62 (.ldiv) 1 63 := ⟨by decide +kernel, rfl⟩
theorem d_X4_odds_63 : x_dec m_X4_odds 63 (.lstore_n 3) 1 64 := ⟨by decide +kernel, rfl⟩
theorem d_X4_odds_64 : x_dec m_X4_odds 64 (.lload 5) 2 66 := ⟨by decide +kernel, rfl⟩
theorem d_X4_odds_66 : x_dec m_X4_odds 66 (.ldc2_w 181) 3 69 := ⟨by decide +kernel, rfl⟩
theorem d_X4_odds_69 : x_dec m_X4_odds 69 (.ldiv) 1 70 := ⟨by decide +kernel, rfl⟩
theorem d_X4_odds_70 : x_dec m_X4_odds 70 (.lstore 5) 2 72 := ⟨by decide +kernel, rfl⟩
theorem d_X4_odds_72 : x_dec m_X4_odds 72 (.goto (-31)) 3 75 := ⟨by decide +kernel, rfl⟩
theorem d_X4_odds_75 : x_dec m_X4_odds 75 (.lconst 1) 1 76 := ⟨by decide +kernel, rfl⟩
theorem d_X4_odds_76 : x_dec m_X4_odds 76 (.lstore 7) 2 78 := ⟨by decide +kernel, rfl⟩
theorem d_X4_odds_78 : x_dec m_X4_odds 78 (.iconst 0) 1 79 := ⟨by decide +kernel, rfl⟩
theorem d_X4_odds_79 : x_dec m_X4_odds 79 (.istore 9) 2 81 := ⟨by decide +kernel, rfl⟩
theorem d_X4_odds_81 : x_dec m_X4_odds 81 (.iload 9) 2 83 := ⟨by decide +kernel, rfl⟩
theorem d_X4_odds_83 : x_dec m_X4_odds 83 (.iload_n 1) 1 84 := ⟨by decide +kernel, rfl⟩
theorem d_X4_odds_84 : x_dec m_X4_odds 84 (.if_icmp .ge 24) 3 87 := ⟨by decide +kernel, rfl⟩
theorem d_X4_odds_87 : x_dec m_X4_odds 87 (.lload 7) 2 89 := ⟨by decide +kernel, rfl⟩
theorem d_X4_odds_89 : x_dec m_X4_odds 89 (.iload_n 2) 1 90 := ⟨by decide +kernel, rfl⟩
theorem d_X4_odds_90 : x_dec m_X4_odds 90 (.ifCond .ne 7) 3 93 := ⟨by decide +kernel, rfl⟩
theorem d_X4_odds_93 : x_dec m_X4_odds 93 (.lload_n 3) 1 94 := ⟨by decide +kernel, rfl⟩
theorem d_X4_odds_94 : x_dec m_X4_odds 94 (.goto 5) 3 97 := ⟨by decide +kernel, rfl⟩
theorem d_X4_odds_97 : x_dec m_X4_odds 97 (.lload 5) 2 99 := ⟨by decide +kernel, rfl⟩
theorem d_X4_odds_99 : x_dec m_X4_odds 99 (.lmul) 1 100 := ⟨by decide +kernel, rfl⟩
theorem d_X4_odds_100 : x_dec m_X4_odds 100 (.lstore 7) 2 102 := ⟨by decide +kernel, rfl⟩
theorem d_X4_odds_102 : x_dec m_X4_odds 102 (.iinc 9 1) 3 105 := ⟨by decide +kernel, rfl⟩
theorem d_X4_odds_105 : x_dec m_X4_odds 105 (.goto (-24)) 3 108 := ⟨by decide +kernel, rfl⟩
theorem d_X4_odds_108 : x_dec m_X4_odds 108 (.lload 7) 2 110 := ⟨by decide +kernel, rfl⟩
theorem d_X4_odds_110 : x_dec m_X4_odds 110 (.lreturn) 1 111 := ⟨by decide +kernel, rfl⟩
set_option maxHeartbeats 4000000 in
set_option maxRecDepth 100000 in
theorem c_X4_odds (l : Launch) (E : x_E) (μ : x_Mem) (g : x_SG) (hS : MS g μ) (hI : Inv g) (n w : Int32) : x_Met l m_X4_odds E [.ref (E.1 + 41), .int n, .int w] μ (x_L (fun z m => z = (F_odds g n w).1 ∧ MS (F_odds g n w).2 m ∧ ∀ id, id < 41 → m id = μ id)) := by
  obtain ⟨hR, hX, hD⟩ := hS
  have hWF := hI.1.1
  have hn7 := hWF.2.1
  have hpn := hWF.1
  have hF : ∀ id, id < 41 → μ id = μ id := fun _ _ => rfl
  have h64 := setN_64 (thereB (gA g)) (n := 16) (by decide)
  have hc16 := popN_top (setN (thereB (gA g)) 16) 16
  generalize hcc : popN 16 (setN (thereB (gA g)) 16) = c at hc16
  refine x_enter (lv := [(0, .ref (E.1 + 41)), (1, .int n), (2, .int w)]) (by decide +kernel) (Nat.le_of_ble_eq_true rfl) rfl ?_
  refine x_iload_n 1 d_X4_odds_0 rfl rfl ?_
  refine x_iconst (x := 0) d_X4_odds_1 (by decide) ?_
  refine x_bipush (x := 14) d_X4_odds_2 (by decide) ?_
  refine x_csip (as := [.int n, .int 0, .int 14]) (c_X4_in l E μ n 0 14) v_X4_in q728 q727 rfl ⟨Nat.le_of_ble_eq_true rfl, Nat.le_of_ble_eq_true rfl⟩ rfl (Nat.le_of_ble_eq_true rfl) d_X4_odds_4 ?_
  refine x_ifb_eq 19 d_X4_odds_7 (by decide) (fun c1 => ?_) (fun c1 => ?_)
  · skip
    refine x_aload_n 0 d_X4_odds_19 rfl rfl ?_
    refine x_ldc q734 d_X4_odds_20 ?_
    refine x_cvi (k := 41) (as := [.int (-1000001)]) (c_X4_finds l E μ (i := 0) hD (by decide) (w := (-1000001)) (by decide)) v_X4_finds w_X4_finds q735 o_M rfl ⟨Nat.le_of_ble_eq_true rfl, Nat.le_of_ble_eq_true rfl⟩ rfl (Nat.le_of_ble_eq_true rfl) d_X4_odds_22 ?_
    rintro _ μ2 ⟨rfl, hD3, hF4⟩
    have hR5 := MR.cg hR (μ' := μ2) (fun id hid => (hF4 _ (by omega)))
    have hX6 := MX.cg hX (μ' := μ2) (fun id hid => (hF4 _ (by omega)))
    have hF7 : ∀ id, id < 41 → μ2 id = μ id := fun id hid => (show μ2 id = μ id from (hF4 _ (by omega))).trans (hF id hid)
    refine x_i2l d_X4_odds_25 ?_
    refine x_lret rfl d_X4_odds_26 ?_
    have e9 : F_odds g n w = ((-1000001 : Int32).toInt64, fnd g 0) := by simp [F_odds, c1]
    rw [e9]
    exact ⟨rfl, MS.fin hR5 hX6 hD3, hF7⟩
  · skip
    obtain ⟨h, hh, rfl⟩ := inR_nat (n := 14) (by decide) c1
    refine x_iload_n 2 d_X4_odds_10 rfl rfl ?_
    refine x_iconst (x := 0) d_X4_odds_11 (by decide) ?_
    refine x_iconst (x := 1) d_X4_odds_12 (by decide) ?_
    refine x_csip (as := [.int w, .int 0, .int 1]) (c_X4_in l E μ w 0 1) v_X4_in q728 q727 rfl ⟨Nat.le_of_ble_eq_true rfl, Nat.le_of_ble_eq_true rfl⟩ rfl (Nat.le_of_ble_eq_true rfl) d_X4_odds_13 ?_
    refine x_ifb_ne 27 d_X4_odds_16 (by decide) (fun c8 => ?_) (fun c8 => ?_)
    · skip
      obtain ⟨ww, hww, rfl⟩ := inR_nat (n := 1) (by decide) c8
      refine x_aload_n 0 d_X4_odds_27 rfl rfl ?_
      refine x_cvip (k := 41) (as := []) (c_X4_allThere l E μ hR hWF) v_X4_allThere w_X4_allThere q847 o_M rfl ⟨Nat.le_of_ble_eq_true rfl, Nat.le_of_ble_eq_true rfl⟩ rfl (Nat.le_of_ble_eq_true rfl) d_X4_odds_28 ?_
      rw [thereN]
      refine x_csip (as := [.int (nI (setN (thereB (gA g)) 16))]) (c_X4_bits l E μ (s := (setN (thereB (gA g)) 16)) (by omega)) v_X4_bits q923 q922 rfl ⟨Nat.le_of_ble_eq_true rfl, Nat.le_of_ble_eq_true rfl⟩ rfl (Nat.le_of_ble_eq_true rfl) d_X4_odds_31 ?_
      rw [hcc]
      refine x_i2l d_X4_odds_34 ?_
      rw [odds_d1 c (by omega)]
      refine x_lstore_n [(3, .long (nL (c / 2 ^ 0))), (0, .ref (E.1 + 41)), (1, .int (nI h)), (2, .int (nI ww))] d_X4_odds_35 rfl (Nat.le_of_ble_eq_true rfl) rfl ?_
      refine x_ldc2 q1006 d_X4_odds_36 ?_
      refine x_lstore [(5, .long 16), (3, .long (nL (c / 2 ^ 0))), (0, .ref (E.1 + 41)), (1, .int (nI h)), (2, .int (nI ww))] d_X4_odds_39 (Nat.le_of_ble_eq_true rfl) rfl ?_
      have L9 : ∀ j : Nat, j ≤ 4 → (∀ i, i < j → c / 2 ^ i % 2 = 0) → x_G l E m_X4_odds (x_mv E m_X4_odds (x_L (fun z m => z = (F_odds g (nI h) (nI ww)).1 ∧ MS (F_odds g (nI h) (nI ww)).2 m ∧ ∀ id, id < 41 → m id = μ id))) μ 41 [(5, .long (nL (16 / 2 ^ j))), (3, .long (nL (c / 2 ^ j))), (0, .ref (E.1 + 41)), (1, .int (nI h)), (2, .int (nI ww))] [] := by
        refine x_down _ 4 (fun j hi11 ih10 => ?_)
        intro hq
        refine x_lload_n 1 d_X4_odds_41 rfl rfl ?_
        refine x_ldc2 q1007 d_X4_odds_42 ?_
        refine x_lrem d_X4_odds_45 (by decide) ?_
        refine x_lconst (x := 0) d_X4_odds_46 (by decide) ?_
        refine x_lcmp d_X4_odds_47 ?_
        refine x_if_ne 75 d_X4_odds_48 (by decide) (fun c12 => ?_) (fun c12 => ?_)
        · skip
          have hod : ¬ c / 2 ^ j % 2 = 0 := fun z => c12 ((odds_r3 c (by omega) j (by omega)).mpr z)
          refine x_lconst (x := 1) d_X4_odds_75 (by decide) ?_
          refine x_lstore [(7, .long 1), (5, .long (nL (16 / 2 ^ j))), (3, .long (nL (c / 2 ^ j))), (0, .ref (E.1 + 41)), (1, .int (nI h)), (2, .int (nI ww))] d_X4_odds_76 (Nat.le_of_ble_eq_true rfl) rfl ?_
          by_cases hw0 : nI ww = 0
          · skip
            refine x_iconst (x := 0) d_X4_odds_78 (by decide) ?_
            refine x_istore [(9, .int 0), (7, .long 1), (5, .long (nL (16 / 2 ^ j))), (3, .long (nL (c / 2 ^ j))), (0, .ref (E.1 + 41)), (1, .int (nI h)), (2, .int (nI ww))] d_X4_odds_79 (Nat.le_of_ble_eq_true rfl) rfl ?_
            have L13 : ∀ k : Nat, k ≤ h → x_G l E m_X4_odds (x_mv E m_X4_odds (x_L (fun z m => z = (F_odds g (nI h) (nI ww)).1 ∧ MS (F_odds g (nI h) (nI ww)).2 m ∧ ∀ id, id < 41 → m id = μ id))) μ 81 [(9, .int (nI k)), (7, .long (powL (nL (c / 2 ^ j)) k)), (5, .long (nL (16 / 2 ^ j))), (3, .long (nL (c / 2 ^ j))), (0, .ref (E.1 + 41)), (1, .int (nI h)), (2, .int (nI ww))] [] := by
              refine x_down _ h (fun k hi15 ih14 => ?_)
              refine x_iload 0 d_X4_odds_81 rfl ?_
              refine x_iload_n 5 d_X4_odds_83 rfl rfl ?_
              refine x_icmp_ge 108 d_X4_odds_84 (by decide) (fun c16 => ?_) (fun c16 => ?_)
              · skip
                have hN := x_ge (N := h) c16 rfl rfl (by omega) (by omega)
                refine x_lload 1 d_X4_odds_108 rfl ?_
                refine x_lret rfl d_X4_odds_110 ?_
                have e7 : k = h := by omega
                subst e7
                obtain ⟨e1, e2⟩ := odds_end c (by omega) j (by omega) hq (Or.inr hod)
                have e9 : F_odds g (nI k) (nI ww) = (powL (nL (c / 2 ^ j)) k, g) := by simp [F_odds, oddsC, hcc, show inR 0 0 1 = true from by decide, c1, c8, hw0, nI_clamp (n := k) (by omega), e1, e2]
                rw [e9]
                exact ⟨rfl, ⟨hR, hX, hD⟩, hF⟩
              · skip
                have hN := x_lt (N := h) c16 rfl rfl (by omega) (by omega)
                refine x_lload 1 d_X4_odds_87 rfl ?_
                refine x_iload_n 6 d_X4_odds_89 rfl rfl ?_
                refine x_if_ne 97 d_X4_odds_90 (by decide) (fun c17 => ?_) (fun c17 => ?_)
                · skip
                  exact absurd hw0 c17
                · skip
                  refine x_lload_n 3 d_X4_odds_93 rfl rfl ?_
                  refine x_goto 99 d_X4_odds_94 (by decide) ?_
                  refine x_lmul d_X4_odds_99 ?_
                  refine x_lstore [(7, .long ((powL (nL (c / 2 ^ j)) k) * (nL (c / 2 ^ j)))), (9, .int (nI k)), (5, .long (nL (16 / 2 ^ j))), (3, .long (nL (c / 2 ^ j))), (0, .ref (E.1 + 41)), (1, .int (nI h)), (2, .int (nI ww))] d_X4_odds_100 (Nat.le_of_ble_eq_true rfl) rfl ?_
                  refine x_iinc [(9, .int (nI (k + 1))), (7, .long ((powL (nL (c / 2 ^ j)) k) * (nL (c / 2 ^ j)))), (5, .long (nL (16 / 2 ^ j))), (3, .long (nL (c / 2 ^ j))), (0, .ref (E.1 + 41)), (1, .int (nI h)), (2, .int (nI ww))] 1 d_X4_odds_102 rfl (x_inc _) (Nat.le_of_ble_eq_true rfl) rfl ?_
                  refine x_goto 81 d_X4_odds_105 (by decide) ?_
                  exact ih14 (k + 1) (by omega) (by omega)
            exact L13 0 (by omega)
          · skip
            refine x_iconst (x := 0) d_X4_odds_78 (by decide) ?_
            refine x_istore [(9, .int 0), (7, .long 1), (5, .long (nL (16 / 2 ^ j))), (3, .long (nL (c / 2 ^ j))), (0, .ref (E.1 + 41)), (1, .int (nI h)), (2, .int (nI ww))] d_X4_odds_79 (Nat.le_of_ble_eq_true rfl) rfl ?_
            have L18 : ∀ k : Nat, k ≤ h → x_G l E m_X4_odds (x_mv E m_X4_odds (x_L (fun z m => z = (F_odds g (nI h) (nI ww)).1 ∧ MS (F_odds g (nI h) (nI ww)).2 m ∧ ∀ id, id < 41 → m id = μ id))) μ 81 [(9, .int (nI k)), (7, .long (powL (nL (16 / 2 ^ j)) k)), (5, .long (nL (16 / 2 ^ j))), (3, .long (nL (c / 2 ^ j))), (0, .ref (E.1 + 41)), (1, .int (nI h)), (2, .int (nI ww))] [] := by
              refine x_down _ h (fun k hi20 ih19 => ?_)
              refine x_iload 0 d_X4_odds_81 rfl ?_
              refine x_iload_n 5 d_X4_odds_83 rfl rfl ?_
              refine x_icmp_ge 108 d_X4_odds_84 (by decide) (fun c21 => ?_) (fun c21 => ?_)
              · skip
                have hN := x_ge (N := h) c21 rfl rfl (by omega) (by omega)
                refine x_lload 1 d_X4_odds_108 rfl ?_
                refine x_lret rfl d_X4_odds_110 ?_
                have e7 : k = h := by omega
                subst e7
                obtain ⟨e1, e2⟩ := odds_end c (by omega) j (by omega) hq (Or.inr hod)
                have e9 : F_odds g (nI k) (nI ww) = (powL (nL (16 / 2 ^ j)) k, g) := by simp [F_odds, oddsC, hcc, show inR 0 0 1 = true from by decide, c1, c8, hw0, nI_clamp (n := k) (by omega), e1, e2]
                rw [e9]
                exact ⟨rfl, ⟨hR, hX, hD⟩, hF⟩
              · skip
                have hN := x_lt (N := h) c21 rfl rfl (by omega) (by omega)
                refine x_lload 1 d_X4_odds_87 rfl ?_
                refine x_iload_n 6 d_X4_odds_89 rfl rfl ?_
                refine x_if_ne 97 d_X4_odds_90 (by decide) (fun c22 => ?_) (fun c22 => ?_)
                · skip
                  refine x_lload 2 d_X4_odds_97 rfl ?_
                  refine x_lmul d_X4_odds_99 ?_
                  refine x_lstore [(7, .long ((powL (nL (16 / 2 ^ j)) k) * (nL (16 / 2 ^ j)))), (9, .int (nI k)), (5, .long (nL (16 / 2 ^ j))), (3, .long (nL (c / 2 ^ j))), (0, .ref (E.1 + 41)), (1, .int (nI h)), (2, .int (nI ww))] d_X4_odds_100 (Nat.le_of_ble_eq_true rfl) rfl ?_
                  refine x_iinc [(9, .int (nI (k + 1))), (7, .long ((powL (nL (16 / 2 ^ j)) k) * (nL (16 / 2 ^ j)))), (5, .long (nL (16 / 2 ^ j))), (3, .long (nL (c / 2 ^ j))), (0, .ref (E.1 + 41)), (1, .int (nI h)), (2, .int (nI ww))] 1 d_X4_odds_102 rfl (x_inc _) (Nat.le_of_ble_eq_true rfl) rfl ?_
                  refine x_goto 81 d_X4_odds_105 (by decide) ?_
                  exact ih19 (k + 1) (by omega) (by omega)
                · skip
                  exact absurd c22 hw0
            exact L18 0 (by omega)
        · skip
          have hev := (odds_r3 c (by omega) j (by omega)).mp c12
          refine x_lload 0 d_X4_odds_51 rfl ?_
          refine x_lconst (x := 1) d_X4_odds_53 (by decide) ?_
          refine x_lcmp d_X4_odds_54 ?_
          refine x_if_le 75 d_X4_odds_55 (by decide) (fun c23 => ?_) (fun c23 => ?_)
          · skip
            have hj4 := (odds_d2 j (by omega)).mp c23
            refine x_lconst (x := 1) d_X4_odds_75 (by decide) ?_
            refine x_lstore [(7, .long 1), (5, .long (nL (16 / 2 ^ j))), (3, .long (nL (c / 2 ^ j))), (0, .ref (E.1 + 41)), (1, .int (nI h)), (2, .int (nI ww))] d_X4_odds_76 (Nat.le_of_ble_eq_true rfl) rfl ?_
            by_cases hw0 : nI ww = 0
            · skip
              refine x_iconst (x := 0) d_X4_odds_78 (by decide) ?_
              refine x_istore [(9, .int 0), (7, .long 1), (5, .long (nL (16 / 2 ^ j))), (3, .long (nL (c / 2 ^ j))), (0, .ref (E.1 + 41)), (1, .int (nI h)), (2, .int (nI ww))] d_X4_odds_79 (Nat.le_of_ble_eq_true rfl) rfl ?_
              have L24 : ∀ k : Nat, k ≤ h → x_G l E m_X4_odds (x_mv E m_X4_odds (x_L (fun z m => z = (F_odds g (nI h) (nI ww)).1 ∧ MS (F_odds g (nI h) (nI ww)).2 m ∧ ∀ id, id < 41 → m id = μ id))) μ 81 [(9, .int (nI k)), (7, .long (powL (nL (c / 2 ^ j)) k)), (5, .long (nL (16 / 2 ^ j))), (3, .long (nL (c / 2 ^ j))), (0, .ref (E.1 + 41)), (1, .int (nI h)), (2, .int (nI ww))] [] := by
                refine x_down _ h (fun k hi26 ih25 => ?_)
                refine x_iload 0 d_X4_odds_81 rfl ?_
                refine x_iload_n 5 d_X4_odds_83 rfl rfl ?_
                refine x_icmp_ge 108 d_X4_odds_84 (by decide) (fun c27 => ?_) (fun c27 => ?_)
                · skip
                  have hN := x_ge (N := h) c27 rfl rfl (by omega) (by omega)
                  refine x_lload 1 d_X4_odds_108 rfl ?_
                  refine x_lret rfl d_X4_odds_110 ?_
                  have e7 : k = h := by omega
                  subst e7
                  obtain ⟨e1, e2⟩ := odds_end c (by omega) j (by omega) hq (Or.inl hj4)
                  have e9 : F_odds g (nI k) (nI ww) = (powL (nL (c / 2 ^ j)) k, g) := by simp [F_odds, oddsC, hcc, show inR 0 0 1 = true from by decide, c1, c8, hw0, nI_clamp (n := k) (by omega), e1, e2]
                  rw [e9]
                  exact ⟨rfl, ⟨hR, hX, hD⟩, hF⟩
                · skip
                  have hN := x_lt (N := h) c27 rfl rfl (by omega) (by omega)
                  refine x_lload 1 d_X4_odds_87 rfl ?_
                  refine x_iload_n 6 d_X4_odds_89 rfl rfl ?_
                  refine x_if_ne 97 d_X4_odds_90 (by decide) (fun c28 => ?_) (fun c28 => ?_)
                  · skip
                    exact absurd hw0 c28
                  · skip
                    refine x_lload_n 3 d_X4_odds_93 rfl rfl ?_
                    refine x_goto 99 d_X4_odds_94 (by decide) ?_
                    refine x_lmul d_X4_odds_99 ?_
                    refine x_lstore [(7, .long ((powL (nL (c / 2 ^ j)) k) * (nL (c / 2 ^ j)))), (9, .int (nI k)), (5, .long (nL (16 / 2 ^ j))), (3, .long (nL (c / 2 ^ j))), (0, .ref (E.1 + 41)), (1, .int (nI h)), (2, .int (nI ww))] d_X4_odds_100 (Nat.le_of_ble_eq_true rfl) rfl ?_
                    refine x_iinc [(9, .int (nI (k + 1))), (7, .long ((powL (nL (c / 2 ^ j)) k) * (nL (c / 2 ^ j)))), (5, .long (nL (16 / 2 ^ j))), (3, .long (nL (c / 2 ^ j))), (0, .ref (E.1 + 41)), (1, .int (nI h)), (2, .int (nI ww))] 1 d_X4_odds_102 rfl (x_inc _) (Nat.le_of_ble_eq_true rfl) rfl ?_
                    refine x_goto 81 d_X4_odds_105 (by decide) ?_
                    exact ih25 (k + 1) (by omega) (by omega)
              exact L24 0 (by omega)
            · skip
              refine x_iconst (x := 0) d_X4_odds_78 (by decide) ?_
              refine x_istore [(9, .int 0), (7, .long 1), (5, .long (nL (16 / 2 ^ j))), (3, .long (nL (c / 2 ^ j))), (0, .ref (E.1 + 41)), (1, .int (nI h)), (2, .int (nI ww))] d_X4_odds_79 (Nat.le_of_ble_eq_true rfl) rfl ?_
              have L29 : ∀ k : Nat, k ≤ h → x_G l E m_X4_odds (x_mv E m_X4_odds (x_L (fun z m => z = (F_odds g (nI h) (nI ww)).1 ∧ MS (F_odds g (nI h) (nI ww)).2 m ∧ ∀ id, id < 41 → m id = μ id))) μ 81 [(9, .int (nI k)), (7, .long (powL (nL (16 / 2 ^ j)) k)), (5, .long (nL (16 / 2 ^ j))), (3, .long (nL (c / 2 ^ j))), (0, .ref (E.1 + 41)), (1, .int (nI h)), (2, .int (nI ww))] [] := by
                refine x_down _ h (fun k hi31 ih30 => ?_)
                refine x_iload 0 d_X4_odds_81 rfl ?_
                refine x_iload_n 5 d_X4_odds_83 rfl rfl ?_
                refine x_icmp_ge 108 d_X4_odds_84 (by decide) (fun c32 => ?_) (fun c32 => ?_)
                · skip
                  have hN := x_ge (N := h) c32 rfl rfl (by omega) (by omega)
                  refine x_lload 1 d_X4_odds_108 rfl ?_
                  refine x_lret rfl d_X4_odds_110 ?_
                  have e7 : k = h := by omega
                  subst e7
                  obtain ⟨e1, e2⟩ := odds_end c (by omega) j (by omega) hq (Or.inl hj4)
                  have e9 : F_odds g (nI k) (nI ww) = (powL (nL (16 / 2 ^ j)) k, g) := by simp [F_odds, oddsC, hcc, show inR 0 0 1 = true from by decide, c1, c8, hw0, nI_clamp (n := k) (by omega), e1, e2]
                  rw [e9]
                  exact ⟨rfl, ⟨hR, hX, hD⟩, hF⟩
                · skip
                  have hN := x_lt (N := h) c32 rfl rfl (by omega) (by omega)
                  refine x_lload 1 d_X4_odds_87 rfl ?_
                  refine x_iload_n 6 d_X4_odds_89 rfl rfl ?_
                  refine x_if_ne 97 d_X4_odds_90 (by decide) (fun c33 => ?_) (fun c33 => ?_)
                  · skip
                    refine x_lload 2 d_X4_odds_97 rfl ?_
                    refine x_lmul d_X4_odds_99 ?_
                    refine x_lstore [(7, .long ((powL (nL (16 / 2 ^ j)) k) * (nL (16 / 2 ^ j)))), (9, .int (nI k)), (5, .long (nL (16 / 2 ^ j))), (3, .long (nL (c / 2 ^ j))), (0, .ref (E.1 + 41)), (1, .int (nI h)), (2, .int (nI ww))] d_X4_odds_100 (Nat.le_of_ble_eq_true rfl) rfl ?_
                    refine x_iinc [(9, .int (nI (k + 1))), (7, .long ((powL (nL (16 / 2 ^ j)) k) * (nL (16 / 2 ^ j)))), (5, .long (nL (16 / 2 ^ j))), (3, .long (nL (c / 2 ^ j))), (0, .ref (E.1 + 41)), (1, .int (nI h)), (2, .int (nI ww))] 1 d_X4_odds_102 rfl (x_inc _) (Nat.le_of_ble_eq_true rfl) rfl ?_
                    refine x_goto 81 d_X4_odds_105 (by decide) ?_
                    exact ih30 (k + 1) (by omega) (by omega)
                  · skip
                    exact absurd c33 hw0
              exact L29 0 (by omega)
          · skip
            have hj4 : ¬ j = 4 := fun z => c23 ((odds_d2 j (by omega)).mpr z)
            refine x_lload_n 1 d_X4_odds_58 rfl rfl ?_
            refine x_ldc2 q1007 d_X4_odds_59 ?_
            refine x_ldiv d_X4_odds_62 (by decide) ?_
            rw [odds_d4 c (by omega) j (by omega)]
            refine x_lstore_n [(3, .long (nL (c / 2 ^ (j + 1)))), (5, .long (nL (16 / 2 ^ j))), (0, .ref (E.1 + 41)), (1, .int (nI h)), (2, .int (nI ww))] d_X4_odds_63 rfl (Nat.le_of_ble_eq_true rfl) rfl ?_
            refine x_lload 1 d_X4_odds_64 rfl ?_
            refine x_ldc2 q1007 d_X4_odds_66 ?_
            refine x_ldiv d_X4_odds_69 (by decide) ?_
            rw [odds_d5 j (by omega)]
            refine x_lstore [(5, .long (nL (16 / 2 ^ (j + 1)))), (3, .long (nL (c / 2 ^ (j + 1)))), (0, .ref (E.1 + 41)), (1, .int (nI h)), (2, .int (nI ww))] d_X4_odds_70 (Nat.le_of_ble_eq_true rfl) rfl ?_
            refine x_goto 41 d_X4_odds_72 (by decide) ?_
            exact ih10 (j + 1) (by omega) (by omega) (lt_p hq hev)
      exact L9 0 (by omega) (fun _ hj => absurd hj (Nat.not_lt_zero _))
    · skip
      refine x_aload_n 0 d_X4_odds_19 rfl rfl ?_
      refine x_ldc q734 d_X4_odds_20 ?_
      refine x_cvi (k := 41) (as := [.int (-1000001)]) (c_X4_finds l E μ (i := 0) hD (by decide) (w := (-1000001)) (by decide)) v_X4_finds w_X4_finds q735 o_M rfl ⟨Nat.le_of_ble_eq_true rfl, Nat.le_of_ble_eq_true rfl⟩ rfl (Nat.le_of_ble_eq_true rfl) d_X4_odds_22 ?_
      rintro _ μ34 ⟨rfl, hD35, hF36⟩
      have hR37 := MR.cg hR (μ' := μ34) (fun id hid => (hF36 _ (by omega)))
      have hX38 := MX.cg hX (μ' := μ34) (fun id hid => (hF36 _ (by omega)))
      have hF39 : ∀ id, id < 41 → μ34 id = μ id := fun id hid => (show μ34 id = μ id from (hF36 _ (by omega))).trans (hF id hid)
      refine x_i2l d_X4_odds_25 ?_
      refine x_lret rfl d_X4_odds_26 ?_
      have e9 : F_odds g (nI h) w = ((-1000001 : Int32).toInt64, fnd g 0) := by simp [F_odds, c1, c8]
      rw [e9]
      exact ⟨rfl, MS.fin hR37 hX38 hD35, hF39⟩
def m_X4_isRun : x_M := (yX4_isRun, prog_6_method_69_code, 6, (some FieldType.boolean), 5, 115)
theorem v_X4_isRun : x_VM m_X4_isRun 1 := ⟨q992, q6, by decide +kernel, by decide +kernel, by decide +kernel⟩
theorem w_X4_isRun : x_VI m_X4_isRun := ⟨q991, qs49⟩
theorem d_X4_isRun_0 : x_dec m_X4_isRun 0 (.iconst 0) 1 1 := ⟨by decide +kernel, rfl⟩
theorem d_X4_isRun_1 : x_dec m_X4_isRun 1 (.istore_n 2) 1 2 := ⟨by decide +kernel, rfl⟩
theorem d_X4_isRun_2 : x_dec m_X4_isRun 2 (.iload_n 2) 1 3 := ⟨by decide +kernel, rfl⟩
theorem d_X4_isRun_3 : x_dec m_X4_isRun 3 (.bipush 16) 2 5 := ⟨by decide +kernel, rfl⟩
theorem d_X4_isRun_5 : x_dec m_X4_isRun 5 (.if_icmp .ge 112) 3 8 := ⟨by decide +kernel, rfl⟩
theorem d_X4_isRun_8 : x_dec m_X4_isRun 8 (.aload_n 0) 1 9 := ⟨by decide +kernel, rfl⟩
theorem d_X4_isRun_9 : x_dec m_X4_isRun 9 (.iload_n 2) 1 10 := ⟨by decide +kernel, rfl⟩
theorem d_X4_isRun_10 : x_dec m_X4_isRun 10 (.invokevirtual 71) 3 13 := ⟨by decide +kernel, rfl⟩
theorem d_X4_isRun_13 : x_dec m_X4_isRun 13 (.istore_n 3) 1 14 := ⟨by decide +kernel, rfl⟩
theorem d_X4_isRun_14 : x_dec m_X4_isRun 14 (.aload_n 0) 1 15 := ⟨by decide +kernel, rfl⟩
theorem d_X4_isRun_15 : x_dec m_X4_isRun 15 (.getfield 9) 3 18 := ⟨by decide +kernel, rfl⟩
theorem d_X4_isRun_18 : x_dec m_X4_isRun 18 (.bipush 8) 2 20 := ⟨by decide +kernel, rfl⟩
theorem d_X4_isRun_20 : x_dec m_X4_isRun 20 (.iload_n 2) 1 21 := ⟨by decide +kernel, rfl⟩
theorem d_X4_isRun_21 : x_dec m_X4_isRun 21 (.iadd) 1 22 := ⟨by decide +kernel, rfl⟩
theorem d_X4_isRun_22 : x_dec m_X4_isRun 22 (.iaload) 1 23 := ⟨by decide +kernel, rfl⟩
theorem d_X4_isRun_23 : x_dec m_X4_isRun 23 (.ifCond .le 20) 3 26 := ⟨by decide +kernel, rfl⟩
theorem d_X4_isRun_26 : x_dec m_X4_isRun 26 (.iload_n 3) 1 27 := ⟨by decide +kernel, rfl⟩
theorem d_X4_isRun_27 : x_dec m_X4_isRun 27 (.aload_n 0) 1 28 := ⟨by decide +kernel, rfl⟩
theorem d_X4_isRun_28 : x_dec m_X4_isRun 28 (.getfield 9) 3 31 := ⟨by decide +kernel, rfl⟩
theorem d_X4_isRun_31 : x_dec m_X4_isRun 31 (.bipush 8) 2 33 := ⟨by decide +kernel, rfl⟩
theorem d_X4_isRun_33 : x_dec m_X4_isRun 33 (.iload_n 2) 1 34 := ⟨by decide +kernel, rfl⟩
theorem d_X4_isRun_34 : x_dec m_X4_isRun 34 (.iadd) 1 35 := ⟨by decide +kernel, rfl⟩
theorem d_X4_isRun_35 : x_dec m_X4_isRun 35 (.iaload) 1 36 := ⟨by decide +kernel, rfl⟩
theorem d_X4_isRun_36 : x_dec m_X4_isRun 36 (.if_icmp .lt 7) 3 39 := ⟨by decide +kernel, rfl⟩
theorem d_X4_isRun_39 : x_dec m_X4_isRun 39 (.iconst 1) 1 40 := ⟨by decide +kernel, rfl⟩
theorem d_X4_isRun_40 : x_dec m_X4_isRun 40 (.goto 4) 3 43 := ⟨by decide +kernel, rfl⟩
theorem d_X4_isRun_43 : x_dec m_X4_isRun 43 (.iconst 0) 1 44 := ⟨by decide +kernel, rfl⟩
theorem d_X4_isRun_44 : x_dec m_X4_isRun 44 (.istore 4) 2 46 := ⟨by decide +kernel, rfl⟩
theorem d_X4_isRun_46 : x_dec m_X4_isRun 46 (.iconst 0) 1 47 := ⟨by decide +kernel, rfl⟩
theorem d_X4_isRun_47 : x_dec m_X4_isRun 47 (.istore 5) 2 49 := ⟨by decide +kernel, rfl⟩
theorem d_X4_isRun_49 : x_dec m_X4_isRun 49 (.iload 5) 2 51 := ⟨by decide +kernel, rfl⟩
theorem d_X4_isRun_51 : x_dec m_X4_isRun 51 (.aload_n 0) 1 52 := ⟨by decide +kernel, rfl⟩
theorem d_X4_isRun_52 : x_dec m_X4_isRun 52 (.getfield 9) 3 55 := ⟨by decide +kernel, rfl⟩
theorem d_X4_isRun_55 : x_dec m_X4_isRun 55 (.bipush 7) 2 57 := ⟨by decide +kernel, rfl⟩
theorem d_X4_isRun_57 : x_dec m_X4_isRun 57 (.iaload) 1 58 := ⟨by decide +kernel, rfl⟩
theorem d_X4_isRun_58 : x_dec m_X4_isRun 58 (.if_icmp .ge 33) 3 61 := ⟨by decide +kernel, rfl⟩
theorem d_X4_isRun_61 : x_dec m_X4_isRun 61 (.iload_n 3) 1 62 := ⟨by decide +kernel, rfl⟩
theorem d_X4_isRun_62 : x_dec m_X4_isRun 62 (.iload_n 1) 1 63 := ⟨by decide +kernel, rfl⟩
theorem d_X4_isRun_63 : x_dec m_X4_isRun 63 (.iload 5) 2 65 := ⟨by decide +kernel, rfl⟩
theorem d_X4_isRun_65 : x_dec m_X4_isRun 65 (.ishr) 1 66 := ⟨by decide +kernel, rfl⟩
theorem d_X4_isRun_66 : x_dec m_X4_isRun 66 (.iconst 1) 1 67 := ⟨by decide +kernel, rfl⟩
theorem d_X4_isRun_67 : x_dec m_X4_isRun 67 (.iand) 1 68 := ⟨by decide +kernel, rfl⟩
theorem d_X4_isRun_68 : x_dec m_X4_isRun 68 (.iconst 1) 1 69 := ⟨by decide +kernel, rfl⟩
theorem d_X4_isRun_69 : x_dec m_X4_isRun 69 (.if_icmp .ne 13) 3 72 := ⟨by decide +kernel, rfl⟩
theorem d_X4_isRun_72 : x_dec m_X4_isRun 72 (.aload_n 0) 1 73 := ⟨by decide +kernel, rfl⟩
theorem d_X4_isRun_73 : x_dec m_X4_isRun 73 (.iload 5) 2 75 := ⟨by decide +kernel, rfl⟩
theorem d_X4_isRun_75 : x_dec m_X4_isRun 75 (.iload_n 2) 1 76 := ⟨by decide +kernel, rfl⟩
theorem d_X4_isRun_76 : x_dec m_X4_isRun 76 (.invokevirtual 68) 3 79 := ⟨by decide +kernel, rfl⟩
theorem d_X4_isRun_79 : x_dec m_X4_isRun 79 (.goto 4) 3 82 := ⟨by decide +kernel, rfl⟩
theorem d_X4_isRun_82 : x_dec m_X4_isRun 82 (.iconst 0) 1 83 := ⟨by decide +kernel, rfl⟩
theorem d_X4_isRun_83 : x_dec m_X4_isRun 83 (.isub) 1 84 := ⟨by decide +kernel, rfl⟩
theorem d_X4_isRun_84 : x_dec m_X4_isRun 84 (.istore_n 3) 1 85 := ⟨by decide +kernel, rfl⟩
theorem d_X4_isRun_85 : x_dec m_X4_isRun 85 (.iinc 5 1) 3 88 := ⟨by decide +kernel, rfl⟩
theorem d_X4_isRun_88 : x_dec m_X4_isRun 88 (.goto (-39)) 3 91 := ⟨by decide +kernel, rfl⟩
theorem d_X4_isRun_91 : x_dec m_X4_isRun 91 (.iload 4) 2 93 := ⟨by decide +kernel, rfl⟩
theorem d_X4_isRun_93 : x_dec m_X4_isRun 93 (.ifCond .eq 18) 3 96 := ⟨by decide +kernel, rfl⟩
theorem d_X4_isRun_96 : x_dec m_X4_isRun 96 (.iload_n 3) 1 97 := ⟨by decide +kernel, rfl⟩
theorem d_X4_isRun_97 : x_dec m_X4_isRun 97 (.aload_n 0) 1 98 := ⟨by decide +kernel, rfl⟩
theorem d_X4_isRun_98 : x_dec m_X4_isRun 98 (.getfield 9) 3 101 := ⟨by decide +kernel, rfl⟩
theorem d_X4_isRun_101 : x_dec m_X4_isRun 101 (.bipush 8) 2 103 := ⟨by decide +kernel, rfl⟩
theorem d_X4_isRun_103 : x_dec m_X4_isRun 103 (.iload_n 2) 1 104 := ⟨by decide +kernel, rfl⟩
theorem d_X4_isRun_104 : x_dec m_X4_isRun 104 (.iadd) 1 105 := ⟨by decide +kernel, rfl⟩
theorem d_X4_isRun_105 : x_dec m_X4_isRun 105 (.iaload) 1 106 := ⟨by decide +kernel, rfl⟩
theorem d_X4_isRun_106 : x_dec m_X4_isRun 106 (.if_icmp .lt 5) 3 109 := ⟨by decide +kernel, rfl⟩
theorem d_X4_isRun_109 : x_dec m_X4_isRun 109 (.iconst 0) 1 110 := ⟨by decide +kernel, rfl⟩
theorem d_X4_isRun_110 : x_dec m_X4_isRun 110 (.ireturn) 1 111 := ⟨by decide +kernel, rfl⟩
theorem d_X4_isRun_111 : x_dec m_X4_isRun 111 (.iinc 2 1) 3 114 := ⟨by decide +kernel, rfl⟩
theorem d_X4_isRun_114 : x_dec m_X4_isRun 114 (.goto (-112)) 3 117 := ⟨by decide +kernel, rfl⟩
theorem d_X4_isRun_117 : x_dec m_X4_isRun 117 (.iconst 1) 1 118 := ⟨by decide +kernel, rfl⟩
theorem d_X4_isRun_118 : x_dec m_X4_isRun 118 (.ireturn) 1 119 := ⟨by decide +kernel, rfl⟩
set_option maxHeartbeats 4000000 in
set_option maxRecDepth 100000 in
theorem c_X4_isRun (l : Launch) (E : x_E) (μ : x_Mem) {a : x_St} (hR : MR a μ) (hI : WF a) {j : Nat} (hj : j < 256) : x_Met l m_X4_isRun E [.ref (E.1 + 41), .int (nI j)] μ (x_I (fun z m => z = x_b (endsB a j) ∧ m = μ)) := by
  have hn7 := hI.2.1
  have hpn := hI.1
  refine x_enter (lv := [(0, .ref (E.1 + 41)), (1, .int (nI j))]) (by decide +kernel) (Nat.le_of_ble_eq_true rfl) rfl ?_
  refine x_iconst (x := 0) d_X4_isRun_0 (by decide) ?_
  refine x_istore_n [(2, .int 0), (0, .ref (E.1 + 41)), (1, .int (nI j))] d_X4_isRun_1 rfl (Nat.le_of_ble_eq_true rfl) rfl ?_
  have L1 : ∀ k : Nat, k ≤ 16 → (∀ k1, k1 < k → runE a j k1 = false) → x_G l E m_X4_isRun (x_mv E m_X4_isRun (x_I (fun z m => z = x_b (endsB a j) ∧ m = μ))) μ 2 [(2, .int (nI k)), (0, .ref (E.1 + 41)), (1, .int (nI j))] [] := by
    refine x_down _ 16 (fun k hi3 ih2 => ?_)
    intro hq
    refine x_iload_n 0 d_X4_isRun_2 rfl rfl ?_
    refine x_bipush (x := 16) d_X4_isRun_3 (by decide) ?_
    refine x_icmp_ge 117 d_X4_isRun_5 (by decide) (fun c4 => ?_) (fun c4 => ?_)
    · skip
      have hN := x_ge (N := 16) c4 rfl rfl (by omega) (by omega)
      refine x_iconst (x := 1) d_X4_isRun_117 (by decide) ?_
      refine x_zret1 rfl d_X4_isRun_118 ?_
      exact ⟨congrArg x_b (run_5 (fun k1 h1 => hq k1 (by omega))).symm, rfl⟩
    · skip
      have hk16 := x_lt (N := 16) c4 rfl rfl (by omega) (by omega)
      refine x_aload_n 1 d_X4_isRun_8 rfl rfl ?_
      refine x_iload_n 0 d_X4_isRun_9 rfl rfl ?_
      refine x_cvip (k := 41) (as := [.int (nI k)]) (c_X4_sumAt l E μ hR hI (k := k) (by omega)) v_X4_sumAt w_X4_sumAt q743 o_M rfl ⟨Nat.le_of_ble_eq_true rfl, Nat.le_of_ble_eq_true rfl⟩ rfl (Nat.le_of_ble_eq_true rfl) d_X4_isRun_10 ?_
      refine x_istore_n [(3, .int (sumF a (nI k))), (2, .int (nI k)), (0, .ref (E.1 + 41)), (1, .int (nI j))] d_X4_isRun_13 rfl (Nat.le_of_ble_eq_true rfl) rfl ?_
      refine x_aload_n 2 d_X4_isRun_14 rfl rfl ?_
      refine x_getr (j := 0) 42 x_c4 rfl (Nat.le_of_ble_eq_true rfl) q668 rfl d_X4_isRun_15 ?_
      refine x_bipush (x := 8) d_X4_isRun_18 (by decide) ?_
      refine x_iload_n 1 d_X4_isRun_20 rfl rfl ?_
      refine x_iadd d_X4_isRun_21 ?_
      rw [show (8 : Int32) + (nI k) = nI (8 + k) from nI_add 8 k]
      refine x_ialdN (z := a (8 + k)) 58 (8 + k) rfl rfl (by omega) (by decide) (hR (8 + k) (by omega)) d_X4_isRun_22 ?_
      refine x_if_le 43 d_X4_isRun_23 (by decide) (fun c5 => ?_) (fun c5 => ?_)
      · skip
        refine x_iconst (x := 0) d_X4_isRun_43 (by decide) ?_
        refine x_istore [(4, .int 0), (3, .int (sumF a (nI k))), (2, .int (nI k)), (0, .ref (E.1 + 41)), (1, .int (nI j))] d_X4_isRun_44 (Nat.le_of_ble_eq_true rfl) rfl ?_
        refine x_iconst (x := 0) d_X4_isRun_46 (by decide) ?_
        refine x_istore [(5, .int 0), (4, .int 0), (3, .int (sumF a (nI k))), (2, .int (nI k)), (0, .ref (E.1 + 41)), (1, .int (nI j))] d_X4_isRun_47 (Nat.le_of_ble_eq_true rfl) rfl ?_
        have L6 : ∀ p : Nat, p ≤ pn a → ∀ r : Int32, (r = restR a j k p) → x_G l E m_X4_isRun (x_mv E m_X4_isRun (x_I (fun z m => z = x_b (endsB a j) ∧ m = μ))) μ 49 [(5, .int (nI p)), (4, .int 0), (3, .int r), (2, .int (nI k)), (0, .ref (E.1 + 41)), (1, .int (nI j))] [] := by
          refine x_down _ (pn a) (fun p hi8 ih7 => ?_)
          intro r hr
          refine x_iload 0 d_X4_isRun_49 rfl ?_
          refine x_aload_n 4 d_X4_isRun_51 rfl rfl ?_
          refine x_getr (j := 0) 42 x_c4 rfl (Nat.le_of_ble_eq_true rfl) q668 rfl d_X4_isRun_52 ?_
          refine x_bipush (x := 7) d_X4_isRun_55 (by decide) ?_
          refine x_ialdN (z := nI (pn a)) 58 7 rfl rfl (by omega) (by decide) ((hR 7 (by decide)).trans hn7) d_X4_isRun_57 ?_
          refine x_icmp_ge 91 d_X4_isRun_58 (by decide) (fun c9 => ?_) (fun c9 => ?_)
          · skip
            have hN2 := x_ge (N := pn a) c9 rfl rfl (by omega) (by omega)
            refine x_iload 1 d_X4_isRun_91 rfl ?_
            refine x_if_eq 111 d_X4_isRun_93 (by decide) (fun c10 => ?_) (fun c10 => ?_)
            rotate_left
            · exact absurd c10 (by decide)
            refine x_iinc [(2, .int (nI (k + 1))), (5, .int (nI p)), (4, .int 0), (3, .int r), (0, .ref (E.1 + 41)), (1, .int (nI j))] 3 d_X4_isRun_111 rfl (x_inc _) (Nat.le_of_ble_eq_true rfl) rfl ?_
            refine x_goto 2 d_X4_isRun_114 (by decide) ?_
            refine x_lv [0, 4, 5] rfl ?_
            exact ih2 (k + 1) (by omega) (by omega) (lt_s hq (run_1 c5))
          · skip
            have hN2 := x_lt (N := pn a) c9 rfl rfl (by omega) (by omega)
            refine x_iload_n 2 d_X4_isRun_61 rfl rfl ?_
            refine x_iload_n 5 d_X4_isRun_62 rfl rfl ?_
            refine x_iload 0 d_X4_isRun_63 rfl ?_
            refine x_ishr d_X4_isRun_65 ?_
            refine x_iconst (x := 1) d_X4_isRun_66 (by decide) ?_
            refine x_iand d_X4_isRun_67 ?_
            refine x_iconst (x := 1) d_X4_isRun_68 (by decide) ?_
            refine x_icmp_ne 82 d_X4_isRun_69 (by decide) (fun c11 => ?_) (fun c11 => ?_)
            · skip
              refine x_iconst (x := 0) d_X4_isRun_82 (by decide) ?_
              refine x_isub d_X4_isRun_83 ?_
              refine x_istore_n [(3, .int (r - 0)), (5, .int (nI p)), (4, .int 0), (2, .int (nI k)), (0, .ref (E.1 + 41)), (1, .int (nI j))] d_X4_isRun_84 rfl (Nat.le_of_ble_eq_true rfl) rfl ?_
              refine x_iinc [(5, .int (nI (p + 1))), (3, .int (r - 0)), (4, .int 0), (2, .int (nI k)), (0, .ref (E.1 + 41)), (1, .int (nI j))] 1 d_X4_isRun_85 rfl (x_inc _) (Nat.le_of_ble_eq_true rfl) rfl ?_
              refine x_goto 49 d_X4_isRun_88 (by decide) ?_
              refine x_lv [0, 2, 1, 3, 4, 5] rfl ?_
              exact ih7 (p + 1) (by omega) (by omega) (r - 0) (rest_f hr (fun z => c11 ((hasS (by omega) (by omega)).mpr z)))
            · skip
              refine x_aload_n 4 d_X4_isRun_72 rfl rfl ?_
              refine x_iload 0 d_X4_isRun_73 rfl ?_
              refine x_iload_n 3 d_X4_isRun_75 rfl rfl ?_
              refine x_cvip (k := 41) (as := [.int (nI p), .int (nI k)]) (c_X4_brings l E μ hR hI (p := p) (k := k) (by omega) (by omega)) v_X4_brings w_X4_brings q747 o_M rfl ⟨Nat.le_of_ble_eq_true rfl, Nat.le_of_ble_eq_true rfl⟩ rfl (Nat.le_of_ble_eq_true rfl) d_X4_isRun_76 ?_
              refine x_goto 83 d_X4_isRun_79 (by decide) ?_
              refine x_isub d_X4_isRun_83 ?_
              refine x_istore_n [(3, .int (r - (bringsF a p (nI k)))), (5, .int (nI p)), (4, .int 0), (2, .int (nI k)), (0, .ref (E.1 + 41)), (1, .int (nI j))] d_X4_isRun_84 rfl (Nat.le_of_ble_eq_true rfl) rfl ?_
              refine x_iinc [(5, .int (nI (p + 1))), (3, .int (r - (bringsF a p (nI k)))), (4, .int 0), (2, .int (nI k)), (0, .ref (E.1 + 41)), (1, .int (nI j))] 1 d_X4_isRun_85 rfl (x_inc _) (Nat.le_of_ble_eq_true rfl) rfl ?_
              refine x_goto 49 d_X4_isRun_88 (by decide) ?_
              refine x_lv [0, 2, 1, 3, 4, 5] rfl ?_
              exact ih7 (p + 1) (by omega) (by omega) (r - (bringsF a p (nI k))) (rest_t hr ((hasS (by omega) (by omega)).mp c11))
        exact L6 0 (by omega) (sumF a (nI k)) (rest_0 a j k)
      · skip
        refine x_iload_n 0 d_X4_isRun_26 rfl rfl ?_
        refine x_aload_n 2 d_X4_isRun_27 rfl rfl ?_
        refine x_getr (j := 0) 42 x_c4 rfl (Nat.le_of_ble_eq_true rfl) q668 rfl d_X4_isRun_28 ?_
        refine x_bipush (x := 8) d_X4_isRun_31 (by decide) ?_
        refine x_iload_n 1 d_X4_isRun_33 rfl rfl ?_
        refine x_iadd d_X4_isRun_34 ?_
        rw [show (8 : Int32) + (nI k) = nI (8 + k) from nI_add 8 k]
        refine x_ialdN (z := a (8 + k)) 58 (8 + k) rfl rfl (by omega) (by decide) (hR (8 + k) (by omega)) d_X4_isRun_35 ?_
        refine x_icmp_lt 43 d_X4_isRun_36 (by decide) (fun c12 => ?_) (fun c12 => ?_)
        · skip
          refine x_iconst (x := 0) d_X4_isRun_43 (by decide) ?_
          refine x_istore [(4, .int 0), (3, .int (sumF a (nI k))), (2, .int (nI k)), (0, .ref (E.1 + 41)), (1, .int (nI j))] d_X4_isRun_44 (Nat.le_of_ble_eq_true rfl) rfl ?_
          refine x_iconst (x := 0) d_X4_isRun_46 (by decide) ?_
          refine x_istore [(5, .int 0), (4, .int 0), (3, .int (sumF a (nI k))), (2, .int (nI k)), (0, .ref (E.1 + 41)), (1, .int (nI j))] d_X4_isRun_47 (Nat.le_of_ble_eq_true rfl) rfl ?_
          have L13 : ∀ p : Nat, p ≤ pn a → ∀ r : Int32, (r = restR a j k p) → x_G l E m_X4_isRun (x_mv E m_X4_isRun (x_I (fun z m => z = x_b (endsB a j) ∧ m = μ))) μ 49 [(5, .int (nI p)), (4, .int 0), (3, .int r), (2, .int (nI k)), (0, .ref (E.1 + 41)), (1, .int (nI j))] [] := by
            refine x_down _ (pn a) (fun p hi15 ih14 => ?_)
            intro r hr
            refine x_iload 0 d_X4_isRun_49 rfl ?_
            refine x_aload_n 4 d_X4_isRun_51 rfl rfl ?_
            refine x_getr (j := 0) 42 x_c4 rfl (Nat.le_of_ble_eq_true rfl) q668 rfl d_X4_isRun_52 ?_
            refine x_bipush (x := 7) d_X4_isRun_55 (by decide) ?_
            refine x_ialdN (z := nI (pn a)) 58 7 rfl rfl (by omega) (by decide) ((hR 7 (by decide)).trans hn7) d_X4_isRun_57 ?_
            refine x_icmp_ge 91 d_X4_isRun_58 (by decide) (fun c16 => ?_) (fun c16 => ?_)
            · skip
              have hN2 := x_ge (N := pn a) c16 rfl rfl (by omega) (by omega)
              refine x_iload 1 d_X4_isRun_91 rfl ?_
              refine x_if_eq 111 d_X4_isRun_93 (by decide) (fun c17 => ?_) (fun c17 => ?_)
              rotate_left
              · exact absurd c17 (by decide)
              refine x_iinc [(2, .int (nI (k + 1))), (5, .int (nI p)), (4, .int 0), (3, .int r), (0, .ref (E.1 + 41)), (1, .int (nI j))] 3 d_X4_isRun_111 rfl (x_inc _) (Nat.le_of_ble_eq_true rfl) rfl ?_
              refine x_goto 2 d_X4_isRun_114 (by decide) ?_
              refine x_lv [0, 4, 5] rfl ?_
              exact ih2 (k + 1) (by omega) (by omega) (lt_s hq (run_2 c12))
            · skip
              have hN2 := x_lt (N := pn a) c16 rfl rfl (by omega) (by omega)
              refine x_iload_n 2 d_X4_isRun_61 rfl rfl ?_
              refine x_iload_n 5 d_X4_isRun_62 rfl rfl ?_
              refine x_iload 0 d_X4_isRun_63 rfl ?_
              refine x_ishr d_X4_isRun_65 ?_
              refine x_iconst (x := 1) d_X4_isRun_66 (by decide) ?_
              refine x_iand d_X4_isRun_67 ?_
              refine x_iconst (x := 1) d_X4_isRun_68 (by decide) ?_
              refine x_icmp_ne 82 d_X4_isRun_69 (by decide) (fun c18 => ?_) (fun c18 => ?_)
              · skip
                refine x_iconst (x := 0) d_X4_isRun_82 (by decide) ?_
                refine x_isub d_X4_isRun_83 ?_
                refine x_istore_n [(3, .int (r - 0)), (5, .int (nI p)), (4, .int 0), (2, .int (nI k)), (0, .ref (E.1 + 41)), (1, .int (nI j))] d_X4_isRun_84 rfl (Nat.le_of_ble_eq_true rfl) rfl ?_
                refine x_iinc [(5, .int (nI (p + 1))), (3, .int (r - 0)), (4, .int 0), (2, .int (nI k)), (0, .ref (E.1 + 41)), (1, .int (nI j))] 1 d_X4_isRun_85 rfl (x_inc _) (Nat.le_of_ble_eq_true rfl) rfl ?_
                refine x_goto 49 d_X4_isRun_88 (by decide) ?_
                refine x_lv [0, 2, 1, 3, 4, 5] rfl ?_
                exact ih14 (p + 1) (by omega) (by omega) (r - 0) (rest_f hr (fun z => c18 ((hasS (by omega) (by omega)).mpr z)))
              · skip
                refine x_aload_n 4 d_X4_isRun_72 rfl rfl ?_
                refine x_iload 0 d_X4_isRun_73 rfl ?_
                refine x_iload_n 3 d_X4_isRun_75 rfl rfl ?_
                refine x_cvip (k := 41) (as := [.int (nI p), .int (nI k)]) (c_X4_brings l E μ hR hI (p := p) (k := k) (by omega) (by omega)) v_X4_brings w_X4_brings q747 o_M rfl ⟨Nat.le_of_ble_eq_true rfl, Nat.le_of_ble_eq_true rfl⟩ rfl (Nat.le_of_ble_eq_true rfl) d_X4_isRun_76 ?_
                refine x_goto 83 d_X4_isRun_79 (by decide) ?_
                refine x_isub d_X4_isRun_83 ?_
                refine x_istore_n [(3, .int (r - (bringsF a p (nI k)))), (5, .int (nI p)), (4, .int 0), (2, .int (nI k)), (0, .ref (E.1 + 41)), (1, .int (nI j))] d_X4_isRun_84 rfl (Nat.le_of_ble_eq_true rfl) rfl ?_
                refine x_iinc [(5, .int (nI (p + 1))), (3, .int (r - (bringsF a p (nI k)))), (4, .int 0), (2, .int (nI k)), (0, .ref (E.1 + 41)), (1, .int (nI j))] 1 d_X4_isRun_85 rfl (x_inc _) (Nat.le_of_ble_eq_true rfl) rfl ?_
                refine x_goto 49 d_X4_isRun_88 (by decide) ?_
                refine x_lv [0, 2, 1, 3, 4, 5] rfl ?_
                exact ih14 (p + 1) (by omega) (by omega) (r - (bringsF a p (nI k))) (rest_t hr ((hasS (by omega) (by omega)).mp c18))
          exact L13 0 (by omega) (sumF a (nI k)) (rest_0 a j k)
        · skip
          refine x_iconst (x := 1) d_X4_isRun_39 (by decide) ?_
          refine x_goto 44 d_X4_isRun_40 (by decide) ?_
          refine x_istore [(4, .int 1), (3, .int (sumF a (nI k))), (2, .int (nI k)), (0, .ref (E.1 + 41)), (1, .int (nI j))] d_X4_isRun_44 (Nat.le_of_ble_eq_true rfl) rfl ?_
          refine x_iconst (x := 0) d_X4_isRun_46 (by decide) ?_
          refine x_istore [(5, .int 0), (4, .int 1), (3, .int (sumF a (nI k))), (2, .int (nI k)), (0, .ref (E.1 + 41)), (1, .int (nI j))] d_X4_isRun_47 (Nat.le_of_ble_eq_true rfl) rfl ?_
          have L19 : ∀ p : Nat, p ≤ pn a → ∀ r : Int32, (r = restR a j k p) → x_G l E m_X4_isRun (x_mv E m_X4_isRun (x_I (fun z m => z = x_b (endsB a j) ∧ m = μ))) μ 49 [(5, .int (nI p)), (4, .int 1), (3, .int r), (2, .int (nI k)), (0, .ref (E.1 + 41)), (1, .int (nI j))] [] := by
            refine x_down _ (pn a) (fun p hi21 ih20 => ?_)
            intro r hr
            refine x_iload 0 d_X4_isRun_49 rfl ?_
            refine x_aload_n 4 d_X4_isRun_51 rfl rfl ?_
            refine x_getr (j := 0) 42 x_c4 rfl (Nat.le_of_ble_eq_true rfl) q668 rfl d_X4_isRun_52 ?_
            refine x_bipush (x := 7) d_X4_isRun_55 (by decide) ?_
            refine x_ialdN (z := nI (pn a)) 58 7 rfl rfl (by omega) (by decide) ((hR 7 (by decide)).trans hn7) d_X4_isRun_57 ?_
            refine x_icmp_ge 91 d_X4_isRun_58 (by decide) (fun c22 => ?_) (fun c22 => ?_)
            · skip
              have hN2 := x_ge (N := pn a) c22 rfl rfl (by omega) (by omega)
              refine x_iload 1 d_X4_isRun_91 rfl ?_
              refine x_if_eq 111 d_X4_isRun_93 (by decide) (fun c23 => ?_) (fun c23 => ?_)
              · exact absurd c23 (by decide)
              refine x_iload_n 2 d_X4_isRun_96 rfl rfl ?_
              refine x_aload_n 4 d_X4_isRun_97 rfl rfl ?_
              refine x_getr (j := 0) 42 x_c4 rfl (Nat.le_of_ble_eq_true rfl) q668 rfl d_X4_isRun_98 ?_
              refine x_bipush (x := 8) d_X4_isRun_101 (by decide) ?_
              refine x_iload_n 3 d_X4_isRun_103 rfl rfl ?_
              refine x_iadd d_X4_isRun_104 ?_
              rw [show (8 : Int32) + (nI k) = nI (8 + k) from nI_add 8 k]
              refine x_ialdN (z := a (8 + k)) 58 (8 + k) rfl rfl (by omega) (by decide) (hR (8 + k) (by omega)) d_X4_isRun_105 ?_
              refine x_icmp_lt 111 d_X4_isRun_106 (by decide) (fun c24 => ?_) (fun c24 => ?_)
              · skip
                refine x_iinc [(2, .int (nI (k + 1))), (5, .int (nI p)), (4, .int 1), (3, .int r), (0, .ref (E.1 + 41)), (1, .int (nI j))] 3 d_X4_isRun_111 rfl (x_inc _) (Nat.le_of_ble_eq_true rfl) rfl ?_
                refine x_goto 2 d_X4_isRun_114 (by decide) ?_
                refine x_lv [0, 4, 5] rfl ?_
                exact ih2 (k + 1) (by omega) (by omega) (lt_s hq (run_3 hr (by omega) c24))
              · skip
                refine x_iconst (x := 0) d_X4_isRun_109 (by decide) ?_
                refine x_zret0 rfl d_X4_isRun_110 ?_
                exact ⟨congrArg x_b (run_4 hr (by omega) (by omega) c5 c12 c24).symm, rfl⟩
            · skip
              have hN2 := x_lt (N := pn a) c22 rfl rfl (by omega) (by omega)
              refine x_iload_n 2 d_X4_isRun_61 rfl rfl ?_
              refine x_iload_n 5 d_X4_isRun_62 rfl rfl ?_
              refine x_iload 0 d_X4_isRun_63 rfl ?_
              refine x_ishr d_X4_isRun_65 ?_
              refine x_iconst (x := 1) d_X4_isRun_66 (by decide) ?_
              refine x_iand d_X4_isRun_67 ?_
              refine x_iconst (x := 1) d_X4_isRun_68 (by decide) ?_
              refine x_icmp_ne 82 d_X4_isRun_69 (by decide) (fun c25 => ?_) (fun c25 => ?_)
              · skip
                refine x_iconst (x := 0) d_X4_isRun_82 (by decide) ?_
                refine x_isub d_X4_isRun_83 ?_
                refine x_istore_n [(3, .int (r - 0)), (5, .int (nI p)), (4, .int 1), (2, .int (nI k)), (0, .ref (E.1 + 41)), (1, .int (nI j))] d_X4_isRun_84 rfl (Nat.le_of_ble_eq_true rfl) rfl ?_
                refine x_iinc [(5, .int (nI (p + 1))), (3, .int (r - 0)), (4, .int 1), (2, .int (nI k)), (0, .ref (E.1 + 41)), (1, .int (nI j))] 1 d_X4_isRun_85 rfl (x_inc _) (Nat.le_of_ble_eq_true rfl) rfl ?_
                refine x_goto 49 d_X4_isRun_88 (by decide) ?_
                refine x_lv [0, 2, 1, 3, 4, 5] rfl ?_
                exact ih20 (p + 1) (by omega) (by omega) (r - 0) (rest_f hr (fun z => c25 ((hasS (by omega) (by omega)).mpr z)))
              · skip
                refine x_aload_n 4 d_X4_isRun_72 rfl rfl ?_
                refine x_iload 0 d_X4_isRun_73 rfl ?_
                refine x_iload_n 3 d_X4_isRun_75 rfl rfl ?_
                refine x_cvip (k := 41) (as := [.int (nI p), .int (nI k)]) (c_X4_brings l E μ hR hI (p := p) (k := k) (by omega) (by omega)) v_X4_brings w_X4_brings q747 o_M rfl ⟨Nat.le_of_ble_eq_true rfl, Nat.le_of_ble_eq_true rfl⟩ rfl (Nat.le_of_ble_eq_true rfl) d_X4_isRun_76 ?_
                refine x_goto 83 d_X4_isRun_79 (by decide) ?_
                refine x_isub d_X4_isRun_83 ?_
                refine x_istore_n [(3, .int (r - (bringsF a p (nI k)))), (5, .int (nI p)), (4, .int 1), (2, .int (nI k)), (0, .ref (E.1 + 41)), (1, .int (nI j))] d_X4_isRun_84 rfl (Nat.le_of_ble_eq_true rfl) rfl ?_
                refine x_iinc [(5, .int (nI (p + 1))), (3, .int (r - (bringsF a p (nI k)))), (4, .int 1), (2, .int (nI k)), (0, .ref (E.1 + 41)), (1, .int (nI j))] 1 d_X4_isRun_85 rfl (x_inc _) (Nat.le_of_ble_eq_true rfl) rfl ?_
                refine x_goto 49 d_X4_isRun_88 (by decide) ?_
                refine x_lv [0, 2, 1, 3, 4, 5] rfl ?_
                exact ih20 (p + 1) (by omega) (by omega) (r - (bringsF a p (nI k))) (rest_t hr ((hasS (by omega) (by omega)).mp c25))
          exact L19 0 (by omega) (sumF a (nI k)) (rest_0 a j k)
  exact L1 0 (by omega) (fun _ h => absurd h (Nat.not_lt_zero _))
def m_X4_run : x_M := (yX4_run, prog_6_method_70_code, 4, (some FieldType.int), 6, 140)
theorem v_X4_run : x_VM m_X4_run 0 := ⟨q988, q6, by decide +kernel, by decide +kernel, by decide +kernel⟩
theorem w_X4_run : x_VI m_X4_run := ⟨q986, q987⟩
theorem d_X4_run_0 : x_dec m_X4_run 0 (.iconst (-1)) 1 1 := ⟨by decide +kernel, rfl⟩
theorem d_X4_run_1 : x_dec m_X4_run 1 (.istore_n 1) 1 2 := ⟨by decide +kernel, rfl⟩
theorem d_X4_run_2 : x_dec m_X4_run 2 (.iconst 0) 1 3 := ⟨by decide +kernel, rfl⟩
theorem d_X4_run_3 : x_dec m_X4_run 3 (.istore_n 2) 1 4 := ⟨by decide +kernel, rfl⟩
theorem d_X4_run_4 : x_dec m_X4_run 4 (.iload_n 2) 1 5 := ⟨by decide +kernel, rfl⟩
theorem d_X4_run_5 : x_dec m_X4_run 5 (.iconst 1) 1 6 := ⟨by decide +kernel, rfl⟩
theorem d_X4_run_6 : x_dec m_X4_run 6 (.aload_n 0) 1 7 := ⟨by decide +kernel, rfl⟩
theorem d_X4_run_7 : x_dec m_X4_run 7 (.getfield 9) 3 10 := ⟨by decide +kernel, rfl⟩
theorem d_X4_run_10 : x_dec m_X4_run 10 (.bipush 7) 2 12 := ⟨by decide +kernel, rfl⟩
theorem d_X4_run_12 : x_dec m_X4_run 12 (.iaload) 1 13 := ⟨by decide +kernel, rfl⟩
theorem d_X4_run_13 : x_dec m_X4_run 13 (.ishl) 1 14 := ⟨by decide +kernel, rfl⟩
theorem d_X4_run_14 : x_dec m_X4_run 14 (.if_icmp .ge 48) 3 17 := ⟨by decide +kernel, rfl⟩
theorem d_X4_run_17 : x_dec m_X4_run 17 (.iload_n 1) 1 18 := ⟨by decide +kernel, rfl⟩
theorem d_X4_run_18 : x_dec m_X4_run 18 (.ifCond .lt 14) 3 21 := ⟨by decide +kernel, rfl⟩
theorem d_X4_run_21 : x_dec m_X4_run 21 (.iload_n 2) 1 22 := ⟨by decide +kernel, rfl⟩
theorem d_X4_run_22 : x_dec m_X4_run 22 (.invokestatic 152) 3 25 := ⟨by decide +kernel, rfl⟩
theorem d_X4_run_25 : x_dec m_X4_run 25 (.iload_n 1) 1 26 := ⟨by decide +kernel, rfl⟩
theorem d_X4_run_26 : x_dec m_X4_run 26 (.invokestatic 152) 3 29 := ⟨by decide +kernel, rfl⟩
theorem d_X4_run_29 : x_dec m_X4_run 29 (.if_icmp .ge 7) 3 32 := ⟨by decide +kernel, rfl⟩
theorem d_X4_run_32 : x_dec m_X4_run 32 (.iconst 1) 1 33 := ⟨by decide +kernel, rfl⟩
theorem d_X4_run_33 : x_dec m_X4_run 33 (.goto 4) 3 36 := ⟨by decide +kernel, rfl⟩
theorem d_X4_run_36 : x_dec m_X4_run 36 (.iconst 0) 1 37 := ⟨by decide +kernel, rfl⟩
theorem d_X4_run_37 : x_dec m_X4_run 37 (.istore_n 3) 1 38 := ⟨by decide +kernel, rfl⟩
theorem d_X4_run_38 : x_dec m_X4_run 38 (.iload_n 3) 1 39 := ⟨by decide +kernel, rfl⟩
theorem d_X4_run_39 : x_dec m_X4_run 39 (.ifCond .eq 15) 3 42 := ⟨by decide +kernel, rfl⟩
theorem d_X4_run_42 : x_dec m_X4_run 42 (.aload_n 0) 1 43 := ⟨by decide +kernel, rfl⟩
theorem d_X4_run_43 : x_dec m_X4_run 43 (.iload_n 2) 1 44 := ⟨by decide +kernel, rfl⟩
theorem d_X4_run_44 : x_dec m_X4_run 44 (.invokevirtual 172) 3 47 := ⟨by decide +kernel, rfl⟩
theorem d_X4_run_47 : x_dec m_X4_run 47 (.ifCond .eq 7) 3 50 := ⟨by decide +kernel, rfl⟩
theorem d_X4_run_50 : x_dec m_X4_run 50 (.iload_n 2) 1 51 := ⟨by decide +kernel, rfl⟩
theorem d_X4_run_51 : x_dec m_X4_run 51 (.goto 4) 3 54 := ⟨by decide +kernel, rfl⟩
theorem d_X4_run_54 : x_dec m_X4_run 54 (.iload_n 1) 1 55 := ⟨by decide +kernel, rfl⟩
theorem d_X4_run_55 : x_dec m_X4_run 55 (.istore_n 1) 1 56 := ⟨by decide +kernel, rfl⟩
theorem d_X4_run_56 : x_dec m_X4_run 56 (.iinc 2 1) 3 59 := ⟨by decide +kernel, rfl⟩
theorem d_X4_run_59 : x_dec m_X4_run 59 (.goto (-55)) 3 62 := ⟨by decide +kernel, rfl⟩
theorem d_X4_run_62 : x_dec m_X4_run 62 (.iload_n 1) 1 63 := ⟨by decide +kernel, rfl⟩
theorem d_X4_run_63 : x_dec m_X4_run 63 (.ireturn) 1 64 := ⟨by decide +kernel, rfl⟩
set_option maxHeartbeats 4000000 in
set_option maxRecDepth 100000 in
theorem c_X4_run (l : Launch) (E : x_E) (μ : x_Mem) (g : x_SG) (hS : MS g μ) (hI : Inv g) : x_Met l m_X4_run E [.ref (E.1 + 41)] μ (x_I (fun z m => z = (F_run g).1 ∧ MS (F_run g).2 m ∧ ∀ id, id < 41 → m id = μ id)) := by
  obtain ⟨hR, hX, hD⟩ := hS
  have hWF := hI.1.1
  have hn7 := hWF.2.1
  have hpn := hWF.1
  have hF : ∀ id, id < 41 → μ id = μ id := fun _ _ => rfl
  have h2p := pow8 hpn
  have h2q := Nat.one_le_two_pow (n := pn (gA g))
  refine x_enter (lv := [(0, .ref (E.1 + 41))]) (by decide +kernel) (Nat.le_of_ble_eq_true rfl) rfl ?_
  refine x_iconst (x := (-1)) d_X4_run_0 (by decide) ?_
  refine x_istore_n [(1, .int (-1)), (0, .ref (E.1 + 41))] d_X4_run_1 rfl (Nat.le_of_ble_eq_true rfl) rfl ?_
  refine x_iconst (x := 0) d_X4_run_2 (by decide) ?_
  refine x_istore_n [(2, .int 0), (1, .int (-1)), (0, .ref (E.1 + 41))] d_X4_run_3 rfl (Nat.le_of_ble_eq_true rfl) rfl ?_
  have L1 : ∀ i : Nat, i ≤ 2 ^ pn (gA g) → ∀ b : Int32, ∀ μ4 : x_Mem, (b = optI (fewTo (endsB (gA g)) i)) → (MR (gA g) μ4) → (MX g μ4) → (MD (gF g) μ4) → (∀ id, id < 41 → μ4 id = μ id) → x_G l E m_X4_run (x_mv E m_X4_run (x_I (fun z m => z = (F_run g).1 ∧ MS (F_run g).2 m ∧ ∀ id, id < 41 → m id = μ id))) μ4 4 [(2, .int (nI i)), (1, .int b), (0, .ref (E.1 + 41))] [] := by
    refine x_down _ (2 ^ pn (gA g)) (fun i hi3 ih2 => ?_)
    intro b μ4 hb hR1 hX1 hD1 hF1
    refine x_iload_n 0 d_X4_run_4 rfl rfl ?_
    refine x_iconst (x := 1) d_X4_run_5 (by decide) ?_
    refine x_aload_n 2 d_X4_run_6 rfl rfl ?_
    refine x_getr (j := 0) 42 x_c4 rfl (Nat.le_of_ble_eq_true rfl) q668 rfl d_X4_run_7 ?_
    refine x_bipush (x := 7) d_X4_run_10 (by decide) ?_
    refine x_ialdN (z := nI (pn (gA g))) 58 7 rfl rfl (by omega) (by decide) ((hR1 7 (by decide)).trans hn7) d_X4_run_12 ?_
    refine x_ishl d_X4_run_13 ?_
    rw [shl1 (by omega)]
    refine x_icmp_ge 62 d_X4_run_14 (by decide) (fun c5 => ?_) (fun c5 => ?_)
    · skip
      have hN := x_ge (N := 2 ^ pn (gA g)) c5 rfl rfl (by omega) (by omega)
      refine x_iload_n 1 d_X4_run_62 rfl rfl ?_
      refine x_iret rfl d_X4_run_63 ?_
      have e7 : i = 2 ^ pn (gA g) := by omega
      subst e7
      have e9 : F_run g = (b, g) := by rw [run_opt, ← hb]
      rw [e9]
      exact ⟨rfl, ⟨hR1, hX1, hD1⟩, hF1⟩
    · skip
      have hN := x_lt (N := 2 ^ pn (gA g)) c5 rfl rfl (by omega) (by omega)
      refine x_iload_n 1 d_X4_run_17 rfl rfl ?_
      refine x_if_lt 32 d_X4_run_18 (by decide) (fun c6 => ?_) (fun c6 => ?_)
      · skip
        refine x_iconst (x := 1) d_X4_run_32 (by decide) ?_
        refine x_goto 37 d_X4_run_33 (by decide) ?_
        refine x_istore_n [(3, .int 1), (2, .int (nI i)), (1, .int b), (0, .ref (E.1 + 41))] d_X4_run_37 rfl (Nat.le_of_ble_eq_true rfl) rfl ?_
        refine x_iload_n 0 d_X4_run_38 rfl rfl ?_
        refine x_if_eq 54 d_X4_run_39 (by decide) (fun c7 => ?_) (fun c7 => ?_)
        · exact absurd c7 (by decide)
        refine x_aload_n 3 d_X4_run_42 rfl rfl ?_
        refine x_iload_n 1 d_X4_run_43 rfl rfl ?_
        refine x_cvip (k := 41) (as := [.int (nI i)]) (c_X4_isRun l E μ4 hR1 hWF (j := i) (by omega)) v_X4_isRun w_X4_isRun q989 o_M rfl ⟨Nat.le_of_ble_eq_true rfl, Nat.le_of_ble_eq_true rfl⟩ rfl (Nat.le_of_ble_eq_true rfl) d_X4_run_44 ?_
        refine x_ifb_eq 54 d_X4_run_47 (by decide) (fun c8 => ?_) (fun c8 => ?_)
        · skip
          refine x_iload_n 2 d_X4_run_54 rfl rfl ?_
          refine x_istore_n [(1, .int b), (3, .int 1), (2, .int (nI i)), (0, .ref (E.1 + 41))] d_X4_run_55 rfl (Nat.le_of_ble_eq_true rfl) rfl ?_
          refine x_iinc [(2, .int (nI (i + 1))), (1, .int b), (3, .int 1), (0, .ref (E.1 + 41))] 2 d_X4_run_56 rfl (x_inc _) (Nat.le_of_ble_eq_true rfl) rfl ?_
          refine x_goto 4 d_X4_run_59 (by decide) ?_
          refine x_lv [0, 1, 3] rfl ?_
          exact ih2 (i + 1) (by omega) (by omega) b μ4 (by rw [few_n1 (few_neg hb (by omega) c6) c8, hb, few_neg hb (by omega) c6]) hR1 hX1 hD1 hF1
        · skip
          refine x_iload_n 1 d_X4_run_50 rfl rfl ?_
          refine x_goto 55 d_X4_run_51 (by decide) ?_
          refine x_istore_n [(1, .int (nI i)), (3, .int 1), (2, .int (nI i)), (0, .ref (E.1 + 41))] d_X4_run_55 rfl (Nat.le_of_ble_eq_true rfl) rfl ?_
          refine x_iinc [(2, .int (nI (i + 1))), (1, .int (nI i)), (3, .int 1), (0, .ref (E.1 + 41))] 2 d_X4_run_56 rfl (x_inc _) (Nat.le_of_ble_eq_true rfl) rfl ?_
          refine x_goto 4 d_X4_run_59 (by decide) ?_
          refine x_lv [0, 1, 3] rfl ?_
          exact ih2 (i + 1) (by omega) (by omega) (nI i) μ4 (by rw [few_n2 (few_neg hb (by omega) c6) c8]; rfl) hR1 hX1 hD1 hF1
      · skip
        obtain ⟨k, hk, ek, rfl⟩ := few_pos hb c6
        refine x_iload_n 0 d_X4_run_21 rfl rfl ?_
        refine x_csip (as := [.int (nI i)]) (c_X4_bits l E μ4 (s := i) (by omega)) v_X4_bits q923 q922 rfl ⟨Nat.le_of_ble_eq_true rfl, Nat.le_of_ble_eq_true rfl⟩ rfl (Nat.le_of_ble_eq_true rfl) d_X4_run_22 ?_
        refine x_iload_n 1 d_X4_run_25 rfl rfl ?_
        refine x_csip (as := [.int (nI k)]) (c_X4_bits l E μ4 (s := k) (by omega)) v_X4_bits q923 q922 rfl ⟨Nat.le_of_ble_eq_true rfl, Nat.le_of_ble_eq_true rfl⟩ rfl (Nat.le_of_ble_eq_true rfl) d_X4_run_26 ?_
        refine x_icmp_ge 36 d_X4_run_29 (by decide) (fun c9 => ?_) (fun c9 => ?_)
        · skip
          refine x_iconst (x := 0) d_X4_run_36 (by decide) ?_
          refine x_istore_n [(3, .int 0), (2, .int (nI i)), (1, .int (nI k)), (0, .ref (E.1 + 41))] d_X4_run_37 rfl (Nat.le_of_ble_eq_true rfl) rfl ?_
          refine x_iload_n 0 d_X4_run_38 rfl rfl ?_
          refine x_if_eq 54 d_X4_run_39 (by decide) (fun c10 => ?_) (fun c10 => ?_)
          rotate_left
          · exact absurd c10 (by decide)
          refine x_iload_n 2 d_X4_run_54 rfl rfl ?_
          refine x_istore_n [(1, .int (nI k)), (3, .int 0), (2, .int (nI i)), (0, .ref (E.1 + 41))] d_X4_run_55 rfl (Nat.le_of_ble_eq_true rfl) rfl ?_
          refine x_iinc [(2, .int (nI (i + 1))), (1, .int (nI k)), (3, .int 0), (0, .ref (E.1 + 41))] 2 d_X4_run_56 rfl (x_inc _) (Nat.le_of_ble_eq_true rfl) rfl ?_
          refine x_goto 4 d_X4_run_59 (by decide) ?_
          refine x_lv [0, 1, 3] rfl ?_
          exact ih2 (i + 1) (by omega) (by omega) (nI k) μ4 (by rw [few_s1 ek (fun z => pop_ge (by omega) (by omega) c9 z.1)]; rfl) hR1 hX1 hD1 hF1
        · skip
          refine x_iconst (x := 1) d_X4_run_32 (by decide) ?_
          refine x_goto 37 d_X4_run_33 (by decide) ?_
          refine x_istore_n [(3, .int 1), (2, .int (nI i)), (1, .int (nI k)), (0, .ref (E.1 + 41))] d_X4_run_37 rfl (Nat.le_of_ble_eq_true rfl) rfl ?_
          refine x_iload_n 0 d_X4_run_38 rfl rfl ?_
          refine x_if_eq 54 d_X4_run_39 (by decide) (fun c11 => ?_) (fun c11 => ?_)
          · exact absurd c11 (by decide)
          refine x_aload_n 3 d_X4_run_42 rfl rfl ?_
          refine x_iload_n 1 d_X4_run_43 rfl rfl ?_
          refine x_cvip (k := 41) (as := [.int (nI i)]) (c_X4_isRun l E μ4 hR1 hWF (j := i) (by omega)) v_X4_isRun w_X4_isRun q989 o_M rfl ⟨Nat.le_of_ble_eq_true rfl, Nat.le_of_ble_eq_true rfl⟩ rfl (Nat.le_of_ble_eq_true rfl) d_X4_run_44 ?_
          refine x_ifb_eq 54 d_X4_run_47 (by decide) (fun c12 => ?_) (fun c12 => ?_)
          · skip
            refine x_iload_n 2 d_X4_run_54 rfl rfl ?_
            refine x_istore_n [(1, .int (nI k)), (3, .int 1), (2, .int (nI i)), (0, .ref (E.1 + 41))] d_X4_run_55 rfl (Nat.le_of_ble_eq_true rfl) rfl ?_
            refine x_iinc [(2, .int (nI (i + 1))), (1, .int (nI k)), (3, .int 1), (0, .ref (E.1 + 41))] 2 d_X4_run_56 rfl (x_inc _) (Nat.le_of_ble_eq_true rfl) rfl ?_
            refine x_goto 4 d_X4_run_59 (by decide) ?_
            refine x_lv [0, 1, 3] rfl ?_
            exact ih2 (i + 1) (by omega) (by omega) (nI k) μ4 (by rw [few_s1 ek (fun z => absurd (z.2.symm.trans c12) (by decide))]; rfl) hR1 hX1 hD1 hF1
          · skip
            refine x_iload_n 1 d_X4_run_50 rfl rfl ?_
            refine x_goto 55 d_X4_run_51 (by decide) ?_
            refine x_istore_n [(1, .int (nI i)), (3, .int 1), (2, .int (nI i)), (0, .ref (E.1 + 41))] d_X4_run_55 rfl (Nat.le_of_ble_eq_true rfl) rfl ?_
            refine x_iinc [(2, .int (nI (i + 1))), (1, .int (nI i)), (3, .int 1), (0, .ref (E.1 + 41))] 2 d_X4_run_56 rfl (x_inc _) (Nat.le_of_ble_eq_true rfl) rfl ?_
            refine x_goto 4 d_X4_run_59 (by decide) ?_
            refine x_lv [0, 1, 3] rfl ?_
            exact ih2 (i + 1) (by omega) (by omega) (nI i) μ4 (by rw [few_s2 ek (pop_lt (by omega) (by omega) c9) c12]; rfl) hR1 hX1 hD1 hF1
  exact L1 0 (by omega) (-1) μ (by rfl) hR hX hD hF
