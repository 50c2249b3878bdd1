def m_X4_goesOn : x_M := (yX4_goesOn, prog_6_method_35_code, 3, none, 8, 179)
theorem v_X4_goesOn : x_VM m_X4_goesOn 1 := ⟨q822, q6, by decide +kernel, by decide +kernel, by decide +kernel⟩
theorem w_X4_goesOn : x_VI m_X4_goesOn := ⟨q821, qs31⟩
theorem d_X4_goesOn_0 : x_dec m_X4_goesOn 0 (.iconst 0) 1 1 := ⟨by decide +kernel, rfl⟩
theorem d_X4_goesOn_1 : x_dec m_X4_goesOn 1 (.istore_n 2) 1 2 := ⟨by decide +kernel, rfl⟩
theorem d_X4_goesOn_2 : x_dec m_X4_goesOn 2 (.iload_n 2) 1 3 := ⟨by decide +kernel, rfl⟩
theorem d_X4_goesOn_3 : x_dec m_X4_goesOn 3 (.iload_n 1) 1 4 := ⟨by decide +kernel, rfl⟩
theorem d_X4_goesOn_4 : x_dec m_X4_goesOn 4 (.if_icmp .ge 13) 3 7 := ⟨by decide +kernel, rfl⟩
theorem d_X4_goesOn_7 : x_dec m_X4_goesOn 7 (.aload_n 0) 1 8 := ⟨by decide +kernel, rfl⟩
theorem d_X4_goesOn_8 : x_dec m_X4_goesOn 8 (.invokevirtual 110) 3 11 := ⟨by decide +kernel, rfl⟩
theorem d_X4_goesOn_11 : x_dec m_X4_goesOn 11 (.iinc 2 1) 3 14 := ⟨by decide +kernel, rfl⟩
theorem d_X4_goesOn_14 : x_dec m_X4_goesOn 14 (.goto (-12)) 3 17 := ⟨by decide +kernel, rfl⟩
theorem d_X4_goesOn_17 : x_dec m_X4_goesOn 17 (.return_) 1 18 := ⟨by decide +kernel, rfl⟩
set_option maxHeartbeats 4000000 in
set_option maxRecDepth 100000 in
theorem c_X4_goesOn (l : Launch) (E : x_E) (μ : x_Mem) {a : x_St} (hR : MR a μ) (hI : WF a) {h : Nat} (hh : h < 1000) : x_Met l m_X4_goesOn E [.ref (E.1 + 41), .int (nI h)] μ (x_J (fun m => MR (hoursF a h) m ∧ ∀ id, (id ≠ 42 ∧ id ≠ 46) → m id = μ id)) := by
  have hn7 := hI.2.1
  have hpn := hI.1
  have hF : ∀ id, (id ≠ 42 ∧ id ≠ 46) → μ id = μ id := fun _ _ => rfl
  refine x_enter (lv := [(0, .ref (E.1 + 41)), (1, .int (nI h))]) (by decide +kernel) (Nat.le_of_ble_eq_true rfl) rfl ?_
  refine x_iconst (x := 0) d_X4_goesOn_0 (by decide) ?_
  refine x_istore_n [(2, .int 0), (0, .ref (E.1 + 41)), (1, .int (nI h))] d_X4_goesOn_1 rfl (Nat.le_of_ble_eq_true rfl) rfl ?_
  have L1 : ∀ i : Nat, i ≤ h → ∀ μ4 : x_Mem, (MR (hoursF a i) μ4) → (∀ id, (id ≠ 42 ∧ id ≠ 46) → μ4 id = μ id) → x_G l E m_X4_goesOn (x_mv E m_X4_goesOn (x_J (fun m => MR (hoursF a h) m ∧ ∀ id, (id ≠ 42 ∧ id ≠ 46) → m id = μ id))) μ4 2 [(2, .int (nI i)), (0, .ref (E.1 + 41)), (1, .int (nI h))] [] := by
    refine x_down _ h (fun i hi3 ih2 => ?_)
    intro μ4 hR1 hF1
    refine x_iload_n 0 d_X4_goesOn_2 rfl rfl ?_
    refine x_iload_n 2 d_X4_goesOn_3 rfl rfl ?_
    refine x_icmp_ge 17 d_X4_goesOn_4 (by decide) (fun c5 => ?_) (fun c5 => ?_)
    · skip
      have hN := x_ge (N := h) c5 rfl rfl (by omega) (by omega)
      refine x_vret rfl d_X4_goesOn_17 ?_
      have e7 : i = h := by omega
      subst e7
      exact ⟨hR1, hF1⟩
    · skip
      have hN := x_lt (N := h) c5 rfl rfl (by omega) (by omega)
      refine x_aload_n 1 d_X4_goesOn_7 rfl rfl ?_
      refine x_cvv (k := 41) (as := []) (c_X4_hour l E μ4 hR1 (hI.hours i)) v_X4_hour w_X4_hour q823 o_M rfl ⟨Nat.le_of_ble_eq_true rfl, Nat.le_of_ble_eq_true rfl⟩ rfl (Nat.le_of_ble_eq_true rfl) d_X4_goesOn_8 ?_
      rintro μ6 ⟨hR7, hF8⟩
      have hF9 : ∀ id, (id ≠ 42 ∧ id ≠ 46) → μ6 id = μ id := fun id hid => (show μ6 id = μ4 id from (hF8 _ (by omega))).trans (hF1 id hid)
      refine x_iinc [(2, .int (nI (i + 1))), (0, .ref (E.1 + 41)), (1, .int (nI h))] 0 d_X4_goesOn_11 rfl (x_inc _) (Nat.le_of_ble_eq_true rfl) rfl ?_
      refine x_goto 2 d_X4_goesOn_14 (by decide) ?_
      exact ih2 (i + 1) (by omega) (by omega) μ6 hR7 hF9
  exact L1 0 (by omega) μ hR hF
def m_X4_aboard : x_M := (yX4_aboard, prog_6_method_36_code, 3, (some FieldType.int), 1, 22)
theorem v_X4_aboard : x_VM m_X4_aboard 0 := ⟨q846, q6, by decide +kernel, by decide +kernel, by decide +kernel⟩
theorem w_X4_aboard : x_VI m_X4_aboard := ⟨q845, qs36⟩
theorem d_X4_aboard_0 : x_dec m_X4_aboard 0 (.iconst 0) 1 1 := ⟨by decide +kernel, rfl⟩
theorem d_X4_aboard_1 : x_dec m_X4_aboard 1 (.istore_n 1) 1 2 := ⟨by decide +kernel, rfl⟩
theorem d_X4_aboard_2 : x_dec m_X4_aboard 2 (.iconst 0) 1 3 := ⟨by decide +kernel, rfl⟩
theorem d_X4_aboard_3 : x_dec m_X4_aboard 3 (.istore_n 2) 1 4 := ⟨by decide +kernel, rfl⟩
theorem d_X4_aboard_4 : x_dec m_X4_aboard 4 (.iload_n 2) 1 5 := ⟨by decide +kernel, rfl⟩
theorem d_X4_aboard_5 : x_dec m_X4_aboard 5 (.aload_n 0) 1 6 := ⟨by decide +kernel, rfl⟩
theorem d_X4_aboard_6 : x_dec m_X4_aboard 6 (.getfield 9) 3 9 := ⟨by decide +kernel, rfl⟩
theorem d_X4_aboard_9 : x_dec m_X4_aboard 9 (.bipush 7) 2 11 := ⟨by decide +kernel, rfl⟩
theorem d_X4_aboard_11 : x_dec m_X4_aboard 11 (.iaload) 1 12 := ⟨by decide +kernel, rfl⟩
theorem d_X4_aboard_12 : x_dec m_X4_aboard 12 (.if_icmp .ge 29) 3 15 := ⟨by decide +kernel, rfl⟩
theorem d_X4_aboard_15 : x_dec m_X4_aboard 15 (.iload_n 1) 1 16 := ⟨by decide +kernel, rfl⟩
theorem d_X4_aboard_16 : x_dec m_X4_aboard 16 (.aload_n 0) 1 17 := ⟨by decide +kernel, rfl⟩
theorem d_X4_aboard_17 : x_dec m_X4_aboard 17 (.iload_n 2) 1 18 := ⟨by decide +kernel, rfl⟩
theorem d_X4_aboard_18 : x_dec m_X4_aboard 18 (.iconst 1) 1 19 := ⟨by decide +kernel, rfl⟩
theorem d_X4_aboard_19 : x_dec m_X4_aboard 19 (.invokevirtual 50) 3 22 := ⟨by decide +kernel, rfl⟩
theorem d_X4_aboard_22 : x_dec m_X4_aboard 22 (.iconst (-1)) 1 23 := ⟨by decide +kernel, rfl⟩
theorem d_X4_aboard_23 : x_dec m_X4_aboard 23 (.if_icmp .ne 9) 3 26 := ⟨by decide +kernel, rfl⟩
theorem d_X4_aboard_26 : x_dec m_X4_aboard 26 (.iconst 1) 1 27 := ⟨by decide +kernel, rfl⟩
theorem d_X4_aboard_27 : x_dec m_X4_aboard 27 (.iload_n 2) 1 28 := ⟨by decide +kernel, rfl⟩
theorem d_X4_aboard_28 : x_dec m_X4_aboard 28 (.ishl) 1 29 := ⟨by decide +kernel, rfl⟩
theorem d_X4_aboard_29 : x_dec m_X4_aboard 29 (.goto 4) 3 32 := ⟨by decide +kernel, rfl⟩
theorem d_X4_aboard_32 : x_dec m_X4_aboard 32 (.iconst 0) 1 33 := ⟨by decide +kernel, rfl⟩
theorem d_X4_aboard_33 : x_dec m_X4_aboard 33 (.ior) 1 34 := ⟨by decide +kernel, rfl⟩
theorem d_X4_aboard_34 : x_dec m_X4_aboard 34 (.istore_n 1) 1 35 := ⟨by decide +kernel, rfl⟩
theorem d_X4_aboard_35 : x_dec m_X4_aboard 35 (.iinc 2 1) 3 38 := ⟨by decide +kernel, rfl⟩
theorem d_X4_aboard_38 : x_dec m_X4_aboard 38 (.goto (-34)) 3 41 := ⟨by decide +kernel, rfl⟩
theorem d_X4_aboard_41 : x_dec m_X4_aboard 41 (.iload_n 1) 1 42 := ⟨by decide +kernel, rfl⟩
theorem d_X4_aboard_42 : x_dec m_X4_aboard 42 (.ireturn) 1 43 := ⟨by decide +kernel, rfl⟩
set_option maxHeartbeats 4000000 in
set_option maxRecDepth 100000 in
theorem c_X4_aboard (l : Launch) (E : x_E) (μ : x_Mem) {a : x_St} (hR : MR a μ) (hI : WF a) : x_Met l m_X4_aboard E [.ref (E.1 + 41)] μ (x_I (fun z m => z = aboardF a ∧ m = μ)) := by
  have hn7 := hI.2.1
  have hpn := hI.1
  refine x_enter (lv := [(0, .ref (E.1 + 41))]) (by decide +kernel) (Nat.le_of_ble_eq_true rfl) rfl ?_
  refine x_iconst (x := 0) d_X4_aboard_0 (by decide) ?_
  refine x_istore_n [(1, .int 0), (0, .ref (E.1 + 41))] d_X4_aboard_1 rfl (Nat.le_of_ble_eq_true rfl) rfl ?_
  refine x_iconst (x := 0) d_X4_aboard_2 (by decide) ?_
  refine x_istore_n [(2, .int 0), (1, .int 0), (0, .ref (E.1 + 41))] d_X4_aboard_3 rfl (Nat.le_of_ble_eq_true rfl) rfl ?_
  have L1 : ∀ i : Nat, i ≤ pn a → ∀ r : Int32, (r = setTo (fun p => decide (a (24 + 3 * p + 1) = -1)) i) → x_G l E m_X4_aboard (x_mv E m_X4_aboard (x_I (fun z m => z = aboardF a ∧ m = μ))) μ 4 [(2, .int (nI i)), (1, .int r), (0, .ref (E.1 + 41))] [] := by
    refine x_down _ (pn a) (fun i hi3 ih2 => ?_)
    intro r hr
    refine x_iload_n 0 d_X4_aboard_4 rfl rfl ?_
    refine x_aload_n 2 d_X4_aboard_5 rfl rfl ?_
    refine x_getr (j := 0) 42 x_c4 rfl (Nat.le_of_ble_eq_true rfl) q668 rfl d_X4_aboard_6 ?_
    refine x_bipush (x := 7) d_X4_aboard_9 (by decide) ?_
    refine x_ialdN (z := nI (pn a)) 58 7 rfl rfl (by omega) (by decide) ((hR 7 (by decide)).trans hn7) d_X4_aboard_11 ?_
    refine x_icmp_ge 41 d_X4_aboard_12 (by decide) (fun c4 => ?_) (fun c4 => ?_)
    · skip
      have hN := x_ge (N := pn a) c4 rfl rfl (by omega) (by omega)
      refine x_iload_n 1 d_X4_aboard_41 rfl rfl ?_
      refine x_iret rfl d_X4_aboard_42 ?_
      have e7 : i = pn a := by omega
      subst e7
      exact ⟨hr, rfl⟩
    · skip
      have hN := x_lt (N := pn a) c4 rfl rfl (by omega) (by omega)
      refine x_iload_n 1 d_X4_aboard_15 rfl rfl ?_
      refine x_aload_n 2 d_X4_aboard_16 rfl rfl ?_
      refine x_iload_n 0 d_X4_aboard_17 rfl rfl ?_
      refine x_iconst (x := 1) d_X4_aboard_18 (by decide) ?_
      refine x_cvip (k := 41) (as := [.int (nI i), .int 1]) (c_X4_told l E μ hR (p := i) (w := 1) (j := 24 + 3 * i + 1) rfl (by omega)) v_X4_told w_X4_told q755 o_M rfl ⟨Nat.le_of_ble_eq_true rfl, Nat.le_of_ble_eq_true rfl⟩ rfl (Nat.le_of_ble_eq_true rfl) d_X4_aboard_19 ?_
      refine x_iconst (x := (-1)) d_X4_aboard_22 (by decide) ?_
      refine x_icmp_ne 32 d_X4_aboard_23 (by decide) (fun c5 => ?_) (fun c5 => ?_)
      · skip
        refine x_iconst (x := 0) d_X4_aboard_32 (by decide) ?_
        refine x_ior d_X4_aboard_33 ?_
        refine x_istore_n [(1, .int (r ||| 0)), (2, .int (nI i)), (0, .ref (E.1 + 41))] d_X4_aboard_34 rfl (Nat.le_of_ble_eq_true rfl) rfl ?_
        refine x_iinc [(2, .int (nI (i + 1))), (1, .int (r ||| 0)), (0, .ref (E.1 + 41))] 1 d_X4_aboard_35 rfl (x_inc _) (Nat.le_of_ble_eq_true rfl) rfl ?_
        refine x_goto 4 d_X4_aboard_38 (by decide) ?_
        exact ih2 (i + 1) (by omega) (by omega) (r ||| 0) (by rw [hr, setTo, if_neg (by rw [decide_eq_false c5]; decide)]; exact or_0 _)
      · skip
        refine x_iconst (x := 1) d_X4_aboard_26 (by decide) ?_
        refine x_iload_n 0 d_X4_aboard_27 rfl rfl ?_
        refine x_ishl d_X4_aboard_28 ?_
        refine x_goto 33 d_X4_aboard_29 (by decide) ?_
        refine x_ior d_X4_aboard_33 ?_
        refine x_istore_n [(1, .int (r ||| (1 <<< ((nI i) &&& 31)))), (2, .int (nI i)), (0, .ref (E.1 + 41))] d_X4_aboard_34 rfl (Nat.le_of_ble_eq_true rfl) rfl ?_
        refine x_iinc [(2, .int (nI (i + 1))), (1, .int (r ||| (1 <<< ((nI i) &&& 31)))), (0, .ref (E.1 + 41))] 1 d_X4_aboard_35 rfl (x_inc _) (Nat.le_of_ble_eq_true rfl) rfl ?_
        refine x_goto 4 d_X4_aboard_38 (by decide) ?_
        exact ih2 (i + 1) (by omega) (by omega) (r ||| (1 <<< ((nI i) &&& 31))) (by rw [hr, setTo, if_pos (decide_eq_true c5)])
  exact L1 0 (by omega) 0 (by rfl)
def m_X4_allBelief : x_M := (yX4_allBelief, prog_6_method_37_code, 3, (some FieldType.int), 1, 22)
theorem v_X4_allBelief : x_VM m_X4_allBelief 0 := ⟨q854, q6, by decide +kernel, by decide +kernel, by decide +kernel⟩
theorem w_X4_allBelief : x_VI m_X4_allBelief := ⟨q853, qs38⟩
theorem d_X4_allBelief_0 : x_dec m_X4_allBelief 0 (.iconst 0) 1 1 := ⟨by decide +kernel, rfl⟩
theorem d_X4_allBelief_1 : x_dec m_X4_allBelief 1 (.istore_n 1) 1 2 := ⟨by decide +kernel, rfl⟩
theorem d_X4_allBelief_2 : x_dec m_X4_allBelief 2 (.iconst 0) 1 3 := ⟨by decide +kernel, rfl⟩
theorem d_X4_allBelief_3 : x_dec m_X4_allBelief 3 (.istore_n 2) 1 4 := ⟨by decide +kernel, rfl⟩
theorem d_X4_allBelief_4 : x_dec m_X4_allBelief 4 (.iload_n 2) 1 5 := ⟨by decide +kernel, rfl⟩
theorem d_X4_allBelief_5 : x_dec m_X4_allBelief 5 (.aload_n 0) 1 6 := ⟨by decide +kernel, rfl⟩
theorem d_X4_allBelief_6 : x_dec m_X4_allBelief 6 (.getfield 9) 3 9 := ⟨by decide +kernel, rfl⟩
theorem d_X4_allBelief_9 : x_dec m_X4_allBelief 9 (.bipush 7) 2 11 := ⟨by decide +kernel, rfl⟩
theorem d_X4_allBelief_11 : x_dec m_X4_allBelief 11 (.iaload) 1 12 := ⟨by decide +kernel, rfl⟩
theorem d_X4_allBelief_12 : x_dec m_X4_allBelief 12 (.if_icmp .ge 18) 3 15 := ⟨by decide +kernel, rfl⟩
theorem d_X4_allBelief_15 : x_dec m_X4_allBelief 15 (.iload_n 1) 1 16 := ⟨by decide +kernel, rfl⟩
theorem d_X4_allBelief_16 : x_dec m_X4_allBelief 16 (.aload_n 0) 1 17 := ⟨by decide +kernel, rfl⟩
theorem d_X4_allBelief_17 : x_dec m_X4_allBelief 17 (.iload_n 2) 1 18 := ⟨by decide +kernel, rfl⟩
theorem d_X4_allBelief_18 : x_dec m_X4_allBelief 18 (.iconst 2) 1 19 := ⟨by decide +kernel, rfl⟩
theorem d_X4_allBelief_19 : x_dec m_X4_allBelief 19 (.invokevirtual 50) 3 22 := ⟨by decide +kernel, rfl⟩
theorem d_X4_allBelief_22 : x_dec m_X4_allBelief 22 (.iadd) 1 23 := ⟨by decide +kernel, rfl⟩
theorem d_X4_allBelief_23 : x_dec m_X4_allBelief 23 (.istore_n 1) 1 24 := ⟨by decide +kernel, rfl⟩
theorem d_X4_allBelief_24 : x_dec m_X4_allBelief 24 (.iinc 2 1) 3 27 := ⟨by decide +kernel, rfl⟩
theorem d_X4_allBelief_27 : x_dec m_X4_allBelief 27 (.goto (-23)) 3 30 := ⟨by decide +kernel, rfl⟩
theorem d_X4_allBelief_30 : x_dec m_X4_allBelief 30 (.iload_n 1) 1 31 := ⟨by decide +kernel, rfl⟩
theorem d_X4_allBelief_31 : x_dec m_X4_allBelief 31 (.ireturn) 1 32 := ⟨by decide +kernel, rfl⟩
set_option maxHeartbeats 4000000 in
set_option maxRecDepth 100000 in
theorem c_X4_allBelief (l : Launch) (E : x_E) (μ : x_Mem) {a : x_St} (hR : MR a μ) (hI : WF a) : x_Met l m_X4_allBelief E [.ref (E.1 + 41)] μ (x_I (fun z m => z = beliefsF a ∧ m = μ)) := by
  have hn7 := hI.2.1
  have hpn := hI.1
  refine x_enter (lv := [(0, .ref (E.1 + 41))]) (by decide +kernel) (Nat.le_of_ble_eq_true rfl) rfl ?_
  refine x_iconst (x := 0) d_X4_allBelief_0 (by decide) ?_
  refine x_istore_n [(1, .int 0), (0, .ref (E.1 + 41))] d_X4_allBelief_1 rfl (Nat.le_of_ble_eq_true rfl) rfl ?_
  refine x_iconst (x := 0) d_X4_allBelief_2 (by decide) ?_
  refine x_istore_n [(2, .int 0), (1, .int 0), (0, .ref (E.1 + 41))] d_X4_allBelief_3 rfl (Nat.le_of_ble_eq_true rfl) rfl ?_
  have L1 : ∀ i : Nat, i ≤ pn a → ∀ r : Int32, (r = sumTo (fun p => a (24 + 3 * p + 2)) i) → x_G l E m_X4_allBelief (x_mv E m_X4_allBelief (x_I (fun z m => z = beliefsF a ∧ m = μ))) μ 4 [(2, .int (nI i)), (1, .int r), (0, .ref (E.1 + 41))] [] := by
    refine x_down _ (pn a) (fun i hi3 ih2 => ?_)
    intro r hr
    refine x_iload_n 0 d_X4_allBelief_4 rfl rfl ?_
    refine x_aload_n 2 d_X4_allBelief_5 rfl rfl ?_
    refine x_getr (j := 0) 42 x_c4 rfl (Nat.le_of_ble_eq_true rfl) q668 rfl d_X4_allBelief_6 ?_
    refine x_bipush (x := 7) d_X4_allBelief_9 (by decide) ?_
    refine x_ialdN (z := nI (pn a)) 58 7 rfl rfl (by omega) (by decide) ((hR 7 (by decide)).trans hn7) d_X4_allBelief_11 ?_
    refine x_icmp_ge 30 d_X4_allBelief_12 (by decide) (fun c4 => ?_) (fun c4 => ?_)
    · skip
      have hN := x_ge (N := pn a) c4 rfl rfl (by omega) (by omega)
      refine x_iload_n 1 d_X4_allBelief_30 rfl rfl ?_
      refine x_iret rfl d_X4_allBelief_31 ?_
      have e7 : i = pn a := by omega
      subst e7
      exact ⟨hr, rfl⟩
    · skip
      have hN := x_lt (N := pn a) c4 rfl rfl (by omega) (by omega)
      refine x_iload_n 1 d_X4_allBelief_15 rfl rfl ?_
      refine x_aload_n 2 d_X4_allBelief_16 rfl rfl ?_
      refine x_iload_n 0 d_X4_allBelief_17 rfl rfl ?_
      refine x_iconst (x := 2) d_X4_allBelief_18 (by decide) ?_
      refine x_cvip (k := 41) (as := [.int (nI i), .int 2]) (c_X4_told l E μ hR (p := i) (w := 2) (j := 24 + 3 * i + 2) rfl (by omega)) v_X4_told w_X4_told q755 o_M rfl ⟨Nat.le_of_ble_eq_true rfl, Nat.le_of_ble_eq_true rfl⟩ rfl (Nat.le_of_ble_eq_true rfl) d_X4_allBelief_19 ?_
      refine x_iadd d_X4_allBelief_22 ?_
      refine x_istore_n [(1, .int (r + (a (24 + 3 * i + 2)))), (2, .int (nI i)), (0, .ref (E.1 + 41))] d_X4_allBelief_23 rfl (Nat.le_of_ble_eq_true rfl) rfl ?_
      refine x_iinc [(2, .int (nI (i + 1))), (1, .int (r + (a (24 + 3 * i + 2)))), (0, .ref (E.1 + 41))] 1 d_X4_allBelief_24 rfl (x_inc _) (Nat.le_of_ble_eq_true rfl) rfl ?_
      refine x_goto 4 d_X4_allBelief_27 (by decide) ?_
      exact ih2 (i + 1) (by omega) (by omega) (r + (a (24 + 3 * i + 2))) (by rw [hr, sumTo])
  exact L1 0 (by omega) 0 (by rfl)
def m_X4_thinks : x_M := (yX4_thinks, prog_6_method_40_code, 1, none, 1, 22)
theorem v_X4_thinks : x_VM m_X4_thinks 0 := ⟨q862, q6, by decide +kernel, by decide +kernel, by decide +kernel⟩
theorem w_X4_thinks : x_VI m_X4_thinks := ⟨q861, qs39⟩
theorem d_X4_thinks_0 : x_dec m_X4_thinks 0 (.aload_n 0) 1 1 := ⟨by decide +kernel, rfl⟩
theorem d_X4_thinks_1 : x_dec m_X4_thinks 1 (.getfield 9) 3 4 := ⟨by decide +kernel, rfl⟩
theorem d_X4_thinks_4 : x_dec m_X4_thinks 4 (.aload_n 0) 1 5 := ⟨by decide +kernel, rfl⟩
theorem d_X4_thinks_5 : x_dec m_X4_thinks 5 (.getfield 16) 3 8 := ⟨by decide +kernel, rfl⟩
theorem d_X4_thinks_8 : x_dec m_X4_thinks 8 (.invokestatic 127) 3 11 := ⟨by decide +kernel, rfl⟩
theorem d_X4_thinks_11 : x_dec m_X4_thinks 11 (.return_) 1 12 := ⟨by decide +kernel, rfl⟩
set_option maxHeartbeats 4000000 in
set_option maxRecDepth 100000 in
theorem c_X4_thinks (l : Launch) (E : x_E) (μ : x_Mem) {a : x_St} (hR : MR a μ) : x_Met l m_X4_thinks E [.ref (E.1 + 41)] μ (x_J (fun m => MW a m ∧ ∀ id, id ≠ 44 → m id = μ id)) := by
  have hF : ∀ id, id ≠ 44 → μ id = μ id := fun _ _ => rfl
  refine x_enter (lv := [(0, .ref (E.1 + 41))]) (by decide +kernel) (Nat.le_of_ble_eq_true rfl) rfl ?_
  refine x_aload_n 0 d_X4_thinks_0 rfl rfl ?_
  refine x_getr (j := 0) 42 x_c4 rfl (Nat.le_of_ble_eq_true rfl) q668 rfl d_X4_thinks_1 ?_
  refine x_aload_n 0 d_X4_thinks_4 rfl rfl ?_
  refine x_getr (j := 2) 44 x_c4 rfl (Nat.le_of_ble_eq_true rfl) q670 rfl d_X4_thinks_5 ?_
  refine x_csv (as := [.ref (E.1 + 42), .ref (E.1 + 44)]) (c_X4_copyAll l E μ (k1 := 42) (k2 := 44) (by decide) rfl rfl rfl rfl) v_X4_copyAll q864 q863 rfl ⟨Nat.le_of_ble_eq_true rfl, Nat.le_of_ble_eq_true rfl⟩ rfl (Nat.le_of_ble_eq_true rfl) d_X4_thinks_8 ?_
  rintro μ1 ⟨hq2, hF3⟩
  have hW4 : MW a μ1 := fun j hj => (hq2 j hj).trans (hR j hj)
  have hR5 := MR.cg hR (μ' := μ1) (fun id hid => (hF3 _ (by omega)))
  have hF6 : ∀ id, id ≠ 44 → μ1 id = μ id := fun id hid => (show μ1 id = μ id from (hF3 _ (by omega))).trans (hF id hid)
  refine x_vret rfl d_X4_thinks_11 ?_
  exact ⟨hW4, hF6⟩
def m_X4_putsBack : x_M := (yX4_putsBack, prog_6_method_41_code, 1, none, 1, 22)
theorem v_X4_putsBack : x_VM m_X4_putsBack 0 := ⟨q873, q6, by decide +kernel, by decide +kernel, by decide +kernel⟩
theorem w_X4_putsBack : x_VI m_X4_putsBack := ⟨q872, qs41⟩
theorem d_X4_putsBack_0 : x_dec m_X4_putsBack 0 (.aload_n 0) 1 1 := ⟨by decide +kernel, rfl⟩
theorem d_X4_putsBack_1 : x_dec m_X4_putsBack 1 (.getfield 16) 3 4 := ⟨by decide +kernel, rfl⟩
theorem d_X4_putsBack_4 : x_dec m_X4_putsBack 4 (.aload_n 0) 1 5 := ⟨by decide +kernel, rfl⟩
theorem d_X4_putsBack_5 : x_dec m_X4_putsBack 5 (.getfield 9) 3 8 := ⟨by decide +kernel, rfl⟩
theorem d_X4_putsBack_8 : x_dec m_X4_putsBack 8 (.invokestatic 127) 3 11 := ⟨by decide +kernel, rfl⟩
theorem d_X4_putsBack_11 : x_dec m_X4_putsBack 11 (.return_) 1 12 := ⟨by decide +kernel, rfl⟩
set_option maxHeartbeats 4000000 in
set_option maxRecDepth 100000 in
theorem c_X4_putsBack (l : Launch) (E : x_E) (μ : x_Mem) {b : x_St} (hW : MW b μ) : x_Met l m_X4_putsBack E [.ref (E.1 + 41)] μ (x_J (fun m => MR b m ∧ ∀ id, id ≠ 42 → m id = μ id)) := by
  have hF : ∀ id, id ≠ 42 → μ id = μ id := fun _ _ => rfl
  refine x_enter (lv := [(0, .ref (E.1 + 41))]) (by decide +kernel) (Nat.le_of_ble_eq_true rfl) rfl ?_
  refine x_aload_n 0 d_X4_putsBack_0 rfl rfl ?_
  refine x_getr (j := 2) 44 x_c4 rfl (Nat.le_of_ble_eq_true rfl) q670 rfl d_X4_putsBack_1 ?_
  refine x_aload_n 0 d_X4_putsBack_4 rfl rfl ?_
  refine x_getr (j := 0) 42 x_c4 rfl (Nat.le_of_ble_eq_true rfl) q668 rfl d_X4_putsBack_5 ?_
  refine x_csv (as := [.ref (E.1 + 44), .ref (E.1 + 42)]) (c_X4_copyAll l E μ (k1 := 44) (k2 := 42) (by decide) rfl rfl rfl rfl) v_X4_copyAll q864 q863 rfl ⟨Nat.le_of_ble_eq_true rfl, Nat.le_of_ble_eq_true rfl⟩ rfl (Nat.le_of_ble_eq_true rfl) d_X4_putsBack_8 ?_
  rintro μ1 ⟨hq2, hF3⟩
  have hR4 : MR b μ1 := fun j hj => (hq2 j hj).trans (hW j hj)
  have hW5 := MW.cg hW (μ' := μ1) (fun id hid => (hF3 _ (by omega)))
  have hF6 : ∀ id, id ≠ 42 → μ1 id = μ id := fun id hid => (show μ1 id = μ id from (hF3 _ (by omega))).trans (hF id hid)
  refine x_vret rfl d_X4_putsBack_11 ?_
  exact ⟨hR4, hF6⟩
def m_X4_getsTo : x_M := (yX4_getsTo, prog_6_method_42_code, 3, (some FieldType.int), 9, 201)
theorem v_X4_getsTo : x_VM m_X4_getsTo 1 := ⟨q869, q6, by decide +kernel, by decide +kernel, by decide +kernel⟩
theorem w_X4_getsTo : x_VI m_X4_getsTo := ⟨q868, qs40⟩
theorem d_X4_getsTo_0 : x_dec m_X4_getsTo 0 (.aload_n 0) 1 1 := ⟨by decide +kernel, rfl⟩
theorem d_X4_getsTo_1 : x_dec m_X4_getsTo 1 (.iload_n 1) 1 2 := ⟨by decide +kernel, rfl⟩
theorem d_X4_getsTo_2 : x_dec m_X4_getsTo 2 (.invokevirtual 113) 3 5 := ⟨by decide +kernel, rfl⟩
theorem d_X4_getsTo_5 : x_dec m_X4_getsTo 5 (.aload_n 0) 1 6 := ⟨by decide +kernel, rfl⟩
theorem d_X4_getsTo_6 : x_dec m_X4_getsTo 6 (.getfield 9) 3 9 := ⟨by decide +kernel, rfl⟩
theorem d_X4_getsTo_9 : x_dec m_X4_getsTo 9 (.iconst 1) 1 10 := ⟨by decide +kernel, rfl⟩
theorem d_X4_getsTo_10 : x_dec m_X4_getsTo 10 (.iaload) 1 11 := ⟨by decide +kernel, rfl⟩
theorem d_X4_getsTo_11 : x_dec m_X4_getsTo 11 (.istore_n 2) 1 12 := ⟨by decide +kernel, rfl⟩
theorem d_X4_getsTo_12 : x_dec m_X4_getsTo 12 (.aload_n 0) 1 13 := ⟨by decide +kernel, rfl⟩
theorem d_X4_getsTo_13 : x_dec m_X4_getsTo 13 (.invokevirtual 131) 3 16 := ⟨by decide +kernel, rfl⟩
theorem d_X4_getsTo_16 : x_dec m_X4_getsTo 16 (.iload_n 2) 1 17 := ⟨by decide +kernel, rfl⟩
theorem d_X4_getsTo_17 : x_dec m_X4_getsTo 17 (.ireturn) 1 18 := ⟨by decide +kernel, rfl⟩
set_option maxHeartbeats 4000000 in
set_option maxRecDepth 100000 in
theorem c_X4_getsTo (l : Launch) (E : x_E) (μ : x_Mem) {a : x_St} (hR : MR a μ) (hI : WF a) {b : x_St} (hW : MW b μ) {h : Nat} (hh : h < 1000) : x_Met l m_X4_getsTo E [.ref (E.1 + 41), .int (nI h)] μ (x_I (fun z m => z = hoursF a h 1 ∧ MR b m ∧ MW b m ∧ ∀ id, (id ≠ 42 ∧ id ≠ 46) → m id = μ id)) := by
  have hn7 := hI.2.1
  have hpn := hI.1
  have hF : ∀ id, (id ≠ 42 ∧ id ≠ 46) → μ id = μ id := fun _ _ => rfl
  refine x_enter (lv := [(0, .ref (E.1 + 41)), (1, .int (nI h))]) (by decide +kernel) (Nat.le_of_ble_eq_true rfl) rfl ?_
  refine x_aload_n 0 d_X4_getsTo_0 rfl rfl ?_
  refine x_iload_n 1 d_X4_getsTo_1 rfl rfl ?_
  refine x_cvv (k := 41) (as := [.int (nI h)]) (c_X4_goesOn l E μ hR hI (h := h) (by omega)) v_X4_goesOn w_X4_goesOn q819 o_M rfl ⟨Nat.le_of_ble_eq_true rfl, Nat.le_of_ble_eq_true rfl⟩ rfl (Nat.le_of_ble_eq_true rfl) d_X4_getsTo_2 ?_
  rintro μ1 ⟨hR2, hF3⟩
  have hW4 := MW.cg hW (μ' := μ1) (fun id hid => (hF3 _ (by omega)))
  have hF5 : ∀ id, (id ≠ 42 ∧ id ≠ 46) → μ1 id = μ id := fun id hid => (show μ1 id = μ id from (hF3 _ (by omega))).trans (hF id hid)
  refine x_aload_n 0 d_X4_getsTo_5 rfl rfl ?_
  refine x_getr (j := 0) 42 x_c4 rfl (Nat.le_of_ble_eq_true rfl) q668 rfl d_X4_getsTo_6 ?_
  refine x_iconst (x := 1) d_X4_getsTo_9 (by decide) ?_
  refine x_ialdN (z := (hoursF a h) 1) 58 1 rfl rfl (by omega) (by decide) (hR2 1 (by omega)) d_X4_getsTo_10 ?_
  refine x_istore_n [(2, .int ((hoursF a h) 1)), (0, .ref (E.1 + 41)), (1, .int (nI h))] d_X4_getsTo_11 rfl (Nat.le_of_ble_eq_true rfl) rfl ?_
  refine x_aload_n 1 d_X4_getsTo_12 rfl rfl ?_
  refine x_cvv (k := 41) (as := []) (c_X4_putsBack l E μ1 hW4) v_X4_putsBack w_X4_putsBack q870 o_M rfl ⟨Nat.le_of_ble_eq_true rfl, Nat.le_of_ble_eq_true rfl⟩ rfl (Nat.le_of_ble_eq_true rfl) d_X4_getsTo_13 ?_
  rintro μ6 ⟨hR7, hF8⟩
  have hW9 := MW.cg hW4 (μ' := μ6) (fun id hid => (hF8 _ (by omega)))
  have hF10 : ∀ id, (id ≠ 42 ∧ id ≠ 46) → μ6 id = μ id := fun id hid => (show μ6 id = μ1 id from (hF8 _ (by omega))).trans (hF5 id hid)
  refine x_iload_n 0 d_X4_getsTo_16 rfl rfl ?_
  refine x_iret rfl d_X4_getsTo_17 ?_
  exact ⟨rfl, hR7, hW9, hF10⟩
def m_X4_need : x_M := (yX4_need, prog_6_method_21_code, 3, (some FieldType.int), 2, 42)
theorem v_X4_need : x_VM m_X4_need 2 := ⟨q723, q6, by decide +kernel, by decide +kernel, by decide +kernel⟩
theorem w_X4_need : x_VI m_X4_need := ⟨q721, q722⟩
theorem d_X4_need_0 : x_dec m_X4_need 0 (.iload_n 1) 1 1 := ⟨by decide +kernel, rfl⟩
theorem d_X4_need_1 : x_dec m_X4_need 1 (.invokestatic 78) 3 4 := ⟨by decide +kernel, rfl⟩
theorem d_X4_need_4 : x_dec m_X4_need 4 (.ifCond .eq 26) 3 7 := ⟨by decide +kernel, rfl⟩
theorem d_X4_need_7 : x_dec m_X4_need 7 (.iload_n 2) 1 8 := ⟨by decide +kernel, rfl⟩
theorem d_X4_need_8 : x_dec m_X4_need 8 (.iconst 0) 1 9 := ⟨by decide +kernel, rfl⟩
theorem d_X4_need_9 : x_dec m_X4_need 9 (.sipush 999) 3 12 := ⟨by decide +kernel, rfl⟩
theorem d_X4_need_12 : x_dec m_X4_need 12 (.invokestatic 46) 3 15 := ⟨by decide +kernel, rfl⟩
theorem d_X4_need_15 : x_dec m_X4_need 15 (.ifCond .eq 15) 3 18 := ⟨by decide +kernel, rfl⟩
theorem d_X4_need_18 : x_dec m_X4_need 18 (.aload_n 0) 1 19 := ⟨by decide +kernel, rfl⟩
theorem d_X4_need_19 : x_dec m_X4_need 19 (.bipush 8) 2 21 := ⟨by decide +kernel, rfl⟩
theorem d_X4_need_21 : x_dec m_X4_need 21 (.iload_n 1) 1 22 := ⟨by decide +kernel, rfl⟩
theorem d_X4_need_22 : x_dec m_X4_need 22 (.iadd) 1 23 := ⟨by decide +kernel, rfl⟩
theorem d_X4_need_23 : x_dec m_X4_need 23 (.iload_n 2) 1 24 := ⟨by decide +kernel, rfl⟩
theorem d_X4_need_24 : x_dec m_X4_need 24 (.invokevirtual 81) 3 27 := ⟨by decide +kernel, rfl⟩
theorem d_X4_need_27 : x_dec m_X4_need 27 (.goto 9) 3 30 := ⟨by decide +kernel, rfl⟩
theorem d_X4_need_30 : x_dec m_X4_need 30 (.aload_n 0) 1 31 := ⟨by decide +kernel, rfl⟩
theorem d_X4_need_31 : x_dec m_X4_need 31 (.ldc 40) 2 33 := ⟨by decide +kernel, rfl⟩
theorem d_X4_need_33 : x_dec m_X4_need 33 (.invokevirtual 42) 3 36 := ⟨by decide +kernel, rfl⟩
theorem d_X4_need_36 : x_dec m_X4_need 36 (.ireturn) 1 37 := ⟨by decide +kernel, rfl⟩
set_option maxHeartbeats 4000000 in
set_option maxRecDepth 100000 in
theorem c_X4_need (l : Launch) (E : x_E) (μ : x_Mem) (g : x_SG) (hS : MS g μ) (hI : Inv g) (k v : Int32) : x_Met l m_X4_need E [.ref (E.1 + 41), .int k, .int v] μ (x_I (fun z m => z = (F_need g k v).1 ∧ MS (F_need g k v).2 m ∧ ∀ id, id < 41 → m id = μ id)) := by
  obtain ⟨hR, hX, hD⟩ := hS
  have hWF := hI.1.1
  have hn7 := hWF.2.1
  have hpn := hWF.1
  have hF : ∀ id, id < 41 → μ id = μ id := fun _ _ => rfl
  refine x_enter (lv := [(0, .ref (E.1 + 41)), (1, .int k), (2, .int v)]) (by decide +kernel) (Nat.le_of_ble_eq_true rfl) rfl ?_
  refine x_iload_n 1 d_X4_need_0 rfl rfl ?_
  refine x_csip (as := [.int k]) (c_X4_isStretch l E μ k) v_X4_isStretch q725 q724 rfl ⟨Nat.le_of_ble_eq_true rfl, Nat.le_of_ble_eq_true rfl⟩ rfl (Nat.le_of_ble_eq_true rfl) d_X4_need_1 ?_
  refine x_ifb_eq 30 d_X4_need_4 (by decide) (fun c1 => ?_) (fun c1 => ?_)
  · skip
    refine x_aload_n 0 d_X4_need_30 rfl rfl ?_
    refine x_ldc q734 d_X4_need_31 ?_
    refine x_cvi (k := 41) (as := [.int (-1000001)]) (c_X4_finds l E μ (i := 0) hD (by decide) (w := (-1000001)) (by decide)) v_X4_finds w_X4_finds q735 o_M rfl ⟨Nat.le_of_ble_eq_true rfl, Nat.le_of_ble_eq_true rfl⟩ rfl (Nat.le_of_ble_eq_true rfl) d_X4_need_33 ?_
    rintro _ μ2 ⟨rfl, hD3, hF4⟩
    have hR5 := MR.cg hR (μ' := μ2) (fun id hid => (hF4 _ (by omega)))
    have hX6 := MX.cg hX (μ' := μ2) (fun id hid => (hF4 _ (by omega)))
    have hF7 : ∀ id, id < 41 → μ2 id = μ id := fun id hid => (show μ2 id = μ id from (hF4 _ (by omega))).trans (hF id hid)
    refine x_iret rfl d_X4_need_36 ?_
    have e9 : F_need g k v = fin g 0 := by simp [F_need, x_b_f, x_b_t, c1]
    rw [e9]
    exact ⟨rfl, MS.fin hR5 hX6 hD3, hF7⟩
  · skip
    obtain ⟨n, hn, rfl⟩ := inR_nat (n := 15) (by decide) c1
    refine x_iload_n 2 d_X4_need_7 rfl rfl ?_
    refine x_iconst (x := 0) d_X4_need_8 (by decide) ?_
    refine x_sipush (x := 999) d_X4_need_9 (by decide) ?_
    refine x_csip (as := [.int v, .int 0, .int 999]) (c_X4_in l E μ v 0 999) v_X4_in q728 q727 rfl ⟨Nat.le_of_ble_eq_true rfl, Nat.le_of_ble_eq_true rfl⟩ rfl (Nat.le_of_ble_eq_true rfl) d_X4_need_12 ?_
    refine x_ifb_eq 30 d_X4_need_15 (by decide) (fun c8 => ?_) (fun c8 => ?_)
    · skip
      refine x_aload_n 0 d_X4_need_30 rfl rfl ?_
      refine x_ldc q734 d_X4_need_31 ?_
      refine x_cvi (k := 41) (as := [.int (-1000001)]) (c_X4_finds l E μ (i := 0) hD (by decide) (w := (-1000001)) (by decide)) v_X4_finds w_X4_finds q735 o_M rfl ⟨Nat.le_of_ble_eq_true rfl, Nat.le_of_ble_eq_true rfl⟩ rfl (Nat.le_of_ble_eq_true rfl) d_X4_need_33 ?_
      rintro _ μ9 ⟨rfl, hD10, hF11⟩
      have hR12 := MR.cg hR (μ' := μ9) (fun id hid => (hF11 _ (by omega)))
      have hX13 := MX.cg hX (μ' := μ9) (fun id hid => (hF11 _ (by omega)))
      have hF14 : ∀ id, id < 41 → μ9 id = μ id := fun id hid => (show μ9 id = μ id from (hF11 _ (by omega))).trans (hF id hid)
      refine x_iret rfl d_X4_need_36 ?_
      have e9 : F_need g (nI n) v = fin g 0 := by simp [F_need, x_b_f, x_b_t, c1, c8, nI_clamp (n := n) (by omega)]
      rw [e9]
      exact ⟨rfl, MS.fin hR12 hX13 hD10, hF14⟩
    · skip
      refine x_aload_n 0 d_X4_need_18 rfl rfl ?_
      refine x_bipush (x := 8) d_X4_need_19 (by decide) ?_
      refine x_iload_n 1 d_X4_need_21 rfl rfl ?_
      refine x_iadd d_X4_need_22 ?_
      rw [show (8 : Int32) + (nI n) = nI (8 + n) from nI_add 8 n]
      refine x_iload_n 2 d_X4_need_23 rfl rfl ?_
      refine x_cvi (k := 41) (as := [.int (nI (8 + n)), .int v]) (c_X4_becomes l E μ hR (j := (8 + n)) (by omega) v) v_X4_becomes w_X4_becomes q730 o_M rfl ⟨Nat.le_of_ble_eq_true rfl, Nat.le_of_ble_eq_true rfl⟩ rfl (Nat.le_of_ble_eq_true rfl) d_X4_need_24 ?_
      rintro _ μ15 ⟨rfl, eμ15⟩
      have hR16 : MR (upd (gA g) ((8 + n)) v) μ15 := MR.w hR eμ15
      have hX17 := MX.cg hX (μ' := μ15) (fun id hid => (by rw [eμ15, upd2_ne _ _ _ (by omega)]))
      have hD18 := MD.cg hD (μ' := μ15) (fun id hid => (by rw [eμ15, upd2_ne _ _ _ (by omega)]))
      have hF19 : ∀ id, id < 41 → μ15 id = μ id := fun id hid => (show μ15 id = μ id from (by rw [eμ15, upd2_ne _ _ _ (by omega)])).trans (hF id hid)
      refine x_goto 36 d_X4_need_27 (by decide) ?_
      refine x_iret rfl d_X4_need_36 ?_
      have e9 : F_need g (nI n) v = ((gA g) ((8 + n)), sA g (upd (gA g) ((8 + n)) v)) := by simp [F_need, x_b_f, x_b_t, c1, c8, nI_clamp (n := n) (by omega)]
      rw [e9]
      exact ⟨rfl, MS.line hR16 hX17 hD18, hF19⟩
def m_X4_board : x_M := (yX4_board, prog_6_method_29_code, 2, (some FieldType.int), 2, 43)
theorem v_X4_board : x_VM m_X4_board 1 := ⟨q809, q6, by decide +kernel, by decide +kernel, by decide +kernel⟩
theorem w_X4_board : x_VI m_X4_board := ⟨q807, q808⟩
theorem d_X4_board_0 : x_dec m_X4_board 0 (.aload_n 0) 1 1 := ⟨by decide +kernel, rfl⟩
theorem d_X4_board_1 : x_dec m_X4_board 1 (.iload_n 1) 1 2 := ⟨by decide +kernel, rfl⟩
theorem d_X4_board_2 : x_dec m_X4_board 2 (.invokevirtual 92) 3 5 := ⟨by decide +kernel, rfl⟩
theorem d_X4_board_5 : x_dec m_X4_board 5 (.ifCond .ne 10) 3 8 := ⟨by decide +kernel, rfl⟩
theorem d_X4_board_8 : x_dec m_X4_board 8 (.aload_n 0) 1 9 := ⟨by decide +kernel, rfl⟩
theorem d_X4_board_9 : x_dec m_X4_board 9 (.ldc 40) 2 11 := ⟨by decide +kernel, rfl⟩
theorem d_X4_board_11 : x_dec m_X4_board 11 (.invokevirtual 42) 3 14 := ⟨by decide +kernel, rfl⟩
theorem d_X4_board_14 : x_dec m_X4_board 14 (.ireturn) 1 15 := ⟨by decide +kernel, rfl⟩
theorem d_X4_board_15 : x_dec m_X4_board 15 (.aload_n 0) 1 16 := ⟨by decide +kernel, rfl⟩
theorem d_X4_board_16 : x_dec m_X4_board 16 (.iload_n 1) 1 17 := ⟨by decide +kernel, rfl⟩
theorem d_X4_board_17 : x_dec m_X4_board 17 (.iconst 1) 1 18 := ⟨by decide +kernel, rfl⟩
theorem d_X4_board_18 : x_dec m_X4_board 18 (.invokevirtual 50) 3 21 := ⟨by decide +kernel, rfl⟩
theorem d_X4_board_21 : x_dec m_X4_board 21 (.aload_n 0) 1 22 := ⟨by decide +kernel, rfl⟩
theorem d_X4_board_22 : x_dec m_X4_board 22 (.getfield 9) 3 25 := ⟨by decide +kernel, rfl⟩
theorem d_X4_board_25 : x_dec m_X4_board 25 (.iconst 1) 1 26 := ⟨by decide +kernel, rfl⟩
theorem d_X4_board_26 : x_dec m_X4_board 26 (.iaload) 1 27 := ⟨by decide +kernel, rfl⟩
theorem d_X4_board_27 : x_dec m_X4_board 27 (.if_icmp .eq 10) 3 30 := ⟨by decide +kernel, rfl⟩
theorem d_X4_board_30 : x_dec m_X4_board 30 (.aload_n 0) 1 31 := ⟨by decide +kernel, rfl⟩
theorem d_X4_board_31 : x_dec m_X4_board 31 (.ldc 99) 2 33 := ⟨by decide +kernel, rfl⟩
theorem d_X4_board_33 : x_dec m_X4_board 33 (.invokevirtual 42) 3 36 := ⟨by decide +kernel, rfl⟩
theorem d_X4_board_36 : x_dec m_X4_board 36 (.ireturn) 1 37 := ⟨by decide +kernel, rfl⟩
theorem d_X4_board_37 : x_dec m_X4_board 37 (.aload_n 0) 1 38 := ⟨by decide +kernel, rfl⟩
theorem d_X4_board_38 : x_dec m_X4_board 38 (.iload_n 1) 1 39 := ⟨by decide +kernel, rfl⟩
theorem d_X4_board_39 : x_dec m_X4_board 39 (.iconst 1) 1 40 := ⟨by decide +kernel, rfl⟩
theorem d_X4_board_40 : x_dec m_X4_board 40 (.iconst (-1)) 1 41 := ⟨by decide +kernel, rfl⟩
theorem d_X4_board_41 : x_dec m_X4_board 41 (.invokevirtual 84) 3 44 := ⟨by decide +kernel, rfl⟩
theorem d_X4_board_44 : x_dec m_X4_board 44 (.iconst 1) 1 45 := ⟨by decide +kernel, rfl⟩
theorem d_X4_board_45 : x_dec m_X4_board 45 (.ireturn) 1 46 := ⟨by decide +kernel, rfl⟩
set_option maxHeartbeats 4000000 in
set_option maxRecDepth 100000 in
theorem c_X4_board (l : Launch) (E : x_E) (μ : x_Mem) (g : x_SG) (hS : MS g μ) (hI : Inv g) (p : Int32) : x_Met l m_X4_board E [.ref (E.1 + 41), .int p] μ (x_I (fun z m => z = (F_board g p).1 ∧ MS (F_board g p).2 m ∧ ∀ id, id < 41 → m id = μ id)) := by
  obtain ⟨hR, hX, hD⟩ := hS
  have hWF := hI.1.1
  have hn7 := hWF.2.1
  have hpn := hWF.1
  have hF : ∀ id, id < 41 → μ id = μ id := fun _ _ => rfl
  refine x_enter (lv := [(0, .ref (E.1 + 41)), (1, .int p)]) (by decide +kernel) (Nat.le_of_ble_eq_true rfl) rfl ?_
  refine x_aload_n 0 d_X4_board_0 rfl rfl ?_
  refine x_iload_n 1 d_X4_board_1 rfl rfl ?_
  refine x_cvip (k := 41) (as := [.int p]) (c_X4_isOne l E μ hR hWF p) v_X4_isOne w_X4_isOne q791 o_M rfl ⟨Nat.le_of_ble_eq_true rfl, Nat.le_of_ble_eq_true rfl⟩ rfl (Nat.le_of_ble_eq_true rfl) d_X4_board_2 ?_
  refine x_ifb_ne 15 d_X4_board_5 (by decide) (fun c1 => ?_) (fun c1 => ?_)
  · skip
    obtain ⟨q, hq, rfl⟩ := isP_nat hWF c1
    refine x_aload_n 0 d_X4_board_15 rfl rfl ?_
    refine x_iload_n 1 d_X4_board_16 rfl rfl ?_
    refine x_iconst (x := 1) d_X4_board_17 (by decide) ?_
    refine x_cvip (k := 41) (as := [.int (nI q), .int 1]) (c_X4_told l E μ hR (p := q) (w := 1) (j := 24 + 3 * q + 1) rfl (by omega)) v_X4_told w_X4_told q755 o_M rfl ⟨Nat.le_of_ble_eq_true rfl, Nat.le_of_ble_eq_true rfl⟩ rfl (Nat.le_of_ble_eq_true rfl) d_X4_board_18 ?_
    refine x_aload_n 0 d_X4_board_21 rfl rfl ?_
    refine x_getr (j := 0) 42 x_c4 rfl (Nat.le_of_ble_eq_true rfl) q668 rfl d_X4_board_22 ?_
    refine x_iconst (x := 1) d_X4_board_25 (by decide) ?_
    refine x_ialdN (z := (gA g) 1) 58 1 rfl rfl (by omega) (by decide) (hR 1 (by omega)) d_X4_board_26 ?_
    refine x_icmp_eq 37 d_X4_board_27 (by decide) (fun c2 => ?_) (fun c2 => ?_)
    · skip
      refine x_aload_n 0 d_X4_board_37 rfl rfl ?_
      refine x_iload_n 1 d_X4_board_38 rfl rfl ?_
      refine x_iconst (x := 1) d_X4_board_39 (by decide) ?_
      refine x_iconst (x := (-1)) d_X4_board_40 (by decide) ?_
      refine x_cvv (k := 41) (as := [.int (nI q), .int 1, .int (-1)]) (c_X4_put l E μ (p := q) (w := 1) (j := 24 + 3 * q + 1) rfl (by omega) (-1)) v_X4_put w_X4_put q783 o_M rfl ⟨Nat.le_of_ble_eq_true rfl, Nat.le_of_ble_eq_true rfl⟩ rfl (Nat.le_of_ble_eq_true rfl) d_X4_board_41 ?_
      intro μ3 eμ3
      have hR4 : MR (upd (gA g) (24 + 3 * q + 1) (-1)) μ3 := MR.w hR eμ3
      have hX5 := MX.cg hX (μ' := μ3) (fun id hid => (by rw [eμ3, upd2_ne _ _ _ (by omega)]))
      have hD6 := MD.cg hD (μ' := μ3) (fun id hid => (by rw [eμ3, upd2_ne _ _ _ (by omega)]))
      have hF7 : ∀ id, id < 41 → μ3 id = μ id := fun id hid => (show μ3 id = μ id from (by rw [eμ3, upd2_ne _ _ _ (by omega)])).trans (hF id hid)
      refine x_iconst (x := 1) d_X4_board_44 (by decide) ?_
      refine x_iret rfl d_X4_board_45 ?_
      have e9 : F_board g (nI q) = (1, sA g (upd (gA g) (24 + 3 * q + 1) (-1))) := by simp [F_board, x_b_f, x_b_t, c1, c2, nI_clamp (n := q) (by omega)]
      rw [e9]
      exact ⟨rfl, MS.line hR4 hX5 hD6, hF7⟩
    · skip
      refine x_aload_n 0 d_X4_board_30 rfl rfl ?_
      refine x_ldc q810 d_X4_board_31 ?_
      refine x_cvi (k := 41) (as := [.int (-1000005)]) (c_X4_finds l E μ (i := 4) hD (by decide) (w := (-1000005)) (by decide)) v_X4_finds w_X4_finds q735 o_M rfl ⟨Nat.le_of_ble_eq_true rfl, Nat.le_of_ble_eq_true rfl⟩ rfl (Nat.le_of_ble_eq_true rfl) d_X4_board_33 ?_
      rintro _ μ8 ⟨rfl, hD9, hF10⟩
      have hR11 := MR.cg hR (μ' := μ8) (fun id hid => (hF10 _ (by omega)))
      have hX12 := MX.cg hX (μ' := μ8) (fun id hid => (hF10 _ (by omega)))
      have hF13 : ∀ id, id < 41 → μ8 id = μ id := fun id hid => (show μ8 id = μ id from (hF10 _ (by omega))).trans (hF id hid)
      refine x_iret rfl d_X4_board_36 ?_
      have e9 : F_board g (nI q) = fin g 4 := by simp [F_board, x_b_f, x_b_t, c1, c2, nI_clamp (n := q) (by omega)]
      rw [e9]
      exact ⟨rfl, MS.fin hR11 hX12 hD9, hF13⟩
  · skip
    refine x_aload_n 0 d_X4_board_8 rfl rfl ?_
    refine x_ldc q734 d_X4_board_9 ?_
    refine x_cvi (k := 41) (as := [.int (-1000001)]) (c_X4_finds l E μ (i := 0) hD (by decide) (w := (-1000001)) (by decide)) v_X4_finds w_X4_finds q735 o_M rfl ⟨Nat.le_of_ble_eq_true rfl, Nat.le_of_ble_eq_true rfl⟩ rfl (Nat.le_of_ble_eq_true rfl) d_X4_board_11 ?_
    rintro _ μ14 ⟨rfl, hD15, hF16⟩
    have hR17 := MR.cg hR (μ' := μ14) (fun id hid => (hF16 _ (by omega)))
    have hX18 := MX.cg hX (μ' := μ14) (fun id hid => (hF16 _ (by omega)))
    have hF19 : ∀ id, id < 41 → μ14 id = μ id := fun id hid => (show μ14 id = μ id from (hF16 _ (by omega))).trans (hF id hid)
    refine x_iret rfl d_X4_board_14 ?_
    have e9 : F_board g p = fin g 0 := by simp [F_board, x_b_f, x_b_t, c1]
    rw [e9]
    exact ⟨rfl, MS.fin hR17 hX18 hD15, hF19⟩
def m_X4_leave : x_M := (yX4_leave, prog_6_method_30_code, 2, (some FieldType.int), 2, 43)
theorem v_X4_leave : x_VM m_X4_leave 1 := ⟨q814, q6, by decide +kernel, by decide +kernel, by decide +kernel⟩
theorem w_X4_leave : x_VI m_X4_leave := ⟨q812, q813⟩
theorem d_X4_leave_0 : x_dec m_X4_leave 0 (.aload_n 0) 1 1 := ⟨by decide +kernel, rfl⟩
theorem d_X4_leave_1 : x_dec m_X4_leave 1 (.iload_n 1) 1 2 := ⟨by decide +kernel, rfl⟩
theorem d_X4_leave_2 : x_dec m_X4_leave 2 (.invokevirtual 92) 3 5 := ⟨by decide +kernel, rfl⟩
theorem d_X4_leave_5 : x_dec m_X4_leave 5 (.ifCond .ne 10) 3 8 := ⟨by decide +kernel, rfl⟩
theorem d_X4_leave_8 : x_dec m_X4_leave 8 (.aload_n 0) 1 9 := ⟨by decide +kernel, rfl⟩
theorem d_X4_leave_9 : x_dec m_X4_leave 9 (.ldc 40) 2 11 := ⟨by decide +kernel, rfl⟩
theorem d_X4_leave_11 : x_dec m_X4_leave 11 (.invokevirtual 42) 3 14 := ⟨by decide +kernel, rfl⟩
theorem d_X4_leave_14 : x_dec m_X4_leave 14 (.ireturn) 1 15 := ⟨by decide +kernel, rfl⟩
theorem d_X4_leave_15 : x_dec m_X4_leave 15 (.aload_n 0) 1 16 := ⟨by decide +kernel, rfl⟩
theorem d_X4_leave_16 : x_dec m_X4_leave 16 (.iload_n 1) 1 17 := ⟨by decide +kernel, rfl⟩
theorem d_X4_leave_17 : x_dec m_X4_leave 17 (.iconst 1) 1 18 := ⟨by decide +kernel, rfl⟩
theorem d_X4_leave_18 : x_dec m_X4_leave 18 (.invokevirtual 50) 3 21 := ⟨by decide +kernel, rfl⟩
theorem d_X4_leave_21 : x_dec m_X4_leave 21 (.iconst (-1)) 1 22 := ⟨by decide +kernel, rfl⟩
theorem d_X4_leave_22 : x_dec m_X4_leave 22 (.if_icmp .eq 10) 3 25 := ⟨by decide +kernel, rfl⟩
theorem d_X4_leave_25 : x_dec m_X4_leave 25 (.aload_n 0) 1 26 := ⟨by decide +kernel, rfl⟩
theorem d_X4_leave_26 : x_dec m_X4_leave 26 (.ldc 99) 2 28 := ⟨by decide +kernel, rfl⟩
theorem d_X4_leave_28 : x_dec m_X4_leave 28 (.invokevirtual 42) 3 31 := ⟨by decide +kernel, rfl⟩
theorem d_X4_leave_31 : x_dec m_X4_leave 31 (.ireturn) 1 32 := ⟨by decide +kernel, rfl⟩
theorem d_X4_leave_32 : x_dec m_X4_leave 32 (.aload_n 0) 1 33 := ⟨by decide +kernel, rfl⟩
theorem d_X4_leave_33 : x_dec m_X4_leave 33 (.iload_n 1) 1 34 := ⟨by decide +kernel, rfl⟩
theorem d_X4_leave_34 : x_dec m_X4_leave 34 (.iconst 1) 1 35 := ⟨by decide +kernel, rfl⟩
theorem d_X4_leave_35 : x_dec m_X4_leave 35 (.aload_n 0) 1 36 := ⟨by decide +kernel, rfl⟩
theorem d_X4_leave_36 : x_dec m_X4_leave 36 (.getfield 9) 3 39 := ⟨by decide +kernel, rfl⟩
theorem d_X4_leave_39 : x_dec m_X4_leave 39 (.iconst 1) 1 40 := ⟨by decide +kernel, rfl⟩
theorem d_X4_leave_40 : x_dec m_X4_leave 40 (.iaload) 1 41 := ⟨by decide +kernel, rfl⟩
theorem d_X4_leave_41 : x_dec m_X4_leave 41 (.invokevirtual 84) 3 44 := ⟨by decide +kernel, rfl⟩
theorem d_X4_leave_44 : x_dec m_X4_leave 44 (.aload_n 0) 1 45 := ⟨by decide +kernel, rfl⟩
theorem d_X4_leave_45 : x_dec m_X4_leave 45 (.getfield 9) 3 48 := ⟨by decide +kernel, rfl⟩
theorem d_X4_leave_48 : x_dec m_X4_leave 48 (.iconst 1) 1 49 := ⟨by decide +kernel, rfl⟩
theorem d_X4_leave_49 : x_dec m_X4_leave 49 (.iaload) 1 50 := ⟨by decide +kernel, rfl⟩
theorem d_X4_leave_50 : x_dec m_X4_leave 50 (.ireturn) 1 51 := ⟨by decide +kernel, rfl⟩
set_option maxHeartbeats 4000000 in
set_option maxRecDepth 100000 in
theorem c_X4_leave (l : Launch) (E : x_E) (μ : x_Mem) (g : x_SG) (hS : MS g μ) (hI : Inv g) (p : Int32) : x_Met l m_X4_leave E [.ref (E.1 + 41), .int p] μ (x_I (fun z m => z = (F_leave g p).1 ∧ MS (F_leave g p).2 m ∧ ∀ id, id < 41 → m id = μ id)) := by
  obtain ⟨hR, hX, hD⟩ := hS
  have hWF := hI.1.1
  have hn7 := hWF.2.1
  have hpn := hWF.1
  have hF : ∀ id, id < 41 → μ id = μ id := fun _ _ => rfl
  refine x_enter (lv := [(0, .ref (E.1 + 41)), (1, .int p)]) (by decide +kernel) (Nat.le_of_ble_eq_true rfl) rfl ?_
  refine x_aload_n 0 d_X4_leave_0 rfl rfl ?_
  refine x_iload_n 1 d_X4_leave_1 rfl rfl ?_
  refine x_cvip (k := 41) (as := [.int p]) (c_X4_isOne l E μ hR hWF p) v_X4_isOne w_X4_isOne q791 o_M rfl ⟨Nat.le_of_ble_eq_true rfl, Nat.le_of_ble_eq_true rfl⟩ rfl (Nat.le_of_ble_eq_true rfl) d_X4_leave_2 ?_
  refine x_ifb_ne 15 d_X4_leave_5 (by decide) (fun c1 => ?_) (fun c1 => ?_)
  · skip
    obtain ⟨q, hq, rfl⟩ := isP_nat hWF c1
    refine x_aload_n 0 d_X4_leave_15 rfl rfl ?_
    refine x_iload_n 1 d_X4_leave_16 rfl rfl ?_
    refine x_iconst (x := 1) d_X4_leave_17 (by decide) ?_
    refine x_cvip (k := 41) (as := [.int (nI q), .int 1]) (c_X4_told l E μ hR (p := q) (w := 1) (j := 24 + 3 * q + 1) rfl (by omega)) v_X4_told w_X4_told q755 o_M rfl ⟨Nat.le_of_ble_eq_true rfl, Nat.le_of_ble_eq_true rfl⟩ rfl (Nat.le_of_ble_eq_true rfl) d_X4_leave_18 ?_
    refine x_iconst (x := (-1)) d_X4_leave_21 (by decide) ?_
    refine x_icmp_eq 32 d_X4_leave_22 (by decide) (fun c2 => ?_) (fun c2 => ?_)
    · skip
      refine x_aload_n 0 d_X4_leave_32 rfl rfl ?_
      refine x_iload_n 1 d_X4_leave_33 rfl rfl ?_
      refine x_iconst (x := 1) d_X4_leave_34 (by decide) ?_
      refine x_aload_n 0 d_X4_leave_35 rfl rfl ?_
      refine x_getr (j := 0) 42 x_c4 rfl (Nat.le_of_ble_eq_true rfl) q668 rfl d_X4_leave_36 ?_
      refine x_iconst (x := 1) d_X4_leave_39 (by decide) ?_
      refine x_ialdN (z := (gA g) 1) 58 1 rfl rfl (by omega) (by decide) (hR 1 (by omega)) d_X4_leave_40 ?_
      refine x_cvv (k := 41) (as := [.int (nI q), .int 1, .int ((gA g) 1)]) (c_X4_put l E μ (p := q) (w := 1) (j := 24 + 3 * q + 1) rfl (by omega) ((gA g) 1)) v_X4_put w_X4_put q783 o_M rfl ⟨Nat.le_of_ble_eq_true rfl, Nat.le_of_ble_eq_true rfl⟩ rfl (Nat.le_of_ble_eq_true rfl) d_X4_leave_41 ?_
      intro μ3 eμ3
      have hR4 : MR (upd (gA g) (24 + 3 * q + 1) ((gA g) 1)) μ3 := MR.w hR eμ3
      have hX5 := MX.cg hX (μ' := μ3) (fun id hid => (by rw [eμ3, upd2_ne _ _ _ (by omega)]))
      have hD6 := MD.cg hD (μ' := μ3) (fun id hid => (by rw [eμ3, upd2_ne _ _ _ (by omega)]))
      have hF7 : ∀ id, id < 41 → μ3 id = μ id := fun id hid => (show μ3 id = μ id from (by rw [eμ3, upd2_ne _ _ _ (by omega)])).trans (hF id hid)
      refine x_aload_n 0 d_X4_leave_44 rfl rfl ?_
      refine x_getr (j := 0) 42 x_c4 rfl (Nat.le_of_ble_eq_true rfl) q668 rfl d_X4_leave_45 ?_
      refine x_iconst (x := 1) d_X4_leave_48 (by decide) ?_
      refine x_ialdN (z := (upd (gA g) (24 + 3 * q + 1) ((gA g) 1)) 1) 58 1 rfl rfl (by omega) (by decide) (hR4 1 (by omega)) d_X4_leave_49 ?_
      refine x_iret rfl d_X4_leave_50 ?_
      have e9 : F_leave g (nI q) = ((upd (gA g) (24 + 3 * q + 1) ((gA g) 1)) 1, sA g (upd (gA g) (24 + 3 * q + 1) ((gA g) 1))) := by simp [F_leave, x_b_f, x_b_t, c1, c2, nI_clamp (n := q) (by omega), show upd (gA g) (24 + 3 * q + 1) (gA g 1) 1 = gA g 1 from upd_n _ _ (by omega)]
      rw [e9]
      exact ⟨rfl, MS.line hR4 hX5 hD6, hF7⟩
    · skip
      refine x_aload_n 0 d_X4_leave_25 rfl rfl ?_
      refine x_ldc q810 d_X4_leave_26 ?_
      refine x_cvi (k := 41) (as := [.int (-1000005)]) (c_X4_finds l E μ (i := 4) hD (by decide) (w := (-1000005)) (by decide)) v_X4_finds w_X4_finds q735 o_M rfl ⟨Nat.le_of_ble_eq_true rfl, Nat.le_of_ble_eq_true rfl⟩ rfl (Nat.le_of_ble_eq_true rfl) d_X4_leave_28 ?_
      rintro _ μ8 ⟨rfl, hD9, hF10⟩
      have hR11 := MR.cg hR (μ' := μ8) (fun id hid => (hF10 _ (by omega)))
      have hX12 := MX.cg hX (μ' := μ8) (fun id hid => (hF10 _ (by omega)))
      have hF13 : ∀ id, id < 41 → μ8 id = μ id := fun id hid => (show μ8 id = μ id from (hF10 _ (by omega))).trans (hF id hid)
      refine x_iret rfl d_X4_leave_31 ?_
      have e9 : F_leave g (nI q) = fin g 4 := by simp [F_leave, x_b_f, x_b_t, c1, c2, nI_clamp (n := q) (by omega)]
      rw [e9]
      exact ⟨rfl, MS.fin hR11 hX12 hD9, hF13⟩
  · skip
    refine x_aload_n 0 d_X4_leave_8 rfl rfl ?_
    refine x_ldc q734 d_X4_leave_9 ?_
    refine x_cvi (k := 41) (as := [.int (-1000001)]) (c_X4_finds l E μ (i := 0) hD (by decide) (w := (-1000001)) (by decide)) v_X4_finds w_X4_finds q735 o_M rfl ⟨Nat.le_of_ble_eq_true rfl, Nat.le_of_ble_eq_true rfl⟩ rfl (Nat.le_of_ble_eq_true rfl) d_X4_leave_11 ?_
    rintro _ μ14 ⟨rfl, hD15, hF16⟩
    have hR17 := MR.cg hR (μ' := μ14) (fun id hid => (hF16 _ (by omega)))
    have hX18 := MX.cg hX (μ' := μ14) (fun id hid => (hF16 _ (by omega)))
    have hF19 : ∀ id, id < 41 → μ14 id = μ id := fun id hid => (show μ14 id = μ id from (hF16 _ (by omega))).trans (hF id hid)
    refine x_iret rfl d_X4_leave_14 ?_
    have e9 : F_leave g p = fin g 0 := by simp [F_leave, x_b_f, x_b_t, c1]
    rw [e9]
    exact ⟨rfl, MS.fin hR17 hX18 hD15, hF19⟩
def m_X4_now : x_M := (yX4_now, prog_6_method_39_code, 2, (some FieldType.int), 7, 158)
theorem v_X4_now : x_VM m_X4_now 1 := ⟨q842, q6, by decide +kernel, by decide +kernel, by decide +kernel⟩
theorem w_X4_now : x_VI m_X4_now := ⟨q840, q841⟩
theorem d_X4_now_0 : x_dec m_X4_now 0 (.iload_n 1) 1 1 := ⟨by decide +kernel, rfl⟩
theorem d_X4_now_1 : x_dec m_X4_now 1 (.tableswitch 86 0 6 #[43, 50, 57, 62, 67, 74, 81]) 43 44 := ⟨by decide +kernel, rfl⟩
theorem d_X4_now_44 : x_dec m_X4_now 44 (.aload_n 0) 1 45 := ⟨by decide +kernel, rfl⟩
theorem d_X4_now_45 : x_dec m_X4_now 45 (.getfield 9) 3 48 := ⟨by decide +kernel, rfl⟩
theorem d_X4_now_48 : x_dec m_X4_now 48 (.iconst 0) 1 49 := ⟨by decide +kernel, rfl⟩
theorem d_X4_now_49 : x_dec m_X4_now 49 (.iaload) 1 50 := ⟨by decide +kernel, rfl⟩
theorem d_X4_now_50 : x_dec m_X4_now 50 (.ireturn) 1 51 := ⟨by decide +kernel, rfl⟩
theorem d_X4_now_51 : x_dec m_X4_now 51 (.aload_n 0) 1 52 := ⟨by decide +kernel, rfl⟩
theorem d_X4_now_52 : x_dec m_X4_now 52 (.getfield 9) 3 55 := ⟨by decide +kernel, rfl⟩
theorem d_X4_now_55 : x_dec m_X4_now 55 (.iconst 1) 1 56 := ⟨by decide +kernel, rfl⟩
theorem d_X4_now_56 : x_dec m_X4_now 56 (.iaload) 1 57 := ⟨by decide +kernel, rfl⟩
theorem d_X4_now_57 : x_dec m_X4_now 57 (.ireturn) 1 58 := ⟨by decide +kernel, rfl⟩
theorem d_X4_now_58 : x_dec m_X4_now 58 (.aload_n 0) 1 59 := ⟨by decide +kernel, rfl⟩
theorem d_X4_now_59 : x_dec m_X4_now 59 (.invokevirtual 117) 3 62 := ⟨by decide +kernel, rfl⟩
theorem d_X4_now_62 : x_dec m_X4_now 62 (.ireturn) 1 63 := ⟨by decide +kernel, rfl⟩
theorem d_X4_now_63 : x_dec m_X4_now 63 (.aload_n 0) 1 64 := ⟨by decide +kernel, rfl⟩
theorem d_X4_now_64 : x_dec m_X4_now 64 (.invokevirtual 121) 3 67 := ⟨by decide +kernel, rfl⟩
theorem d_X4_now_67 : x_dec m_X4_now 67 (.ireturn) 1 68 := ⟨by decide +kernel, rfl⟩
theorem d_X4_now_68 : x_dec m_X4_now 68 (.aload_n 0) 1 69 := ⟨by decide +kernel, rfl⟩
theorem d_X4_now_69 : x_dec m_X4_now 69 (.getfield 9) 3 72 := ⟨by decide +kernel, rfl⟩
theorem d_X4_now_72 : x_dec m_X4_now 72 (.iconst 5) 1 73 := ⟨by decide +kernel, rfl⟩
theorem d_X4_now_73 : x_dec m_X4_now 73 (.iaload) 1 74 := ⟨by decide +kernel, rfl⟩
theorem d_X4_now_74 : x_dec m_X4_now 74 (.ireturn) 1 75 := ⟨by decide +kernel, rfl⟩
theorem d_X4_now_75 : x_dec m_X4_now 75 (.aload_n 0) 1 76 := ⟨by decide +kernel, rfl⟩
theorem d_X4_now_76 : x_dec m_X4_now 76 (.getfield 9) 3 79 := ⟨by decide +kernel, rfl⟩
theorem d_X4_now_79 : x_dec m_X4_now 79 (.iconst 2) 1 80 := ⟨by decide +kernel, rfl⟩
theorem d_X4_now_80 : x_dec m_X4_now 80 (.iaload) 1 81 := ⟨by decide +kernel, rfl⟩
theorem d_X4_now_81 : x_dec m_X4_now 81 (.ireturn) 1 82 := ⟨by decide +kernel, rfl⟩
theorem d_X4_now_82 : x_dec m_X4_now 82 (.aload_n 0) 1 83 := ⟨by decide +kernel, rfl⟩
theorem d_X4_now_83 : x_dec m_X4_now 83 (.invokevirtual 124) 3 86 := ⟨by decide +kernel, rfl⟩
theorem d_X4_now_86 : x_dec m_X4_now 86 (.ireturn) 1 87 := ⟨by decide +kernel, rfl⟩
theorem d_X4_now_87 : x_dec m_X4_now 87 (.aload_n 0) 1 88 := ⟨by decide +kernel, rfl⟩
theorem d_X4_now_88 : x_dec m_X4_now 88 (.ldc 40) 2 90 := ⟨by decide +kernel, rfl⟩
theorem d_X4_now_90 : x_dec m_X4_now 90 (.invokevirtual 42) 3 93 := ⟨by decide +kernel, rfl⟩
theorem d_X4_now_93 : x_dec m_X4_now 93 (.ireturn) 1 94 := ⟨by decide +kernel, rfl⟩
set_option maxHeartbeats 4000000 in
set_option maxRecDepth 100000 in
theorem c_X4_now (l : Launch) (E : x_E) (μ : x_Mem) (g : x_SG) (hS : MS g μ) (hI : Inv g) (w : Int32) : x_Met l m_X4_now E [.ref (E.1 + 41), .int w] μ (x_I (fun z m => z = (F_now g w).1 ∧ MS (F_now g w).2 m ∧ ∀ id, id < 41 → m id = μ id)) := by
  obtain ⟨hR, hX, hD⟩ := hS
  have hWF := hI.1.1
  have hn7 := hWF.2.1
  have hpn := hWF.1
  have hF : ∀ id, id < 41 → μ id = μ id := fun _ _ => rfl
  refine x_enter (lv := [(0, .ref (E.1 + 41)), (1, .int w)]) (by decide +kernel) (Nat.le_of_ble_eq_true rfl) rfl ?_
  refine x_iload_n 1 d_X4_now_0 rfl rfl ?_
  by_cases k1 : w = 0
  · have k1T : (w).toInt = 0 := by rw [k1]; decide
    refine x_tswIn 44 (off := 43) d_X4_now_1 (by rw [k1T]; decide) (by rw [k1T]; decide) (by rw [k1T]; decide) (by decide) ?_
    refine x_aload_n 0 d_X4_now_44 rfl rfl ?_
    refine x_getr (j := 0) 42 x_c4 rfl (Nat.le_of_ble_eq_true rfl) q668 rfl d_X4_now_45 ?_
    refine x_iconst (x := 0) d_X4_now_48 (by decide) ?_
    refine x_ialdN (z := (gA g) 0) 58 0 rfl rfl (by omega) (by decide) (hR 0 (by omega)) d_X4_now_49 ?_
    refine x_iret rfl d_X4_now_50 ?_
    have e9 : F_now g w = ((gA g) 0, g) := by simp [F_now, x_b_f, x_b_t, k1]
    rw [e9]
    exact ⟨rfl, ⟨hR, hX, hD⟩, hF⟩
  by_cases k2 : w = 1
  · have k2T : (w).toInt = 1 := by rw [k2]; decide
    refine x_tswIn 51 (off := 50) d_X4_now_1 (by rw [k2T]; decide) (by rw [k2T]; decide) (by rw [k2T]; decide) (by decide) ?_
    refine x_aload_n 0 d_X4_now_51 rfl rfl ?_
    refine x_getr (j := 0) 42 x_c4 rfl (Nat.le_of_ble_eq_true rfl) q668 rfl d_X4_now_52 ?_
    refine x_iconst (x := 1) d_X4_now_55 (by decide) ?_
    refine x_ialdN (z := (gA g) 1) 58 1 rfl rfl (by omega) (by decide) (hR 1 (by omega)) d_X4_now_56 ?_
    refine x_iret rfl d_X4_now_57 ?_
    have e9 : F_now g w = ((gA g) 1, g) := by simp [F_now, x_b_f, x_b_t, k2]
    rw [e9]
    exact ⟨rfl, ⟨hR, hX, hD⟩, hF⟩
  by_cases k3 : w = 2
  · have k3T : (w).toInt = 2 := by rw [k3]; decide
    refine x_tswIn 58 (off := 57) d_X4_now_1 (by rw [k3T]; decide) (by rw [k3T]; decide) (by rw [k3T]; decide) (by decide) ?_
    refine x_aload_n 0 d_X4_now_58 rfl rfl ?_
    refine x_cvip (k := 41) (as := []) (c_X4_aboard l E μ hR hWF) v_X4_aboard w_X4_aboard q843 o_M rfl ⟨Nat.le_of_ble_eq_true rfl, Nat.le_of_ble_eq_true rfl⟩ rfl (Nat.le_of_ble_eq_true rfl) d_X4_now_59 ?_
    refine x_iret rfl d_X4_now_62 ?_
    have e9 : F_now g w = (aboardF (gA g), g) := by simp [F_now, x_b_f, x_b_t, k3]
    rw [e9]
    exact ⟨rfl, ⟨hR, hX, hD⟩, hF⟩
  by_cases k4 : w = 3
  · have k4T : (w).toInt = 3 := by rw [k4]; decide
    refine x_tswIn 63 (off := 62) d_X4_now_1 (by rw [k4T]; decide) (by rw [k4T]; decide) (by rw [k4T]; decide) (by decide) ?_
    refine x_aload_n 0 d_X4_now_63 rfl rfl ?_
    refine x_cvip (k := 41) (as := []) (c_X4_allThere l E μ hR hWF) v_X4_allThere w_X4_allThere q847 o_M rfl ⟨Nat.le_of_ble_eq_true rfl, Nat.le_of_ble_eq_true rfl⟩ rfl (Nat.le_of_ble_eq_true rfl) d_X4_now_64 ?_
    refine x_iret rfl d_X4_now_67 ?_
    have e9 : F_now g w = (thereF (gA g), g) := by simp [F_now, x_b_f, x_b_t, k4]
    rw [e9]
    exact ⟨rfl, ⟨hR, hX, hD⟩, hF⟩
  by_cases k5 : w = 4
  · have k5T : (w).toInt = 4 := by rw [k5]; decide
    refine x_tswIn 68 (off := 67) d_X4_now_1 (by rw [k5T]; decide) (by rw [k5T]; decide) (by rw [k5T]; decide) (by decide) ?_
    refine x_aload_n 0 d_X4_now_68 rfl rfl ?_
    refine x_getr (j := 0) 42 x_c4 rfl (Nat.le_of_ble_eq_true rfl) q668 rfl d_X4_now_69 ?_
    refine x_iconst (x := 5) d_X4_now_72 (by decide) ?_
    refine x_ialdN (z := (gA g) 5) 58 5 rfl rfl (by omega) (by decide) (hR 5 (by omega)) d_X4_now_73 ?_
    refine x_iret rfl d_X4_now_74 ?_
    have e9 : F_now g w = ((gA g) 5, g) := by simp [F_now, x_b_f, x_b_t, k5]
    rw [e9]
    exact ⟨rfl, ⟨hR, hX, hD⟩, hF⟩
  by_cases k6 : w = 5
  · have k6T : (w).toInt = 5 := by rw [k6]; decide
    refine x_tswIn 75 (off := 74) d_X4_now_1 (by rw [k6T]; decide) (by rw [k6T]; decide) (by rw [k6T]; decide) (by decide) ?_
    refine x_aload_n 0 d_X4_now_75 rfl rfl ?_
    refine x_getr (j := 0) 42 x_c4 rfl (Nat.le_of_ble_eq_true rfl) q668 rfl d_X4_now_76 ?_
    refine x_iconst (x := 2) d_X4_now_79 (by decide) ?_
    refine x_ialdN (z := (gA g) 2) 58 2 rfl rfl (by omega) (by decide) (hR 2 (by omega)) d_X4_now_80 ?_
    refine x_iret rfl d_X4_now_81 ?_
    have e9 : F_now g w = ((gA g) 2, g) := by simp [F_now, x_b_f, x_b_t, k6]
    rw [e9]
    exact ⟨rfl, ⟨hR, hX, hD⟩, hF⟩
  by_cases k7 : w = 6
  · have k7T : (w).toInt = 6 := by rw [k7]; decide
    refine x_tswIn 82 (off := 81) d_X4_now_1 (by rw [k7T]; decide) (by rw [k7T]; decide) (by rw [k7T]; decide) (by decide) ?_
    refine x_aload_n 0 d_X4_now_82 rfl rfl ?_
    refine x_cvip (k := 41) (as := []) (c_X4_allBelief l E μ hR hWF) v_X4_allBelief w_X4_allBelief q851 o_M rfl ⟨Nat.le_of_ble_eq_true rfl, Nat.le_of_ble_eq_true rfl⟩ rfl (Nat.le_of_ble_eq_true rfl) d_X4_now_83 ?_
    refine x_iret rfl d_X4_now_86 ?_
    have e9 : F_now g w = (beliefsF (gA g), g) := by simp [F_now, x_b_f, x_b_t, k7]
    rw [e9]
    exact ⟨rfl, ⟨hR, hX, hD⟩, hF⟩
  have k1T : ¬ (w).toInt = 0 := lv_neT k1 (by decide)
  have k2T : ¬ (w).toInt = 1 := lv_neT k2 (by decide)
  have k3T : ¬ (w).toInt = 2 := lv_neT k3 (by decide)
  have k4T : ¬ (w).toInt = 3 := lv_neT k4 (by decide)
  have k5T : ¬ (w).toInt = 4 := lv_neT k5 (by decide)
  have k6T : ¬ (w).toInt = 5 := lv_neT k6 (by decide)
  have k7T : ¬ (w).toInt = 6 := lv_neT k7 (by decide)
  refine x_tswOut 87 d_X4_now_1 (by omega) (by decide) ?_
  refine x_aload_n 0 d_X4_now_87 rfl rfl ?_
  refine x_ldc q734 d_X4_now_88 ?_
  refine x_cvi (k := 41) (as := [.int (-1000001)]) (c_X4_finds l E μ (i := 0) hD (by decide) (w := (-1000001)) (by decide)) v_X4_finds w_X4_finds q735 o_M rfl ⟨Nat.le_of_ble_eq_true rfl, Nat.le_of_ble_eq_true rfl⟩ rfl (Nat.le_of_ble_eq_true rfl) d_X4_now_90 ?_
  rintro _ μ8 ⟨rfl, hD9, hF10⟩
  have hR11 := MR.cg hR (μ' := μ8) (fun id hid => (hF10 _ (by omega)))
  have hX12 := MX.cg hX (μ' := μ8) (fun id hid => (hF10 _ (by omega)))
  have hF13 : ∀ id, id < 41 → μ8 id = μ id := fun id hid => (show μ8 id = μ id from (hF10 _ (by omega))).trans (hF id hid)
  refine x_iret rfl d_X4_now_93 ?_
  have e9 : F_now g w = fin g 0 := by simp [F_now, x_b_f, x_b_t, k1, k2, k3, k4, k5, k6, k7]
  rw [e9]
  exact ⟨rfl, MS.fin hR11 hX12 hD9, hF13⟩
def m_X4_ahead : x_M := (yX4_ahead, prog_6_method_43_code, 2, (some FieldType.int), 10, 223)
theorem v_X4_ahead : x_VM m_X4_ahead 1 := ⟨q858, q6, by decide +kernel, by decide +kernel, by decide +kernel⟩
theorem w_X4_ahead : x_VI m_X4_ahead := ⟨q856, q857⟩
theorem d_X4_ahead_0 : x_dec m_X4_ahead 0 (.iload_n 1) 1 1 := ⟨by decide +kernel, rfl⟩
theorem d_X4_ahead_1 : x_dec m_X4_ahead 1 (.iconst 0) 1 2 := ⟨by decide +kernel, rfl⟩
theorem d_X4_ahead_2 : x_dec m_X4_ahead 2 (.bipush 100) 2 4 := ⟨by decide +kernel, rfl⟩
theorem d_X4_ahead_4 : x_dec m_X4_ahead 4 (.invokestatic 46) 3 7 := ⟨by decide +kernel, rfl⟩
theorem d_X4_ahead_7 : x_dec m_X4_ahead 7 (.ifCond .ne 10) 3 10 := ⟨by decide +kernel, rfl⟩
theorem d_X4_ahead_10 : x_dec m_X4_ahead 10 (.aload_n 0) 1 11 := ⟨by decide +kernel, rfl⟩
theorem d_X4_ahead_11 : x_dec m_X4_ahead 11 (.ldc 40) 2 13 := ⟨by decide +kernel, rfl⟩
theorem d_X4_ahead_13 : x_dec m_X4_ahead 13 (.invokevirtual 42) 3 16 := ⟨by decide +kernel, rfl⟩
theorem d_X4_ahead_16 : x_dec m_X4_ahead 16 (.ireturn) 1 17 := ⟨by decide +kernel, rfl⟩
theorem d_X4_ahead_17 : x_dec m_X4_ahead 17 (.aload_n 0) 1 18 := ⟨by decide +kernel, rfl⟩
theorem d_X4_ahead_18 : x_dec m_X4_ahead 18 (.invokevirtual 134) 3 21 := ⟨by decide +kernel, rfl⟩
theorem d_X4_ahead_21 : x_dec m_X4_ahead 21 (.aload_n 0) 1 22 := ⟨by decide +kernel, rfl⟩
theorem d_X4_ahead_22 : x_dec m_X4_ahead 22 (.iload_n 1) 1 23 := ⟨by decide +kernel, rfl⟩
theorem d_X4_ahead_23 : x_dec m_X4_ahead 23 (.invokevirtual 137) 3 26 := ⟨by decide +kernel, rfl⟩
theorem d_X4_ahead_26 : x_dec m_X4_ahead 26 (.ireturn) 1 27 := ⟨by decide +kernel, rfl⟩
set_option maxHeartbeats 4000000 in
set_option maxRecDepth 100000 in
theorem c_X4_ahead (l : Launch) (E : x_E) (μ : x_Mem) (g : x_SG) (hS : MS g μ) (hI : Inv g) (n : Int32) : x_Met l m_X4_ahead E [.ref (E.1 + 41), .int n] μ (x_I (fun z m => z = (F_ahead g n).1 ∧ MS (F_ahead g n).2 m ∧ ∀ id, id < 41 → m id = μ id)) := by
  obtain ⟨hR, hX, hD⟩ := hS
  have hWF := hI.1.1
  have hn7 := hWF.2.1
  have hpn := hWF.1
  have hF : ∀ id, id < 41 → μ id = μ id := fun _ _ => rfl
  refine x_enter (lv := [(0, .ref (E.1 + 41)), (1, .int n)]) (by decide +kernel) (Nat.le_of_ble_eq_true rfl) rfl ?_
  refine x_iload_n 1 d_X4_ahead_0 rfl rfl ?_
  refine x_iconst (x := 0) d_X4_ahead_1 (by decide) ?_
  refine x_bipush (x := 100) d_X4_ahead_2 (by decide) ?_
  refine x_csip (as := [.int n, .int 0, .int 100]) (c_X4_in l E μ n 0 100) v_X4_in q728 q727 rfl ⟨Nat.le_of_ble_eq_true rfl, Nat.le_of_ble_eq_true rfl⟩ rfl (Nat.le_of_ble_eq_true rfl) d_X4_ahead_4 ?_
  refine x_ifb_ne 17 d_X4_ahead_7 (by decide) (fun c1 => ?_) (fun c1 => ?_)
  · skip
    obtain ⟨h, hh, rfl⟩ := inR_nat (n := 100) (by decide) c1
    refine x_aload_n 0 d_X4_ahead_17 rfl rfl ?_
    refine x_cvv (k := 41) (as := []) (c_X4_thinks l E μ hR) v_X4_thinks w_X4_thinks q859 o_M rfl ⟨Nat.le_of_ble_eq_true rfl, Nat.le_of_ble_eq_true rfl⟩ rfl (Nat.le_of_ble_eq_true rfl) d_X4_ahead_18 ?_
    rintro μ2 ⟨hW3, hF4⟩
    have hR5 := MR.cg hR (μ' := μ2) (fun id hid => (hF4 _ (by omega)))
    have hX6 := MX.cg hX (μ' := μ2) (fun id hid => (hF4 _ (by omega)))
    have hD7 := MD.cg hD (μ' := μ2) (fun id hid => (hF4 _ (by omega)))
    have hF8 : ∀ id, id < 41 → μ2 id = μ id := fun id hid => (show μ2 id = μ id from (hF4 _ (by omega))).trans (hF id hid)
    refine x_aload_n 0 d_X4_ahead_21 rfl rfl ?_
    refine x_iload_n 1 d_X4_ahead_22 rfl rfl ?_
    refine x_cvi (k := 41) (as := [.int (nI h)]) (c_X4_getsTo l E μ2 hR5 hWF hW3 (h := h) (by omega)) v_X4_getsTo w_X4_getsTo q866 o_M rfl ⟨Nat.le_of_ble_eq_true rfl, Nat.le_of_ble_eq_true rfl⟩ rfl (Nat.le_of_ble_eq_true rfl) d_X4_ahead_23 ?_
    rintro _ μ9 ⟨rfl, hR10, hW11, hF12⟩
    have hX13 := MX.cg hX6 (μ' := μ9) (fun id hid => (hF12 _ (by omega)))
    have hD14 := MD.cg hD7 (μ' := μ9) (fun id hid => (hF12 _ (by omega)))
    have hF15 : ∀ id, id < 41 → μ9 id = μ id := fun id hid => (show μ9 id = μ2 id from (hF12 _ (by omega))).trans (hF8 id hid)
    refine x_iret rfl d_X4_ahead_26 ?_
    have e9 : F_ahead g (nI h) = (hoursF (gA g) h 1, g) := by simp [F_ahead, x_b_f, x_b_t, c1, nI_clamp (n := h) (by omega)]
    rw [e9]
    exact ⟨rfl, ⟨hR10, hX13, hD14⟩, hF15⟩
  · skip
    refine x_aload_n 0 d_X4_ahead_10 rfl rfl ?_
    refine x_ldc q734 d_X4_ahead_11 ?_
    refine x_cvi (k := 41) (as := [.int (-1000001)]) (c_X4_finds l E μ (i := 0) hD (by decide) (w := (-1000001)) (by decide)) v_X4_finds w_X4_finds q735 o_M rfl ⟨Nat.le_of_ble_eq_true rfl, Nat.le_of_ble_eq_true rfl⟩ rfl (Nat.le_of_ble_eq_true rfl) d_X4_ahead_13 ?_
    rintro _ μ16 ⟨rfl, hD17, hF18⟩
    have hR19 := MR.cg hR (μ' := μ16) (fun id hid => (hF18 _ (by omega)))
    have hX20 := MX.cg hX (μ' := μ16) (fun id hid => (hF18 _ (by omega)))
    have hF21 : ∀ id, id < 41 → μ16 id = μ id := fun id hid => (show μ16 id = μ id from (hF18 _ (by omega))).trans (hF id hid)
    refine x_iret rfl d_X4_ahead_16 ?_
    have e9 : F_ahead g n = fin g 0 := by simp [F_ahead, x_b_f, x_b_t, c1]
    rw [e9]
    exact ⟨rfl, MS.fin hR19 hX20 hD17, hF21⟩
def m_X4_believes : x_M := (yX4_believes, prog_6_method_44_code, 4, (some FieldType.int), 9, 201)
theorem v_X4_believes : x_VM m_X4_believes 2 := ⟨q877, q6, by decide +kernel, by decide +kernel, by decide +kernel⟩
theorem w_X4_believes : x_VI m_X4_believes := ⟨q875, q876⟩
theorem d_X4_believes_0 : x_dec m_X4_believes 0 (.aload_n 0) 1 1 := ⟨by decide +kernel, rfl⟩
theorem d_X4_believes_1 : x_dec m_X4_believes 1 (.iload_n 1) 1 2 := ⟨by decide +kernel, rfl⟩
theorem d_X4_believes_2 : x_dec m_X4_believes 2 (.invokevirtual 92) 3 5 := ⟨by decide +kernel, rfl⟩
theorem d_X4_believes_5 : x_dec m_X4_believes 5 (.ifCond .eq 13) 3 8 := ⟨by decide +kernel, rfl⟩
theorem d_X4_believes_8 : x_dec m_X4_believes 8 (.iload_n 2) 1 9 := ⟨by decide +kernel, rfl⟩
theorem d_X4_believes_9 : x_dec m_X4_believes 9 (.iconst 0) 1 10 := ⟨by decide +kernel, rfl⟩
theorem d_X4_believes_10 : x_dec m_X4_believes 10 (.bipush 100) 2 12 := ⟨by decide +kernel, rfl⟩
theorem d_X4_believes_12 : x_dec m_X4_believes 12 (.invokestatic 46) 3 15 := ⟨by decide +kernel, rfl⟩
theorem d_X4_believes_15 : x_dec m_X4_believes 15 (.ifCond .ne 10) 3 18 := ⟨by decide +kernel, rfl⟩
theorem d_X4_believes_18 : x_dec m_X4_believes 18 (.aload_n 0) 1 19 := ⟨by decide +kernel, rfl⟩
theorem d_X4_believes_19 : x_dec m_X4_believes 19 (.ldc 40) 2 21 := ⟨by decide +kernel, rfl⟩
theorem d_X4_believes_21 : x_dec m_X4_believes 21 (.invokevirtual 42) 3 24 := ⟨by decide +kernel, rfl⟩
theorem d_X4_believes_24 : x_dec m_X4_believes 24 (.ireturn) 1 25 := ⟨by decide +kernel, rfl⟩
theorem d_X4_believes_25 : x_dec m_X4_believes 25 (.aload_n 0) 1 26 := ⟨by decide +kernel, rfl⟩
theorem d_X4_believes_26 : x_dec m_X4_believes 26 (.invokevirtual 134) 3 29 := ⟨by decide +kernel, rfl⟩
theorem d_X4_believes_29 : x_dec m_X4_believes 29 (.aload_n 0) 1 30 := ⟨by decide +kernel, rfl⟩
theorem d_X4_believes_30 : x_dec m_X4_believes 30 (.iload_n 2) 1 31 := ⟨by decide +kernel, rfl⟩
theorem d_X4_believes_31 : x_dec m_X4_believes 31 (.invokevirtual 113) 3 34 := ⟨by decide +kernel, rfl⟩
theorem d_X4_believes_34 : x_dec m_X4_believes 34 (.aload_n 0) 1 35 := ⟨by decide +kernel, rfl⟩
theorem d_X4_believes_35 : x_dec m_X4_believes 35 (.iload_n 1) 1 36 := ⟨by decide +kernel, rfl⟩
theorem d_X4_believes_36 : x_dec m_X4_believes 36 (.iconst 2) 1 37 := ⟨by decide +kernel, rfl⟩
theorem d_X4_believes_37 : x_dec m_X4_believes 37 (.invokevirtual 50) 3 40 := ⟨by decide +kernel, rfl⟩
theorem d_X4_believes_40 : x_dec m_X4_believes 40 (.istore_n 3) 1 41 := ⟨by decide +kernel, rfl⟩
theorem d_X4_believes_41 : x_dec m_X4_believes 41 (.aload_n 0) 1 42 := ⟨by decide +kernel, rfl⟩
theorem d_X4_believes_42 : x_dec m_X4_believes 42 (.invokevirtual 131) 3 45 := ⟨by decide +kernel, rfl⟩
theorem d_X4_believes_45 : x_dec m_X4_believes 45 (.iload_n 3) 1 46 := ⟨by decide +kernel, rfl⟩
theorem d_X4_believes_46 : x_dec m_X4_believes 46 (.ireturn) 1 47 := ⟨by decide +kernel, rfl⟩
set_option maxHeartbeats 4000000 in
set_option maxRecDepth 100000 in
theorem c_X4_believes (l : Launch) (E : x_E) (μ : x_Mem) (g : x_SG) (hS : MS g μ) (hI : Inv g) (p n : Int32) : x_Met l m_X4_believes E [.ref (E.1 + 41), .int p, .int n] μ (x_I (fun z m => z = (F_believes g p n).1 ∧ MS (F_believes g p n).2 m ∧ ∀ id, id < 41 → m id = μ id)) := by
  obtain ⟨hR, hX, hD⟩ := hS
  have hWF := hI.1.1
  have hn7 := hWF.2.1
  have hpn := hWF.1
  have hF : ∀ id, id < 41 → μ id = μ id := fun _ _ => rfl
  refine x_enter (lv := [(0, .ref (E.1 + 41)), (1, .int p), (2, .int n)]) (by decide +kernel) (Nat.le_of_ble_eq_true rfl) rfl ?_
  refine x_aload_n 0 d_X4_believes_0 rfl rfl ?_
  refine x_iload_n 1 d_X4_believes_1 rfl rfl ?_
  refine x_cvip (k := 41) (as := [.int p]) (c_X4_isOne l E μ hR hWF p) v_X4_isOne w_X4_isOne q791 o_M rfl ⟨Nat.le_of_ble_eq_true rfl, Nat.le_of_ble_eq_true rfl⟩ rfl (Nat.le_of_ble_eq_true rfl) d_X4_believes_2 ?_
  refine x_ifb_eq 18 d_X4_believes_5 (by decide) (fun c1 => ?_) (fun c1 => ?_)
  · skip
    refine x_aload_n 0 d_X4_believes_18 rfl rfl ?_
    refine x_ldc q734 d_X4_believes_19 ?_
    refine x_cvi (k := 41) (as := [.int (-1000001)]) (c_X4_finds l E μ (i := 0) hD (by decide) (w := (-1000001)) (by decide)) v_X4_finds w_X4_finds q735 o_M rfl ⟨Nat.le_of_ble_eq_true rfl, Nat.le_of_ble_eq_true rfl⟩ rfl (Nat.le_of_ble_eq_true rfl) d_X4_believes_21 ?_
    rintro _ μ2 ⟨rfl, hD3, hF4⟩
    have hR5 := MR.cg hR (μ' := μ2) (fun id hid => (hF4 _ (by omega)))
    have hX6 := MX.cg hX (μ' := μ2) (fun id hid => (hF4 _ (by omega)))
    have hF7 : ∀ id, id < 41 → μ2 id = μ id := fun id hid => (show μ2 id = μ id from (hF4 _ (by omega))).trans (hF id hid)
    refine x_iret rfl d_X4_believes_24 ?_
    have e9 : F_believes g p n = fin g 0 := by simp [F_believes, x_b_f, x_b_t, c1]
    rw [e9]
    exact ⟨rfl, MS.fin hR5 hX6 hD3, hF7⟩
  · skip
    obtain ⟨q, hq, rfl⟩ := isP_nat hWF c1
    refine x_iload_n 2 d_X4_believes_8 rfl rfl ?_
    refine x_iconst (x := 0) d_X4_believes_9 (by decide) ?_
    refine x_bipush (x := 100) d_X4_believes_10 (by decide) ?_
    refine x_csip (as := [.int n, .int 0, .int 100]) (c_X4_in l E μ n 0 100) v_X4_in q728 q727 rfl ⟨Nat.le_of_ble_eq_true rfl, Nat.le_of_ble_eq_true rfl⟩ rfl (Nat.le_of_ble_eq_true rfl) d_X4_believes_12 ?_
    refine x_ifb_ne 25 d_X4_believes_15 (by decide) (fun c8 => ?_) (fun c8 => ?_)
    · skip
      obtain ⟨h, hh, rfl⟩ := inR_nat (n := 100) (by decide) c8
      refine x_aload_n 0 d_X4_believes_25 rfl rfl ?_
      refine x_cvv (k := 41) (as := []) (c_X4_thinks l E μ hR) v_X4_thinks w_X4_thinks q859 o_M rfl ⟨Nat.le_of_ble_eq_true rfl, Nat.le_of_ble_eq_true rfl⟩ rfl (Nat.le_of_ble_eq_true rfl) d_X4_believes_26 ?_
      rintro μ9 ⟨hW10, hF11⟩
      have hR12 := MR.cg hR (μ' := μ9) (fun id hid => (hF11 _ (by omega)))
      have hX13 := MX.cg hX (μ' := μ9) (fun id hid => (hF11 _ (by omega)))
      have hD14 := MD.cg hD (μ' := μ9) (fun id hid => (hF11 _ (by omega)))
      have hF15 : ∀ id, id < 41 → μ9 id = μ id := fun id hid => (show μ9 id = μ id from (hF11 _ (by omega))).trans (hF id hid)
      refine x_aload_n 0 d_X4_believes_29 rfl rfl ?_
      refine x_iload_n 2 d_X4_believes_30 rfl rfl ?_
      refine x_cvv (k := 41) (as := [.int (nI h)]) (c_X4_goesOn l E μ9 hR12 hWF (h := h) (by omega)) v_X4_goesOn w_X4_goesOn q819 o_M rfl ⟨Nat.le_of_ble_eq_true rfl, Nat.le_of_ble_eq_true rfl⟩ rfl (Nat.le_of_ble_eq_true rfl) d_X4_believes_31 ?_
      rintro μ16 ⟨hR17, hF18⟩
      have hX19 := MX.cg hX13 (μ' := μ16) (fun id hid => (hF18 _ (by omega)))
      have hD20 := MD.cg hD14 (μ' := μ16) (fun id hid => (hF18 _ (by omega)))
      have hF21 : ∀ id, id < 41 → μ16 id = μ id := fun id hid => (show μ16 id = μ9 id from (hF18 _ (by omega))).trans (hF15 id hid)
      have hW22 := MW.cg hW10 (μ' := μ16) (fun id hid => (hF18 _ (by omega)))
      refine x_aload_n 0 d_X4_believes_34 rfl rfl ?_
      refine x_iload_n 1 d_X4_believes_35 rfl rfl ?_
      refine x_iconst (x := 2) d_X4_believes_36 (by decide) ?_
      refine x_cvip (k := 41) (as := [.int (nI q), .int 2]) (c_X4_told l E μ16 hR17 (p := q) (w := 2) (j := 24 + 3 * q + 2) rfl (by omega)) v_X4_told w_X4_told q755 o_M rfl ⟨Nat.le_of_ble_eq_true rfl, Nat.le_of_ble_eq_true rfl⟩ rfl (Nat.le_of_ble_eq_true rfl) d_X4_believes_37 ?_
      refine x_istore_n [(3, .int ((hoursF (gA g) h) (24 + 3 * q + 2))), (0, .ref (E.1 + 41)), (1, .int (nI q)), (2, .int (nI h))] d_X4_believes_40 rfl (Nat.le_of_ble_eq_true rfl) rfl ?_
      refine x_aload_n 1 d_X4_believes_41 rfl rfl ?_
      refine x_cvv (k := 41) (as := []) (c_X4_putsBack l E μ16 hW22) v_X4_putsBack w_X4_putsBack q870 o_M rfl ⟨Nat.le_of_ble_eq_true rfl, Nat.le_of_ble_eq_true rfl⟩ rfl (Nat.le_of_ble_eq_true rfl) d_X4_believes_42 ?_
      rintro μ23 ⟨hR24, hF25⟩
      have hX26 := MX.cg hX19 (μ' := μ23) (fun id hid => (hF25 _ (by omega)))
      have hD27 := MD.cg hD20 (μ' := μ23) (fun id hid => (hF25 _ (by omega)))
      have hF28 : ∀ id, id < 41 → μ23 id = μ id := fun id hid => (show μ23 id = μ16 id from (hF25 _ (by omega))).trans (hF21 id hid)
      have hW29 := MW.cg hW22 (μ' := μ23) (fun id hid => (hF25 _ (by omega)))
      refine x_iload_n 0 d_X4_believes_45 rfl rfl ?_
      refine x_iret rfl d_X4_believes_46 ?_
      have e9 : F_believes g (nI q) (nI h) = ((hoursF (gA g) h) (24 + 3 * q + 2), g) := by simp [F_believes, x_b_f, x_b_t, c1, c8, nI_clamp (n := q) (by omega), nI_clamp (n := h) (by omega)]
      rw [e9]
      exact ⟨rfl, ⟨hR24, hX26, hD27⟩, hF28⟩
    · skip
      refine x_aload_n 0 d_X4_believes_18 rfl rfl ?_
      refine x_ldc q734 d_X4_believes_19 ?_
      refine x_cvi (k := 41) (as := [.int (-1000001)]) (c_X4_finds l E μ (i := 0) hD (by decide) (w := (-1000001)) (by decide)) v_X4_finds w_X4_finds q735 o_M rfl ⟨Nat.le_of_ble_eq_true rfl, Nat.le_of_ble_eq_true rfl⟩ rfl (Nat.le_of_ble_eq_true rfl) d_X4_believes_21 ?_
      rintro _ μ30 ⟨rfl, hD31, hF32⟩
      have hR33 := MR.cg hR (μ' := μ30) (fun id hid => (hF32 _ (by omega)))
      have hX34 := MX.cg hX (μ' := μ30) (fun id hid => (hF32 _ (by omega)))
      have hF35 : ∀ id, id < 41 → μ30 id = μ id := fun id hid => (show μ30 id = μ id from (hF32 _ (by omega))).trans (hF id hid)
      refine x_iret rfl d_X4_believes_24 ?_
      have e9 : F_believes g (nI q) n = fin g 0 := by simp [F_believes, x_b_f, x_b_t, c1, c8, nI_clamp (n := q) (by omega)]
      rw [e9]
      exact ⟨rfl, MS.fin hR33 hX34 hD31, hF35⟩
def m_X4_there : x_M := (yX4_there, prog_6_method_49_code, 3, (some FieldType.int), 9, 201)
theorem v_X4_there : x_VM m_X4_there 1 := ⟨q901, q6, by decide +kernel, by decide +kernel, by decide +kernel⟩
theorem w_X4_there : x_VI m_X4_there := ⟨q899, q900⟩
theorem d_X4_there_0 : x_dec m_X4_there 0 (.iload_n 1) 1 1 := ⟨by decide +kernel, rfl⟩
theorem d_X4_there_1 : x_dec m_X4_there 1 (.iconst 0) 1 2 := ⟨by decide +kernel, rfl⟩
theorem d_X4_there_2 : x_dec m_X4_there 2 (.bipush 100) 2 4 := ⟨by decide +kernel, rfl⟩
theorem d_X4_there_4 : x_dec m_X4_there 4 (.invokestatic 46) 3 7 := ⟨by decide +kernel, rfl⟩
theorem d_X4_there_7 : x_dec m_X4_there 7 (.ifCond .ne 10) 3 10 := ⟨by decide +kernel, rfl⟩
theorem d_X4_there_10 : x_dec m_X4_there 10 (.aload_n 0) 1 11 := ⟨by decide +kernel, rfl⟩
theorem d_X4_there_11 : x_dec m_X4_there 11 (.ldc 40) 2 13 := ⟨by decide +kernel, rfl⟩
theorem d_X4_there_13 : x_dec m_X4_there 13 (.invokevirtual 42) 3 16 := ⟨by decide +kernel, rfl⟩
theorem d_X4_there_16 : x_dec m_X4_there 16 (.ireturn) 1 17 := ⟨by decide +kernel, rfl⟩
theorem d_X4_there_17 : x_dec m_X4_there 17 (.aload_n 0) 1 18 := ⟨by decide +kernel, rfl⟩
theorem d_X4_there_18 : x_dec m_X4_there 18 (.invokevirtual 134) 3 21 := ⟨by decide +kernel, rfl⟩
theorem d_X4_there_21 : x_dec m_X4_there 21 (.aload_n 0) 1 22 := ⟨by decide +kernel, rfl⟩
theorem d_X4_there_22 : x_dec m_X4_there 22 (.iload_n 1) 1 23 := ⟨by decide +kernel, rfl⟩
theorem d_X4_there_23 : x_dec m_X4_there 23 (.invokevirtual 113) 3 26 := ⟨by decide +kernel, rfl⟩
theorem d_X4_there_26 : x_dec m_X4_there 26 (.aload_n 0) 1 27 := ⟨by decide +kernel, rfl⟩
theorem d_X4_there_27 : x_dec m_X4_there 27 (.invokevirtual 121) 3 30 := ⟨by decide +kernel, rfl⟩
theorem d_X4_there_30 : x_dec m_X4_there 30 (.istore_n 2) 1 31 := ⟨by decide +kernel, rfl⟩
theorem d_X4_there_31 : x_dec m_X4_there 31 (.aload_n 0) 1 32 := ⟨by decide +kernel, rfl⟩
theorem d_X4_there_32 : x_dec m_X4_there 32 (.invokevirtual 131) 3 35 := ⟨by decide +kernel, rfl⟩
theorem d_X4_there_35 : x_dec m_X4_there 35 (.iload_n 2) 1 36 := ⟨by decide +kernel, rfl⟩
theorem d_X4_there_36 : x_dec m_X4_there 36 (.ireturn) 1 37 := ⟨by decide +kernel, rfl⟩
set_option maxHeartbeats 4000000 in
set_option maxRecDepth 100000 in
theorem c_X4_there (l : Launch) (E : x_E) (μ : x_Mem) (g : x_SG) (hS : MS g μ) (hI : Inv g) (n : Int32) : x_Met l m_X4_there E [.ref (E.1 + 41), .int n] μ (x_I (fun z m => z = (F_there g n).1 ∧ MS (F_there g n).2 m ∧ ∀ id, id < 41 → m id = μ id)) := by
  obtain ⟨hR, hX, hD⟩ := hS
  have hWF := hI.1.1
  have hn7 := hWF.2.1
  have hpn := hWF.1
  have hF : ∀ id, id < 41 → μ id = μ id := fun _ _ => rfl
  refine x_enter (lv := [(0, .ref (E.1 + 41)), (1, .int n)]) (by decide +kernel) (Nat.le_of_ble_eq_true rfl) rfl ?_
  refine x_iload_n 1 d_X4_there_0 rfl rfl ?_
  refine x_iconst (x := 0) d_X4_there_1 (by decide) ?_
  refine x_bipush (x := 100) d_X4_there_2 (by decide) ?_
  refine x_csip (as := [.int n, .int 0, .int 100]) (c_X4_in l E μ n 0 100) v_X4_in q728 q727 rfl ⟨Nat.le_of_ble_eq_true rfl, Nat.le_of_ble_eq_true rfl⟩ rfl (Nat.le_of_ble_eq_true rfl) d_X4_there_4 ?_
  refine x_ifb_ne 17 d_X4_there_7 (by decide) (fun c1 => ?_) (fun c1 => ?_)
  · skip
    obtain ⟨h, hh, rfl⟩ := inR_nat (n := 100) (by decide) c1
    refine x_aload_n 0 d_X4_there_17 rfl rfl ?_
    refine x_cvv (k := 41) (as := []) (c_X4_thinks l E μ hR) v_X4_thinks w_X4_thinks q859 o_M rfl ⟨Nat.le_of_ble_eq_true rfl, Nat.le_of_ble_eq_true rfl⟩ rfl (Nat.le_of_ble_eq_true rfl) d_X4_there_18 ?_
    rintro μ2 ⟨hW3, hF4⟩
    have hR5 := MR.cg hR (μ' := μ2) (fun id hid => (hF4 _ (by omega)))
    have hX6 := MX.cg hX (μ' := μ2) (fun id hid => (hF4 _ (by omega)))
    have hD7 := MD.cg hD (μ' := μ2) (fun id hid => (hF4 _ (by omega)))
    have hF8 : ∀ id, id < 41 → μ2 id = μ id := fun id hid => (show μ2 id = μ id from (hF4 _ (by omega))).trans (hF id hid)
    refine x_aload_n 0 d_X4_there_21 rfl rfl ?_
    refine x_iload_n 1 d_X4_there_22 rfl rfl ?_
    refine x_cvv (k := 41) (as := [.int (nI h)]) (c_X4_goesOn l E μ2 hR5 hWF (h := h) (by omega)) v_X4_goesOn w_X4_goesOn q819 o_M rfl ⟨Nat.le_of_ble_eq_true rfl, Nat.le_of_ble_eq_true rfl⟩ rfl (Nat.le_of_ble_eq_true rfl) d_X4_there_23 ?_
    rintro μ9 ⟨hR10, hF11⟩
    have hX12 := MX.cg hX6 (μ' := μ9) (fun id hid => (hF11 _ (by omega)))
    have hD13 := MD.cg hD7 (μ' := μ9) (fun id hid => (hF11 _ (by omega)))
    have hF14 : ∀ id, id < 41 → μ9 id = μ id := fun id hid => (show μ9 id = μ2 id from (hF11 _ (by omega))).trans (hF8 id hid)
    have hW15 := MW.cg hW3 (μ' := μ9) (fun id hid => (hF11 _ (by omega)))
    refine x_aload_n 0 d_X4_there_26 rfl rfl ?_
    refine x_cvip (k := 41) (as := []) (c_X4_allThere l E μ9 hR10 (WF.hours hWF h)) v_X4_allThere w_X4_allThere q847 o_M rfl ⟨Nat.le_of_ble_eq_true rfl, Nat.le_of_ble_eq_true rfl⟩ rfl (Nat.le_of_ble_eq_true rfl) d_X4_there_27 ?_
    refine x_istore_n [(2, .int (thereF (hoursF (gA g) h))), (0, .ref (E.1 + 41)), (1, .int (nI h))] d_X4_there_30 rfl (Nat.le_of_ble_eq_true rfl) rfl ?_
    refine x_aload_n 1 d_X4_there_31 rfl rfl ?_
    refine x_cvv (k := 41) (as := []) (c_X4_putsBack l E μ9 hW15) v_X4_putsBack w_X4_putsBack q870 o_M rfl ⟨Nat.le_of_ble_eq_true rfl, Nat.le_of_ble_eq_true rfl⟩ rfl (Nat.le_of_ble_eq_true rfl) d_X4_there_32 ?_
    rintro μ16 ⟨hR17, hF18⟩
    have hX19 := MX.cg hX12 (μ' := μ16) (fun id hid => (hF18 _ (by omega)))
    have hD20 := MD.cg hD13 (μ' := μ16) (fun id hid => (hF18 _ (by omega)))
    have hF21 : ∀ id, id < 41 → μ16 id = μ id := fun id hid => (show μ16 id = μ9 id from (hF18 _ (by omega))).trans (hF14 id hid)
    have hW22 := MW.cg hW15 (μ' := μ16) (fun id hid => (hF18 _ (by omega)))
    refine x_iload_n 0 d_X4_there_35 rfl rfl ?_
    refine x_iret rfl d_X4_there_36 ?_
    have e9 : F_there g (nI h) = (thereF (hoursF (gA g) h), g) := by simp [F_there, x_b_f, x_b_t, c1, nI_clamp (n := h) (by omega)]
    rw [e9]
    exact ⟨rfl, ⟨hR17, hX19, hD20⟩, hF21⟩
  · skip
    refine x_aload_n 0 d_X4_there_10 rfl rfl ?_
    refine x_ldc q734 d_X4_there_11 ?_
    refine x_cvi (k := 41) (as := [.int (-1000001)]) (c_X4_finds l E μ (i := 0) hD (by decide) (w := (-1000001)) (by decide)) v_X4_finds w_X4_finds q735 o_M rfl ⟨Nat.le_of_ble_eq_true rfl, Nat.le_of_ble_eq_true rfl⟩ rfl (Nat.le_of_ble_eq_true rfl) d_X4_there_13 ?_
    rintro _ μ23 ⟨rfl, hD24, hF25⟩
    have hR26 := MR.cg hR (μ' := μ23) (fun id hid => (hF25 _ (by omega)))
    have hX27 := MX.cg hX (μ' := μ23) (fun id hid => (hF25 _ (by omega)))
    have hF28 : ∀ id, id < 41 → μ23 id = μ id := fun id hid => (show μ23 id = μ id from (hF25 _ (by omega))).trans (hF id hid)
    refine x_iret rfl d_X4_there_16 ?_
    have e9 : F_there g n = fin g 0 := by simp [F_there, x_b_f, x_b_t, c1]
    rw [e9]
    exact ⟨rfl, MS.fin hR26 hX27 hD24, hF28⟩
def m_X4_seed : x_M := (yX4_seed, prog_6_method_74_code, 2, (some FieldType.int), 1, 23)
theorem v_X4_seed : x_VM m_X4_seed 1 := ⟨q1011, q6, by decide +kernel, by decide +kernel, by decide +kernel⟩
theorem w_X4_seed : x_VI m_X4_seed := ⟨q1009, q1010⟩
theorem d_X4_seed_0 : x_dec m_X4_seed 0 (.aload_n 0) 1 1 := ⟨by decide +kernel, rfl⟩
theorem d_X4_seed_1 : x_dec m_X4_seed 1 (.bipush 6) 2 3 := ⟨by decide +kernel, rfl⟩
theorem d_X4_seed_3 : x_dec m_X4_seed 3 (.iload_n 1) 1 4 := ⟨by decide +kernel, rfl⟩
theorem d_X4_seed_4 : x_dec m_X4_seed 4 (.invokevirtual 81) 3 7 := ⟨by decide +kernel, rfl⟩
theorem d_X4_seed_7 : x_dec m_X4_seed 7 (.ireturn) 1 8 := ⟨by decide +kernel, rfl⟩
set_option maxHeartbeats 4000000 in
set_option maxRecDepth 100000 in
theorem c_X4_seed (l : Launch) (E : x_E) (μ : x_Mem) (g : x_SG) (hS : MS g μ) (hI : Inv g) (v : Int32) : x_Met l m_X4_seed E [.ref (E.1 + 41), .int v] μ (x_I (fun z m => z = (F_seed g v).1 ∧ MS (F_seed g v).2 m ∧ ∀ id, id < 41 → m id = μ id)) := by
  obtain ⟨hR, hX, hD⟩ := hS
  have hWF := hI.1.1
  have hn7 := hWF.2.1
  have hpn := hWF.1
  have hF : ∀ id, id < 41 → μ id = μ id := fun _ _ => rfl
  refine x_enter (lv := [(0, .ref (E.1 + 41)), (1, .int v)]) (by decide +kernel) (Nat.le_of_ble_eq_true rfl) rfl ?_
  refine x_aload_n 0 d_X4_seed_0 rfl rfl ?_
  refine x_bipush (x := 6) d_X4_seed_1 (by decide) ?_
  refine x_iload_n 1 d_X4_seed_3 rfl rfl ?_
  refine x_cvi (k := 41) (as := [.int 6, .int v]) (c_X4_becomes l E μ hR (j := 6) (by omega) v) v_X4_becomes w_X4_becomes q730 o_M rfl ⟨Nat.le_of_ble_eq_true rfl, Nat.le_of_ble_eq_true rfl⟩ rfl (Nat.le_of_ble_eq_true rfl) d_X4_seed_4 ?_
  rintro _ μ1 ⟨rfl, eμ1⟩
  have hR2 : MR (upd (gA g) (6) v) μ1 := MR.w hR eμ1
  have hX3 := MX.cg hX (μ' := μ1) (fun id hid => (by rw [eμ1, upd2_ne _ _ _ (by omega)]))
  have hD4 := MD.cg hD (μ' := μ1) (fun id hid => (by rw [eμ1, upd2_ne _ _ _ (by omega)]))
  have hF5 : ∀ id, id < 41 → μ1 id = μ id := fun id hid => (show μ1 id = μ id from (by rw [eμ1, upd2_ne _ _ _ (by omega)])).trans (hF id hid)
  refine x_iret rfl d_X4_seed_7 ?_
  have e9 : F_seed g v = ((gA g) (6), sA g (upd (gA g) (6) v)) := by simp [F_seed, x_b_f, x_b_t, setL]
  rw [e9]
  exact ⟨rfl, MS.line hR2 hX3 hD4, hF5⟩
