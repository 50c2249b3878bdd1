def m_X4_status : x_M := (yX4_status, prog_6_method_102_code, 4, (some FieldType.int), 1, 22)
theorem v_X4_status : x_VM m_X4_status 1 := ⟨q1126, q6, by decide +kernel, by decide +kernel, by decide +kernel⟩
theorem w_X4_status : x_VI m_X4_status := ⟨q1124, q1125⟩
theorem d_X4_status_0 : x_dec m_X4_status 0 (.iload_n 1) 1 1 := ⟨by decide +kernel, rfl⟩
theorem d_X4_status_1 : x_dec m_X4_status 1 (.iconst (-1)) 1 2 := ⟨by decide +kernel, rfl⟩
theorem d_X4_status_2 : x_dec m_X4_status 2 (.bipush 6) 2 4 := ⟨by decide +kernel, rfl⟩
theorem d_X4_status_4 : x_dec m_X4_status 4 (.invokestatic 46) 3 7 := ⟨by decide +kernel, rfl⟩
theorem d_X4_status_7 : x_dec m_X4_status 7 (.ifCond .ne 10) 3 10 := ⟨by decide +kernel, rfl⟩
theorem d_X4_status_10 : x_dec m_X4_status 10 (.aload_n 0) 1 11 := ⟨by decide +kernel, rfl⟩
theorem d_X4_status_11 : x_dec m_X4_status 11 (.ldc 40) 2 13 := ⟨by decide +kernel, rfl⟩
theorem d_X4_status_13 : x_dec m_X4_status 13 (.invokevirtual 42) 3 16 := ⟨by decide +kernel, rfl⟩
theorem d_X4_status_16 : x_dec m_X4_status 16 (.ireturn) 1 17 := ⟨by decide +kernel, rfl⟩
theorem d_X4_status_17 : x_dec m_X4_status 17 (.iconst 0) 1 18 := ⟨by decide +kernel, rfl⟩
theorem d_X4_status_18 : x_dec m_X4_status 18 (.istore_n 2) 1 19 := ⟨by decide +kernel, rfl⟩
theorem d_X4_status_19 : x_dec m_X4_status 19 (.iconst 0) 1 20 := ⟨by decide +kernel, rfl⟩
theorem d_X4_status_20 : x_dec m_X4_status 20 (.istore_n 3) 1 21 := ⟨by decide +kernel, rfl⟩
theorem d_X4_status_21 : x_dec m_X4_status 21 (.iload_n 3) 1 22 := ⟨by decide +kernel, rfl⟩
theorem d_X4_status_22 : x_dec m_X4_status 22 (.bipush 7) 2 24 := ⟨by decide +kernel, rfl⟩
theorem d_X4_status_24 : x_dec m_X4_status 24 (.if_icmp .ge 31) 3 27 := ⟨by decide +kernel, rfl⟩
theorem d_X4_status_27 : x_dec m_X4_status 27 (.iload_n 2) 1 28 := ⟨by decide +kernel, rfl⟩
theorem d_X4_status_28 : x_dec m_X4_status 28 (.iload_n 1) 1 29 := ⟨by decide +kernel, rfl⟩
theorem d_X4_status_29 : x_dec m_X4_status 29 (.ifCond .lt 8) 3 32 := ⟨by decide +kernel, rfl⟩
theorem d_X4_status_32 : x_dec m_X4_status 32 (.iload_n 1) 1 33 := ⟨by decide +kernel, rfl⟩
theorem d_X4_status_33 : x_dec m_X4_status 33 (.iload_n 3) 1 34 := ⟨by decide +kernel, rfl⟩
theorem d_X4_status_34 : x_dec m_X4_status 34 (.if_icmp .ne 12) 3 37 := ⟨by decide +kernel, rfl⟩
theorem d_X4_status_37 : x_dec m_X4_status 37 (.aload_n 0) 1 38 := ⟨by decide +kernel, rfl⟩
theorem d_X4_status_38 : x_dec m_X4_status 38 (.getfield 19) 3 41 := ⟨by decide +kernel, rfl⟩
theorem d_X4_status_41 : x_dec m_X4_status 41 (.iload_n 3) 1 42 := ⟨by decide +kernel, rfl⟩
theorem d_X4_status_42 : x_dec m_X4_status 42 (.iaload) 1 43 := ⟨by decide +kernel, rfl⟩
theorem d_X4_status_43 : x_dec m_X4_status 43 (.goto 4) 3 46 := ⟨by decide +kernel, rfl⟩
theorem d_X4_status_46 : x_dec m_X4_status 46 (.iconst 0) 1 47 := ⟨by decide +kernel, rfl⟩
theorem d_X4_status_47 : x_dec m_X4_status 47 (.iadd) 1 48 := ⟨by decide +kernel, rfl⟩
theorem d_X4_status_48 : x_dec m_X4_status 48 (.istore_n 2) 1 49 := ⟨by decide +kernel, rfl⟩
theorem d_X4_status_49 : x_dec m_X4_status 49 (.iinc 3 1) 3 52 := ⟨by decide +kernel, rfl⟩
theorem d_X4_status_52 : x_dec m_X4_status 52 (.goto (-31)) 3 55 := ⟨by decide +kernel, rfl⟩
theorem d_X4_status_55 : x_dec m_X4_status 55 (.iload_n 2) 1 56 := ⟨by decide +kernel, rfl⟩
theorem d_X4_status_56 : x_dec m_X4_status 56 (.ireturn) 1 57 := ⟨by decide +kernel, rfl⟩
set_option maxHeartbeats 4000000 in
set_option maxRecDepth 100000 in
theorem c_X4_status (l : Launch) (E : x_E) (μ : x_Mem) (g : x_SG) (hS : MS g μ) (hI : Inv g) (w : Int32) : x_Met l m_X4_status E [.ref (E.1 + 41), .int w] μ (x_I (fun z m => z = (F_status g w).1 ∧ MS (F_status g w).2 m ∧ ∀ id, id < 41 → m id = μ id)) := by
  obtain ⟨hR, hX, hD⟩ := hS
  have hWF := hI.1.1
  have hn7 := hWF.2.1
  have hpn := hWF.1
  have hF : ∀ id, id < 41 → μ id = μ id := fun _ _ => rfl
  refine x_enter (lv := [(0, .ref (E.1 + 41)), (1, .int w)]) (by decide +kernel) (Nat.le_of_ble_eq_true rfl) rfl ?_
  refine x_iload_n 1 d_X4_status_0 rfl rfl ?_
  refine x_iconst (x := (-1)) d_X4_status_1 (by decide) ?_
  refine x_bipush (x := 6) d_X4_status_2 (by decide) ?_
  refine x_csip (as := [.int w, .int (-1), .int 6]) (c_X4_in l E μ w (-1) 6) v_X4_in q728 q727 rfl ⟨Nat.le_of_ble_eq_true rfl, Nat.le_of_ble_eq_true rfl⟩ rfl (Nat.le_of_ble_eq_true rfl) d_X4_status_4 ?_
  refine x_ifb_ne 17 d_X4_status_7 (by decide) (fun c1 => ?_) (fun c1 => ?_)
  · skip
    refine x_iconst (x := 0) d_X4_status_17 (by decide) ?_
    refine x_istore_n [(2, .int 0), (0, .ref (E.1 + 41)), (1, .int w)] d_X4_status_18 rfl (Nat.le_of_ble_eq_true rfl) rfl ?_
    refine x_iconst (x := 0) d_X4_status_19 (by decide) ?_
    refine x_istore_n [(3, .int 0), (2, .int 0), (0, .ref (E.1 + 41)), (1, .int w)] d_X4_status_20 rfl (Nat.le_of_ble_eq_true rfl) rfl ?_
    have L2 : ∀ i : Nat, i ≤ 7 → ∀ r : Int32, (r = sumTo (fun k => if (w < 0 ∨ w = nI k) then gF g k else 0) i) → x_G l E m_X4_status (x_mv E m_X4_status (x_I (fun z m => z = (F_status g w).1 ∧ MS (F_status g w).2 m ∧ ∀ id, id < 41 → m id = μ id))) μ 21 [(3, .int (nI i)), (2, .int r), (0, .ref (E.1 + 41)), (1, .int w)] [] := by
      refine x_down _ 7 (fun i hi4 ih3 => ?_)
      intro r hr
      refine x_iload_n 0 d_X4_status_21 rfl rfl ?_
      refine x_bipush (x := 7) d_X4_status_22 (by decide) ?_
      refine x_icmp_ge 55 d_X4_status_24 (by decide) (fun c5 => ?_) (fun c5 => ?_)
      · skip
        have hN := x_ge (N := 7) c5 rfl rfl (by omega) (by omega)
        refine x_iload_n 1 d_X4_status_55 rfl rfl ?_
        refine x_iret rfl d_X4_status_56 ?_
        have e7 : i = 7 := by omega
        subst e7
        have e9 : F_status g w = (r, g) := by unfold F_status; rw [if_pos c1, hr]
        rw [e9]
        exact ⟨rfl, ⟨hR, hX, hD⟩, hF⟩
      · skip
        have hN := x_lt (N := 7) c5 rfl rfl (by omega) (by omega)
        refine x_iload_n 1 d_X4_status_27 rfl rfl ?_
        refine x_iload_n 3 d_X4_status_28 rfl rfl ?_
        refine x_if_lt 37 d_X4_status_29 (by decide) (fun c6 => ?_) (fun c6 => ?_)
        · skip
          refine x_aload_n 2 d_X4_status_37 rfl rfl ?_
          refine x_getr (j := 4) 45 x_c4 rfl (Nat.le_of_ble_eq_true rfl) q672 rfl d_X4_status_38 ?_
          refine x_iload_n 0 d_X4_status_41 rfl rfl ?_
          refine x_ialdN (z := gF g i) 7 i rfl rfl (by omega) (by decide) (hD i (by omega)) d_X4_status_42 ?_
          refine x_goto 47 d_X4_status_43 (by decide) ?_
          refine x_iadd d_X4_status_47 ?_
          refine x_istore_n [(2, .int (r + (gF g i))), (3, .int (nI i)), (0, .ref (E.1 + 41)), (1, .int w)] d_X4_status_48 rfl (Nat.le_of_ble_eq_true rfl) rfl ?_
          refine x_iinc [(3, .int (nI (i + 1))), (2, .int (r + (gF g i))), (0, .ref (E.1 + 41)), (1, .int w)] 1 d_X4_status_49 rfl (x_inc _) (Nat.le_of_ble_eq_true rfl) rfl ?_
          refine x_goto 21 d_X4_status_52 (by decide) ?_
          exact ih3 (i + 1) (by omega) (by omega) (r + (gF g i)) (by rw [hr, sumTo, if_pos (Or.inl c6)])
        · skip
          refine x_iload_n 3 d_X4_status_32 rfl rfl ?_
          refine x_iload_n 0 d_X4_status_33 rfl rfl ?_
          refine x_icmp_ne 46 d_X4_status_34 (by decide) (fun c7 => ?_) (fun c7 => ?_)
          · skip
            refine x_iconst (x := 0) d_X4_status_46 (by decide) ?_
            refine x_iadd d_X4_status_47 ?_
            refine x_istore_n [(2, .int (r + 0)), (3, .int (nI i)), (0, .ref (E.1 + 41)), (1, .int w)] d_X4_status_48 rfl (Nat.le_of_ble_eq_true rfl) rfl ?_
            refine x_iinc [(3, .int (nI (i + 1))), (2, .int (r + 0)), (0, .ref (E.1 + 41)), (1, .int w)] 1 d_X4_status_49 rfl (x_inc _) (Nat.le_of_ble_eq_true rfl) rfl ?_
            refine x_goto 21 d_X4_status_52 (by decide) ?_
            exact ih3 (i + 1) (by omega) (by omega) (r + 0) (by rw [hr, sumTo, if_neg (fun z => z.elim c6 c7)])
          · skip
            refine x_aload_n 2 d_X4_status_37 rfl rfl ?_
            refine x_getr (j := 4) 45 x_c4 rfl (Nat.le_of_ble_eq_true rfl) q672 rfl d_X4_status_38 ?_
            refine x_iload_n 0 d_X4_status_41 rfl rfl ?_
            refine x_ialdN (z := gF g i) 7 i rfl rfl (by omega) (by decide) (hD i (by omega)) d_X4_status_42 ?_
            refine x_goto 47 d_X4_status_43 (by decide) ?_
            refine x_iadd d_X4_status_47 ?_
            refine x_istore_n [(2, .int (r + (gF g i))), (3, .int (nI i)), (0, .ref (E.1 + 41)), (1, .int w)] d_X4_status_48 rfl (Nat.le_of_ble_eq_true rfl) rfl ?_
            refine x_iinc [(3, .int (nI (i + 1))), (2, .int (r + (gF g i))), (0, .ref (E.1 + 41)), (1, .int w)] 1 d_X4_status_49 rfl (x_inc _) (Nat.le_of_ble_eq_true rfl) rfl ?_
            refine x_goto 21 d_X4_status_52 (by decide) ?_
            exact ih3 (i + 1) (by omega) (by omega) (r + (gF g i)) (by rw [hr, sumTo, if_pos (Or.inr (Classical.not_not.mp (fun z => z c7)))])
    exact L2 0 (by omega) 0 (by rfl)
  · skip
    refine x_aload_n 0 d_X4_status_10 rfl rfl ?_
    refine x_ldc q734 d_X4_status_11 ?_
    refine x_cvi (k := 41) (as := [.int (-1000001)]) (c_X4_finds l E μ (i := 0) hD (by decide) (w := (-1000001)) (by decide)) v_X4_finds w_X4_finds q735 o_M rfl ⟨Nat.le_of_ble_eq_true rfl, Nat.le_of_ble_eq_true rfl⟩ rfl (Nat.le_of_ble_eq_true rfl) d_X4_status_13 ?_
    rintro _ μ8 ⟨rfl, hD9, hF10⟩
    have hR11 := MR.cg hR (μ' := μ8) (fun id hid => (hF10 _ (by omega)))
    have hX12 := MX.cg hX (μ' := μ8) (fun id hid => (hF10 _ (by omega)))
    have hF13 : ∀ id, id < 41 → μ8 id = μ id := fun id hid => (show μ8 id = μ id from (hF10 _ (by omega))).trans (hF id hid)
    refine x_iret rfl d_X4_status_16 ?_
    have e9 : F_status g w = fin g 0 := by simp [F_status, x_b_f, x_b_t, c1]
    rw [e9]
    exact ⟨rfl, MS.fin hR11 hX12 hD9, hF13⟩
def m_X4_hold : x_M := (yX4_hold, prog_6_method_88_code, 3, (some FieldType.int), 2, 43)
theorem v_X4_hold : x_VM m_X4_hold 2 := ⟨q1069, q6, by decide +kernel, by decide +kernel, by decide +kernel⟩
theorem w_X4_hold : x_VI m_X4_hold := ⟨q1067, q1068⟩
theorem d_X4_hold_0 : x_dec m_X4_hold 0 (.iload_n 1) 1 1 := ⟨by decide +kernel, rfl⟩
theorem d_X4_hold_1 : x_dec m_X4_hold 1 (.iconst 0) 1 2 := ⟨by decide +kernel, rfl⟩
theorem d_X4_hold_2 : x_dec m_X4_hold 2 (.bipush 9) 2 4 := ⟨by decide +kernel, rfl⟩
theorem d_X4_hold_4 : x_dec m_X4_hold 4 (.invokestatic 46) 3 7 := ⟨by decide +kernel, rfl⟩
theorem d_X4_hold_7 : x_dec m_X4_hold 7 (.ifCond .eq 16) 3 10 := ⟨by decide +kernel, rfl⟩
theorem d_X4_hold_10 : x_dec m_X4_hold 10 (.iload_n 2) 1 11 := ⟨by decide +kernel, rfl⟩
theorem d_X4_hold_11 : x_dec m_X4_hold 11 (.iconst (-1)) 1 12 := ⟨by decide +kernel, rfl⟩
theorem d_X4_hold_12 : x_dec m_X4_hold 12 (.if_icmp .eq 18) 3 15 := ⟨by decide +kernel, rfl⟩
theorem d_X4_hold_15 : x_dec m_X4_hold 15 (.aload_n 0) 1 16 := ⟨by decide +kernel, rfl⟩
theorem d_X4_hold_16 : x_dec m_X4_hold 16 (.iload_n 2) 1 17 := ⟨by decide +kernel, rfl⟩
theorem d_X4_hold_17 : x_dec m_X4_hold 17 (.invokevirtual 92) 3 20 := ⟨by decide +kernel, rfl⟩
theorem d_X4_hold_20 : x_dec m_X4_hold 20 (.ifCond .ne 10) 3 23 := ⟨by decide +kernel, rfl⟩
theorem d_X4_hold_23 : x_dec m_X4_hold 23 (.aload_n 0) 1 24 := ⟨by decide +kernel, rfl⟩
theorem d_X4_hold_24 : x_dec m_X4_hold 24 (.ldc 40) 2 26 := ⟨by decide +kernel, rfl⟩
theorem d_X4_hold_26 : x_dec m_X4_hold 26 (.invokevirtual 42) 3 29 := ⟨by decide +kernel, rfl⟩
theorem d_X4_hold_29 : x_dec m_X4_hold 29 (.ireturn) 1 30 := ⟨by decide +kernel, rfl⟩
theorem d_X4_hold_30 : x_dec m_X4_hold 30 (.aload_n 0) 1 31 := ⟨by decide +kernel, rfl⟩
theorem d_X4_hold_31 : x_dec m_X4_hold 31 (.getfield 9) 3 34 := ⟨by decide +kernel, rfl⟩
theorem d_X4_hold_34 : x_dec m_X4_hold 34 (.bipush 48) 2 36 := ⟨by decide +kernel, rfl⟩
theorem d_X4_hold_36 : x_dec m_X4_hold 36 (.iload_n 1) 1 37 := ⟨by decide +kernel, rfl⟩
theorem d_X4_hold_37 : x_dec m_X4_hold 37 (.iadd) 1 38 := ⟨by decide +kernel, rfl⟩
theorem d_X4_hold_38 : x_dec m_X4_hold 38 (.iload_n 2) 1 39 := ⟨by decide +kernel, rfl⟩
theorem d_X4_hold_39 : x_dec m_X4_hold 39 (.iastore) 1 40 := ⟨by decide +kernel, rfl⟩
theorem d_X4_hold_40 : x_dec m_X4_hold 40 (.iconst 1) 1 41 := ⟨by decide +kernel, rfl⟩
theorem d_X4_hold_41 : x_dec m_X4_hold 41 (.ireturn) 1 42 := ⟨by decide +kernel, rfl⟩
set_option maxHeartbeats 4000000 in
set_option maxRecDepth 100000 in
theorem c_X4_hold (l : Launch) (E : x_E) (μ : x_Mem) (g : x_SG) (hS : MS g μ) (hI : Inv g) (j p : Int32) : x_Met l m_X4_hold E [.ref (E.1 + 41), .int j, .int p] μ (x_I (fun z m => z = (F_hold g j p).1 ∧ MS (F_hold g j p).2 m ∧ ∀ id, id < 41 → m id = μ id)) := by
  obtain ⟨hR, hX, hD⟩ := hS
  have hWF := hI.1.1
  have hn7 := hWF.2.1
  have hpn := hWF.1
  have hF : ∀ id, id < 41 → μ id = μ id := fun _ _ => rfl
  refine x_enter (lv := [(0, .ref (E.1 + 41)), (1, .int j), (2, .int p)]) (by decide +kernel) (Nat.le_of_ble_eq_true rfl) rfl ?_
  refine x_iload_n 1 d_X4_hold_0 rfl rfl ?_
  refine x_iconst (x := 0) d_X4_hold_1 (by decide) ?_
  refine x_bipush (x := 9) d_X4_hold_2 (by decide) ?_
  refine x_csip (as := [.int j, .int 0, .int 9]) (c_X4_in l E μ j 0 9) v_X4_in q728 q727 rfl ⟨Nat.le_of_ble_eq_true rfl, Nat.le_of_ble_eq_true rfl⟩ rfl (Nat.le_of_ble_eq_true rfl) d_X4_hold_4 ?_
  refine x_ifb_eq 23 d_X4_hold_7 (by decide) (fun c1 => ?_) (fun c1 => ?_)
  · skip
    refine x_aload_n 0 d_X4_hold_23 rfl rfl ?_
    refine x_ldc q734 d_X4_hold_24 ?_
    refine x_cvi (k := 41) (as := [.int (-1000001)]) (c_X4_finds l E μ (i := 0) hD (by decide) (w := (-1000001)) (by decide)) v_X4_finds w_X4_finds q735 o_M rfl ⟨Nat.le_of_ble_eq_true rfl, Nat.le_of_ble_eq_true rfl⟩ rfl (Nat.le_of_ble_eq_true rfl) d_X4_hold_26 ?_
    rintro _ μ2 ⟨rfl, hD3, hF4⟩
    have hR5 := MR.cg hR (μ' := μ2) (fun id hid => (hF4 _ (by omega)))
    have hX6 := MX.cg hX (μ' := μ2) (fun id hid => (hF4 _ (by omega)))
    have hF7 : ∀ id, id < 41 → μ2 id = μ id := fun id hid => (show μ2 id = μ id from (hF4 _ (by omega))).trans (hF id hid)
    refine x_iret rfl d_X4_hold_29 ?_
    have e9 : F_hold g j p = fin g 0 := by simp [F_hold, x_b_f, x_b_t, c1]
    rw [e9]
    exact ⟨rfl, MS.fin hR5 hX6 hD3, hF7⟩
  · skip
    obtain ⟨jj, hjj, rfl⟩ := inR_nat (n := 9) (by decide) c1
    refine x_iload_n 2 d_X4_hold_10 rfl rfl ?_
    refine x_iconst (x := (-1)) d_X4_hold_11 (by decide) ?_
    refine x_icmp_eq 30 d_X4_hold_12 (by decide) (fun c8 => ?_) (fun c8 => ?_)
    · skip
      refine x_aload_n 0 d_X4_hold_30 rfl rfl ?_
      refine x_getr (j := 0) 42 x_c4 rfl (Nat.le_of_ble_eq_true rfl) q668 rfl d_X4_hold_31 ?_
      refine x_bipush (x := 48) d_X4_hold_34 (by decide) ?_
      refine x_iload_n 1 d_X4_hold_36 rfl rfl ?_
      refine x_iadd d_X4_hold_37 ?_
      rw [show (48 : Int32) + (nI jj) = nI (48 + jj) from nI_add 48 jj]
      refine x_iload_n 2 d_X4_hold_38 rfl rfl ?_
      refine x_iastNG 58 (48 + jj) rfl rfl (by omega) (by decide) d_X4_hold_39 (fun μ9 eμ9 => ?_)
      have hR10 : MR (upd (gA g) ((48 + jj)) p) μ9 := MR.w hR eμ9
      have hX11 := MX.cg hX (μ' := μ9) (fun id hid => (by rw [eμ9, upd2_ne _ _ _ (by omega)]))
      have hD12 := MD.cg hD (μ' := μ9) (fun id hid => (by rw [eμ9, upd2_ne _ _ _ (by omega)]))
      have hF13 : ∀ id, id < 41 → μ9 id = μ id := fun id hid => (show μ9 id = μ id from (by rw [eμ9, upd2_ne _ _ _ (by omega)])).trans (hF id hid)
      refine x_iconst (x := 1) d_X4_hold_40 (by decide) ?_
      refine x_iret rfl d_X4_hold_41 ?_
      have e9 : F_hold g (nI jj) p = (1, sA g (upd (gA g) ((48 + jj)) p)) := by simp [F_hold, x_b_f, x_b_t, c1, c8, nI_clamp (n := jj) (by omega)]
      rw [e9]
      exact ⟨rfl, MS.line hR10 hX11 hD12, hF13⟩
    · skip
      refine x_aload_n 0 d_X4_hold_15 rfl rfl ?_
      refine x_iload_n 2 d_X4_hold_16 rfl rfl ?_
      refine x_cvip (k := 41) (as := [.int p]) (c_X4_isOne l E μ hR hWF p) v_X4_isOne w_X4_isOne q791 o_M rfl ⟨Nat.le_of_ble_eq_true rfl, Nat.le_of_ble_eq_true rfl⟩ rfl (Nat.le_of_ble_eq_true rfl) d_X4_hold_17 ?_
      refine x_ifb_ne 30 d_X4_hold_20 (by decide) (fun c14 => ?_) (fun c14 => ?_)
      · skip
        obtain ⟨q, hq, rfl⟩ := isP_nat hWF c14
        refine x_aload_n 0 d_X4_hold_30 rfl rfl ?_
        refine x_getr (j := 0) 42 x_c4 rfl (Nat.le_of_ble_eq_true rfl) q668 rfl d_X4_hold_31 ?_
        refine x_bipush (x := 48) d_X4_hold_34 (by decide) ?_
        refine x_iload_n 1 d_X4_hold_36 rfl rfl ?_
        refine x_iadd d_X4_hold_37 ?_
        rw [show (48 : Int32) + (nI jj) = nI (48 + jj) from nI_add 48 jj]
        refine x_iload_n 2 d_X4_hold_38 rfl rfl ?_
        refine x_iastNG 58 (48 + jj) rfl rfl (by omega) (by decide) d_X4_hold_39 (fun μ15 eμ15 => ?_)
        have hR16 : MR (upd (gA g) ((48 + jj)) (nI q)) μ15 := MR.w hR eμ15
        have hX17 := MX.cg hX (μ' := μ15) (fun id hid => (by rw [eμ15, upd2_ne _ _ _ (by omega)]))
        have hD18 := MD.cg hD (μ' := μ15) (fun id hid => (by rw [eμ15, upd2_ne _ _ _ (by omega)]))
        have hF19 : ∀ id, id < 41 → μ15 id = μ id := fun id hid => (show μ15 id = μ id from (by rw [eμ15, upd2_ne _ _ _ (by omega)])).trans (hF id hid)
        refine x_iconst (x := 1) d_X4_hold_40 (by decide) ?_
        refine x_iret rfl d_X4_hold_41 ?_
        have e9 : F_hold g (nI jj) (nI q) = (1, sA g (upd (gA g) ((48 + jj)) (nI q))) := by simp [F_hold, x_b_f, x_b_t, c1, c8, c14, nI_clamp (n := jj) (by omega), nI_clamp (n := q) (by omega)]
        rw [e9]
        exact ⟨rfl, MS.line hR16 hX17 hD18, hF19⟩
      · skip
        refine x_aload_n 0 d_X4_hold_23 rfl rfl ?_
        refine x_ldc q734 d_X4_hold_24 ?_
        refine x_cvi (k := 41) (as := [.int (-1000001)]) (c_X4_finds l E μ (i := 0) hD (by decide) (w := (-1000001)) (by decide)) v_X4_finds w_X4_finds q735 o_M rfl ⟨Nat.le_of_ble_eq_true rfl, Nat.le_of_ble_eq_true rfl⟩ rfl (Nat.le_of_ble_eq_true rfl) d_X4_hold_26 ?_
        rintro _ μ20 ⟨rfl, hD21, hF22⟩
        have hR23 := MR.cg hR (μ' := μ20) (fun id hid => (hF22 _ (by omega)))
        have hX24 := MX.cg hX (μ' := μ20) (fun id hid => (hF22 _ (by omega)))
        have hF25 : ∀ id, id < 41 → μ20 id = μ id := fun id hid => (show μ20 id = μ id from (hF22 _ (by omega))).trans (hF id hid)
        refine x_iret rfl d_X4_hold_29 ?_
        have e9 : F_hold g (nI jj) p = fin g 0 := by simp [F_hold, x_b_f, x_b_t, c1, c8, c14, nI_clamp (n := jj) (by omega)]
        rw [e9]
        exact ⟨rfl, MS.fin hR23 hX24 hD21, hF25⟩
def m_X4_image : x_M := (yX4_image, prog_6_method_97_code, 1, (some FieldType.int), 1, 22)
theorem v_X4_image : x_VM m_X4_image 0 := ⟨q1106, q6, by decide +kernel, by decide +kernel, by decide +kernel⟩
theorem w_X4_image : x_VI m_X4_image := ⟨q1104, q1105⟩
theorem d_X4_image_0 : x_dec m_X4_image 0 (.aload_n 0) 1 1 := ⟨by decide +kernel, rfl⟩
theorem d_X4_image_1 : x_dec m_X4_image 1 (.getfield 9) 3 4 := ⟨by decide +kernel, rfl⟩
theorem d_X4_image_4 : x_dec m_X4_image 4 (.aload_n 0) 1 5 := ⟨by decide +kernel, rfl⟩
theorem d_X4_image_5 : x_dec m_X4_image 5 (.getfield 13) 3 8 := ⟨by decide +kernel, rfl⟩
theorem d_X4_image_8 : x_dec m_X4_image 8 (.invokestatic 127) 3 11 := ⟨by decide +kernel, rfl⟩
theorem d_X4_image_11 : x_dec m_X4_image 11 (.aload_n 0) 1 12 := ⟨by decide +kernel, rfl⟩
theorem d_X4_image_12 : x_dec m_X4_image 12 (.iconst 1) 1 13 := ⟨by decide +kernel, rfl⟩
theorem d_X4_image_13 : x_dec m_X4_image 13 (.putfield 246) 3 16 := ⟨by decide +kernel, rfl⟩
theorem d_X4_image_16 : x_dec m_X4_image 16 (.iconst 1) 1 17 := ⟨by decide +kernel, rfl⟩
theorem d_X4_image_17 : x_dec m_X4_image 17 (.ireturn) 1 18 := ⟨by decide +kernel, rfl⟩
set_option maxHeartbeats 4000000 in
set_option maxRecDepth 100000 in
theorem c_X4_image (l : Launch) (E : x_E) (μ : x_Mem) (g : x_SG) (hS : MS g μ) (hI : Inv g) : x_Met l m_X4_image E [.ref (E.1 + 41)] μ (x_I (fun z m => z = (F_image g).1 ∧ MS (F_image g).2 m ∧ ∀ id, id < 41 → m id = μ id)) := by
  obtain ⟨hR, hX, hD⟩ := hS
  have hWF := hI.1.1
  have hn7 := hWF.2.1
  have hpn := hWF.1
  have hF : ∀ id, id < 41 → μ id = μ id := fun _ _ => rfl
  have hF2 : ∀ id, (id = 41 ∨ (48 ≤ id ∧ id < 52)) → μ id = μ id := fun _ _ => rfl
  refine x_enter (lv := [(0, .ref (E.1 + 41))]) (by decide +kernel) (Nat.le_of_ble_eq_true rfl) rfl ?_
  refine x_aload_n 0 d_X4_image_0 rfl rfl ?_
  refine x_getr (j := 0) 42 x_c4 rfl (Nat.le_of_ble_eq_true rfl) q668 rfl d_X4_image_1 ?_
  refine x_aload_n 0 d_X4_image_4 rfl rfl ?_
  refine x_getr (j := 1) 43 x_c4 rfl (Nat.le_of_ble_eq_true rfl) q669 rfl d_X4_image_5 ?_
  refine x_csv (as := [.ref (E.1 + 42), .ref (E.1 + 43)]) (c_X4_copyAll l E μ (k1 := 42) (k2 := 43) (by decide) rfl rfl rfl rfl) v_X4_copyAll q864 q863 rfl ⟨Nat.le_of_ble_eq_true rfl, Nat.le_of_ble_eq_true rfl⟩ rfl (Nat.le_of_ble_eq_true rfl) d_X4_image_8 ?_
  rintro μ1 ⟨hq2, hF3⟩
  have hKP4 : MKp (gA g) μ1 := fun j hj => (hq2 j hj).trans (hR j hj)
  have hR5 := MR.cg hR (μ' := μ1) (fun id hid => (hF3 _ (by omega)))
  have hD6 := MD.cg hD (μ' := μ1) (fun id hid => (hF3 _ (by omega)))
  have hF7 : ∀ id, id < 41 → μ1 id = μ id := fun id hid => (show μ1 id = μ id from (hF3 _ (by omega))).trans (hF id hid)
  have hF28 : ∀ id, (id = 41 ∨ (48 ≤ id ∧ id < 52)) → μ1 id = μ id := fun id hid => (show μ1 id = μ id from (hF3 _ (by omega))).trans (hF2 id hid)
  have hF3 : ∀ id, (48 ≤ id ∧ id < 52) → μ1 id = μ id := fun id hid => hF28 id (by omega)
  have h41 : μ1 41 = μ 41 := hF28 41 (by omega)
  refine x_aload_n 0 d_X4_image_11 rfl rfl ?_
  refine x_iconst (x := 1) d_X4_image_12 (by decide) ?_
  refine x_putzG (j := 3) (q := true) x_c4 rfl (Nat.le_of_ble_eq_true rfl) q671 rfl rfl rfl d_X4_image_13 (fun μ9 eμ9 => ?_)
  have hR10 := MR.cg hR5 (μ' := μ9) (fun id hid => (by rw [eμ9, upd2_ne _ _ _ (by omega)]))
  have hD11 := MD.cg hD6 (μ' := μ9) (fun id hid => (by rw [eμ9, upd2_ne _ _ _ (by omega)]))
  have hF12 : ∀ id, id < 41 → μ9 id = μ id := fun id hid => (show μ9 id = μ1 id from (by rw [eμ9, upd2_ne _ _ _ (by omega)])).trans (hF7 id hid)
  have hKP13 := MKp.cg hKP4 (μ' := μ9) (fun id hid => (by rw [eμ9, upd2_ne _ _ _ (by omega)]))
  have hF314 : ∀ id, (48 ≤ id ∧ id < 52) → μ9 id = μ id := fun id hid => (show μ9 id = μ1 id from (by rw [eμ9, upd2_ne _ _ _ (by omega)])).trans (hF3 id hid)
  refine x_iconst (x := 1) d_X4_image_16 (by decide) ?_
  refine x_iret rfl d_X4_image_17 ?_
  exact ⟨rfl, ⟨hR10, MX.img hX (fun _ => hKP13) (by rw [eμ9, upd2_at, upd_s]) (by rw [eμ9, upd2_at, upd_n _ _ (by decide), h41]) hF314, hD11⟩, hF12⟩
def m_X4_undo : x_M := (yX4_undo, prog_6_method_98_code, 1, (some FieldType.int), 1, 22)
theorem v_X4_undo : x_VM m_X4_undo 0 := ⟨q1110, q6, by decide +kernel, by decide +kernel, by decide +kernel⟩
theorem w_X4_undo : x_VI m_X4_undo := ⟨q1108, q1109⟩
theorem d_X4_undo_0 : x_dec m_X4_undo 0 (.aload_n 0) 1 1 := ⟨by decide +kernel, rfl⟩
theorem d_X4_undo_1 : x_dec m_X4_undo 1 (.getfield 246) 3 4 := ⟨by decide +kernel, rfl⟩
theorem d_X4_undo_4 : x_dec m_X4_undo 4 (.ifCond .ne 10) 3 7 := ⟨by decide +kernel, rfl⟩
theorem d_X4_undo_7 : x_dec m_X4_undo 7 (.aload_n 0) 1 8 := ⟨by decide +kernel, rfl⟩
theorem d_X4_undo_8 : x_dec m_X4_undo 8 (.ldc 41) 2 10 := ⟨by decide +kernel, rfl⟩
theorem d_X4_undo_10 : x_dec m_X4_undo 10 (.invokevirtual 42) 3 13 := ⟨by decide +kernel, rfl⟩
theorem d_X4_undo_13 : x_dec m_X4_undo 13 (.ireturn) 1 14 := ⟨by decide +kernel, rfl⟩
theorem d_X4_undo_14 : x_dec m_X4_undo 14 (.aload_n 0) 1 15 := ⟨by decide +kernel, rfl⟩
theorem d_X4_undo_15 : x_dec m_X4_undo 15 (.getfield 13) 3 18 := ⟨by decide +kernel, rfl⟩
theorem d_X4_undo_18 : x_dec m_X4_undo 18 (.aload_n 0) 1 19 := ⟨by decide +kernel, rfl⟩
theorem d_X4_undo_19 : x_dec m_X4_undo 19 (.getfield 9) 3 22 := ⟨by decide +kernel, rfl⟩
theorem d_X4_undo_22 : x_dec m_X4_undo 22 (.invokestatic 127) 3 25 := ⟨by decide +kernel, rfl⟩
theorem d_X4_undo_25 : x_dec m_X4_undo 25 (.aload_n 0) 1 26 := ⟨by decide +kernel, rfl⟩
theorem d_X4_undo_26 : x_dec m_X4_undo 26 (.getfield 9) 3 29 := ⟨by decide +kernel, rfl⟩
theorem d_X4_undo_29 : x_dec m_X4_undo 29 (.iconst 0) 1 30 := ⟨by decide +kernel, rfl⟩
theorem d_X4_undo_30 : x_dec m_X4_undo 30 (.iaload) 1 31 := ⟨by decide +kernel, rfl⟩
theorem d_X4_undo_31 : x_dec m_X4_undo 31 (.ireturn) 1 32 := ⟨by decide +kernel, rfl⟩
set_option maxHeartbeats 4000000 in
set_option maxRecDepth 100000 in
theorem c_X4_undo (l : Launch) (E : x_E) (μ : x_Mem) (g : x_SG) (hS : MS g μ) (hI : Inv g) : x_Met l m_X4_undo E [.ref (E.1 + 41)] μ (x_I (fun z m => z = (F_undo g).1 ∧ MS (F_undo g).2 m ∧ ∀ id, id < 41 → m id = μ id)) := by
  obtain ⟨hR, hX, hD⟩ := hS
  have hWF := hI.1.1
  have hn7 := hWF.2.1
  have hpn := hWF.1
  have hF : ∀ id, id < 41 → μ id = μ id := fun _ _ => rfl
  refine x_enter (lv := [(0, .ref (E.1 + 41))]) (by decide +kernel) (Nat.le_of_ble_eq_true rfl) rfl ?_
  refine x_aload_n 0 d_X4_undo_0 rfl rfl ?_
  refine x_getiV (j := 3) (z := (x_b (gP g))) x_c4 rfl (Nat.le_of_ble_eq_true rfl) q671 rfl (hX.2.1) d_X4_undo_1 ?_
  refine x_ifb_ne 14 d_X4_undo_4 (by decide) (fun c1 => ?_) (fun c1 => ?_)
  · skip
    have hKP : MKp (gK g) μ := hX.1 c1
    refine x_aload_n 0 d_X4_undo_14 rfl rfl ?_
    refine x_getr (j := 1) 43 x_c4 rfl (Nat.le_of_ble_eq_true rfl) q669 rfl d_X4_undo_15 ?_
    refine x_aload_n 0 d_X4_undo_18 rfl rfl ?_
    refine x_getr (j := 0) 42 x_c4 rfl (Nat.le_of_ble_eq_true rfl) q668 rfl d_X4_undo_19 ?_
    refine x_csv (as := [.ref (E.1 + 43), .ref (E.1 + 42)]) (c_X4_copyAll l E μ (k1 := 43) (k2 := 42) (by decide) rfl rfl rfl rfl) v_X4_copyAll q864 q863 rfl ⟨Nat.le_of_ble_eq_true rfl, Nat.le_of_ble_eq_true rfl⟩ rfl (Nat.le_of_ble_eq_true rfl) d_X4_undo_22 ?_
    rintro μ2 ⟨hq3, hF4⟩
    have hR5 : MR (gK g) μ2 := fun j hj => (hq3 j hj).trans (hKP j hj)
    have hX6 := MX.cg hX (μ' := μ2) (fun id hid => (hF4 _ (by omega)))
    have hD7 := MD.cg hD (μ' := μ2) (fun id hid => (hF4 _ (by omega)))
    have hF8 : ∀ id, id < 41 → μ2 id = μ id := fun id hid => (show μ2 id = μ id from (hF4 _ (by omega))).trans (hF id hid)
    have hKP9 := MKp.cg hKP (μ' := μ2) (fun id hid => (hF4 _ (by omega)))
    refine x_aload_n 0 d_X4_undo_25 rfl rfl ?_
    refine x_getr (j := 0) 42 x_c4 rfl (Nat.le_of_ble_eq_true rfl) q668 rfl d_X4_undo_26 ?_
    refine x_iconst (x := 0) d_X4_undo_29 (by decide) ?_
    refine x_ialdN (z := (gK g) 0) 58 0 rfl rfl (by omega) (by decide) (hR5 0 (by omega)) d_X4_undo_30 ?_
    refine x_iret rfl d_X4_undo_31 ?_
    have e9 : F_undo g = ((gK g) 0, sA g (gK g)) := by simp [F_undo, x_b_f, x_b_t, c1]
    rw [e9]
    exact ⟨rfl, MS.line hR5 hX6 hD7, hF8⟩
  · skip
    refine x_aload_n 0 d_X4_undo_7 rfl rfl ?_
    refine x_ldc q885 d_X4_undo_8 ?_
    refine x_cvi (k := 41) (as := [.int (-1000004)]) (c_X4_finds l E μ (i := 3) hD (by decide) (w := (-1000004)) (by decide)) v_X4_finds w_X4_finds q735 o_M rfl ⟨Nat.le_of_ble_eq_true rfl, Nat.le_of_ble_eq_true rfl⟩ rfl (Nat.le_of_ble_eq_true rfl) d_X4_undo_10 ?_
    rintro _ μ10 ⟨rfl, hD11, hF12⟩
    have hR13 := MR.cg hR (μ' := μ10) (fun id hid => (hF12 _ (by omega)))
    have hX14 := MX.cg hX (μ' := μ10) (fun id hid => (hF12 _ (by omega)))
    have hF15 : ∀ id, id < 41 → μ10 id = μ id := fun id hid => (show μ10 id = μ id from (hF12 _ (by omega))).trans (hF id hid)
    refine x_iret rfl d_X4_undo_13 ?_
    have e9 : F_undo g = fin g 3 := by simp [F_undo, x_b_f, x_b_t, c1]
    rw [e9]
    exact ⟨rfl, MS.fin hR13 hX14 hD11, hF15⟩
def m_X4_tear : x_M := (yX4_tear, prog_6_method_99_code, 2, (some FieldType.int), 0, 0)
theorem v_X4_tear : x_VM m_X4_tear 0 := ⟨q1114, q6, by decide +kernel, by decide +kernel, by decide +kernel⟩
theorem w_X4_tear : x_VI m_X4_tear := ⟨q1112, q1113⟩
theorem d_X4_tear_0 : x_dec m_X4_tear 0 (.aload_n 0) 1 1 := ⟨by decide +kernel, rfl⟩
theorem d_X4_tear_1 : x_dec m_X4_tear 1 (.getfield 246) 3 4 := ⟨by decide +kernel, rfl⟩
theorem d_X4_tear_4 : x_dec m_X4_tear 4 (.ifCond .eq 7) 3 7 := ⟨by decide +kernel, rfl⟩
theorem d_X4_tear_7 : x_dec m_X4_tear 7 (.iconst 1) 1 8 := ⟨by decide +kernel, rfl⟩
theorem d_X4_tear_8 : x_dec m_X4_tear 8 (.goto 4) 3 11 := ⟨by decide +kernel, rfl⟩
theorem d_X4_tear_11 : x_dec m_X4_tear 11 (.iconst 0) 1 12 := ⟨by decide +kernel, rfl⟩
theorem d_X4_tear_12 : x_dec m_X4_tear 12 (.istore_n 1) 1 13 := ⟨by decide +kernel, rfl⟩
theorem d_X4_tear_13 : x_dec m_X4_tear 13 (.aload_n 0) 1 14 := ⟨by decide +kernel, rfl⟩
theorem d_X4_tear_14 : x_dec m_X4_tear 14 (.iconst 0) 1 15 := ⟨by decide +kernel, rfl⟩
theorem d_X4_tear_15 : x_dec m_X4_tear 15 (.putfield 246) 3 18 := ⟨by decide +kernel, rfl⟩
theorem d_X4_tear_18 : x_dec m_X4_tear 18 (.iload_n 1) 1 19 := ⟨by decide +kernel, rfl⟩
theorem d_X4_tear_19 : x_dec m_X4_tear 19 (.ireturn) 1 20 := ⟨by decide +kernel, rfl⟩
set_option maxHeartbeats 4000000 in
set_option maxRecDepth 100000 in
theorem c_X4_tear (l : Launch) (E : x_E) (μ : x_Mem) (g : x_SG) (hS : MS g μ) (hI : Inv g) : x_Met l m_X4_tear E [.ref (E.1 + 41)] μ (x_I (fun z m => z = (F_tear g).1 ∧ MS (F_tear g).2 m ∧ ∀ id, id < 41 → m id = μ id)) := by
  obtain ⟨hR, hX, hD⟩ := hS
  have hWF := hI.1.1
  have hn7 := hWF.2.1
  have hpn := hWF.1
  have hF : ∀ id, id < 41 → μ id = μ id := fun _ _ => rfl
  have hF2 : ∀ id, (id = 41 ∨ (48 ≤ id ∧ id < 52)) → μ id = μ id := fun _ _ => rfl
  refine x_enter (lv := [(0, .ref (E.1 + 41))]) (by decide +kernel) (Nat.le_of_ble_eq_true rfl) rfl ?_
  refine x_aload_n 0 d_X4_tear_0 rfl rfl ?_
  refine x_getiV (j := 3) (z := (x_b (gP g))) x_c4 rfl (Nat.le_of_ble_eq_true rfl) q671 rfl (hX.2.1) d_X4_tear_1 ?_
  refine x_ifb_eq 11 d_X4_tear_4 (by decide) (fun c1 => ?_) (fun c1 => ?_)
  · skip
    refine x_iconst (x := 0) d_X4_tear_11 (by decide) ?_
    refine x_istore_n [(1, .int 0), (0, .ref (E.1 + 41))] d_X4_tear_12 rfl (Nat.le_of_ble_eq_true rfl) rfl ?_
    have hF3 : ∀ id, (48 ≤ id ∧ id < 52) → μ id = μ id := fun id hid => hF2 id (by omega)
    have h41 : μ 41 = μ 41 := hF2 41 (by omega)
    refine x_aload_n 1 d_X4_tear_13 rfl rfl ?_
    refine x_iconst (x := 0) d_X4_tear_14 (by decide) ?_
    refine x_putzG (j := 3) (q := false) x_c4 rfl (Nat.le_of_ble_eq_true rfl) q671 rfl rfl rfl d_X4_tear_15 (fun μ2 eμ2 => ?_)
    have hR3 := MR.cg hR (μ' := μ2) (fun id hid => (by rw [eμ2, upd2_ne _ _ _ (by omega)]))
    have hD4 := MD.cg hD (μ' := μ2) (fun id hid => (by rw [eμ2, upd2_ne _ _ _ (by omega)]))
    have hF5 : ∀ id, id < 41 → μ2 id = μ id := fun id hid => (show μ2 id = μ id from (by rw [eμ2, upd2_ne _ _ _ (by omega)])).trans (hF id hid)
    have hF36 : ∀ id, (48 ≤ id ∧ id < 52) → μ2 id = μ id := fun id hid => (show μ2 id = μ id from (by rw [eμ2, upd2_ne _ _ _ (by omega)])).trans (hF3 id hid)
    refine x_iload_n 0 d_X4_tear_18 rfl rfl ?_
    refine x_iret rfl d_X4_tear_19 ?_
    have e9 : F_tear g = (0, sK g (gK g) false) := by unfold F_tear; rw [c1]; rfl
    rw [e9]
    exact ⟨rfl, ⟨hR3, MX.img hX (fun z => Bool.noConfusion z) (by rw [eμ2, upd2_at, upd_s]) (by rw [eμ2, upd2_at, upd_n _ _ (by decide)]) hF36, hD4⟩, hF5⟩
  · skip
    refine x_iconst (x := 1) d_X4_tear_7 (by decide) ?_
    refine x_goto 12 d_X4_tear_8 (by decide) ?_
    refine x_istore_n [(1, .int 1), (0, .ref (E.1 + 41))] d_X4_tear_12 rfl (Nat.le_of_ble_eq_true rfl) rfl ?_
    have hF3 : ∀ id, (48 ≤ id ∧ id < 52) → μ id = μ id := fun id hid => hF2 id (by omega)
    have h41 : μ 41 = μ 41 := hF2 41 (by omega)
    refine x_aload_n 1 d_X4_tear_13 rfl rfl ?_
    refine x_iconst (x := 0) d_X4_tear_14 (by decide) ?_
    refine x_putzG (j := 3) (q := false) x_c4 rfl (Nat.le_of_ble_eq_true rfl) q671 rfl rfl rfl d_X4_tear_15 (fun μ7 eμ7 => ?_)
    have hR8 := MR.cg hR (μ' := μ7) (fun id hid => (by rw [eμ7, upd2_ne _ _ _ (by omega)]))
    have hD9 := MD.cg hD (μ' := μ7) (fun id hid => (by rw [eμ7, upd2_ne _ _ _ (by omega)]))
    have hF10 : ∀ id, id < 41 → μ7 id = μ id := fun id hid => (show μ7 id = μ id from (by rw [eμ7, upd2_ne _ _ _ (by omega)])).trans (hF id hid)
    have hF311 : ∀ id, (48 ≤ id ∧ id < 52) → μ7 id = μ id := fun id hid => (show μ7 id = μ id from (by rw [eμ7, upd2_ne _ _ _ (by omega)])).trans (hF3 id hid)
    refine x_iload_n 0 d_X4_tear_18 rfl rfl ?_
    refine x_iret rfl d_X4_tear_19 ?_
    have e9 : F_tear g = (1, sK g (gK g) false) := by unfold F_tear; rw [c1]; rfl
    rw [e9]
    exact ⟨rfl, ⟨hR8, MX.img hX (fun z => Bool.noConfusion z) (by rw [eμ7, upd2_at, upd_s]) (by rw [eμ7, upd2_at, upd_n _ _ (by decide)]) hF311, hD9⟩, hF10⟩
def m_X4_wipe : x_M := (yX4_wipe, prog_6_method_76_code, 2, (some FieldType.int), 0, 0)
theorem v_X4_wipe : x_VM m_X4_wipe 0 := ⟨q1019, q6, by decide +kernel, by decide +kernel, by decide +kernel⟩
theorem w_X4_wipe : x_VI m_X4_wipe := ⟨q1017, q1018⟩
theorem d_X4_wipe_0 : x_dec m_X4_wipe 0 (.aload_n 0) 1 1 := ⟨by decide +kernel, rfl⟩
theorem d_X4_wipe_1 : x_dec m_X4_wipe 1 (.getfield 183) 3 4 := ⟨by decide +kernel, rfl⟩
theorem d_X4_wipe_4 : x_dec m_X4_wipe 4 (.istore_n 1) 1 5 := ⟨by decide +kernel, rfl⟩
theorem d_X4_wipe_5 : x_dec m_X4_wipe 5 (.aload_n 0) 1 6 := ⟨by decide +kernel, rfl⟩
theorem d_X4_wipe_6 : x_dec m_X4_wipe 6 (.iconst 0) 1 7 := ⟨by decide +kernel, rfl⟩
theorem d_X4_wipe_7 : x_dec m_X4_wipe 7 (.putfield 183) 3 10 := ⟨by decide +kernel, rfl⟩
theorem d_X4_wipe_10 : x_dec m_X4_wipe 10 (.iload_n 1) 1 11 := ⟨by decide +kernel, rfl⟩
theorem d_X4_wipe_11 : x_dec m_X4_wipe 11 (.ireturn) 1 12 := ⟨by decide +kernel, rfl⟩
set_option maxHeartbeats 4000000 in
set_option maxRecDepth 100000 in
theorem c_X4_wipe (l : Launch) (E : x_E) (μ : x_Mem) (g : x_SG) (hS : MS g μ) (hI : Inv g) : x_Met l m_X4_wipe E [.ref (E.1 + 41)] μ (x_I (fun z m => z = (F_wipe g).1 ∧ MS (F_wipe g).2 m ∧ ∀ id, id < 41 → m id = μ id)) := by
  obtain ⟨hR, hX, hD⟩ := hS
  have hWF := hI.1.1
  have hn7 := hWF.2.1
  have hpn := hWF.1
  have hF : ∀ id, id < 41 → μ id = μ id := fun _ _ => rfl
  refine x_enter (lv := [(0, .ref (E.1 + 41))]) (by decide +kernel) (Nat.le_of_ble_eq_true rfl) rfl ?_
  refine x_aload_n 0 d_X4_wipe_0 rfl rfl ?_
  refine x_getiV (j := 11) (z := nI (gT g)) x_c4 rfl (Nat.le_of_ble_eq_true rfl) q679 rfl (hX.2.2.1) d_X4_wipe_1 ?_
  refine x_istore_n [(1, .int (nI (gT g))), (0, .ref (E.1 + 41))] d_X4_wipe_4 rfl (Nat.le_of_ble_eq_true rfl) rfl ?_
  refine x_aload_n 1 d_X4_wipe_5 rfl rfl ?_
  refine x_iconst (x := 0) d_X4_wipe_6 (by decide) ?_
  refine x_putiG (j := 11) x_c4 rfl (Nat.le_of_ble_eq_true rfl) q679 rfl rfl rfl d_X4_wipe_7 (fun μ1 eμ1 => ?_)
  have hR2 := MR.cg hR (μ' := μ1) (fun id hid => (by rw [eμ1, upd2_ne _ _ _ (by omega)]))
  have hD3 := MD.cg hD (μ' := μ1) (fun id hid => (by rw [eμ1, upd2_ne _ _ _ (by omega)]))
  have hF4 : ∀ id, id < 41 → μ1 id = μ id := fun id hid => (show μ1 id = μ id from (by rw [eμ1, upd2_ne _ _ _ (by omega)])).trans (hF id hid)
  refine x_iload_n 0 d_X4_wipe_10 rfl rfl ?_
  refine x_iret rfl d_X4_wipe_11 ?_
  exact ⟨rfl, ⟨hR2, MX.tape hX (by rw [eμ1, upd2_at, upd_n _ _ (by decide)]) (by rw [eμ1, upd2_at, upd_s]; rfl) (fun _ hj => absurd hj (Nat.not_lt_zero _)) (fun id hid => by rw [eμ1, upd2_ne _ _ _ (by omega)]), hD3⟩, hF4⟩
def m_X4_stretch : x_M := (yX4_stretch, prog_6_method_22_code, 3, (some FieldType.int), 6, 136)
theorem v_X4_stretch : x_VM m_X4_stretch 2 := ⟨q742, q6, by decide +kernel, by decide +kernel, by decide +kernel⟩
theorem w_X4_stretch : x_VI m_X4_stretch := ⟨q740, q741⟩
theorem d_X4_stretch_0 : x_dec m_X4_stretch 0 (.iload_n 1) 1 1 := ⟨by decide +kernel, rfl⟩
theorem d_X4_stretch_1 : x_dec m_X4_stretch 1 (.invokestatic 78) 3 4 := ⟨by decide +kernel, rfl⟩
theorem d_X4_stretch_4 : x_dec m_X4_stretch 4 (.ifCond .eq 12) 3 7 := ⟨by decide +kernel, rfl⟩
theorem d_X4_stretch_7 : x_dec m_X4_stretch 7 (.iload_n 2) 1 8 := ⟨by decide +kernel, rfl⟩
theorem d_X4_stretch_8 : x_dec m_X4_stretch 8 (.iconst 0) 1 9 := ⟨by decide +kernel, rfl⟩
theorem d_X4_stretch_9 : x_dec m_X4_stretch 9 (.iconst 2) 1 10 := ⟨by decide +kernel, rfl⟩
theorem d_X4_stretch_10 : x_dec m_X4_stretch 10 (.invokestatic 46) 3 13 := ⟨by decide +kernel, rfl⟩
theorem d_X4_stretch_13 : x_dec m_X4_stretch 13 (.ifCond .ne 10) 3 16 := ⟨by decide +kernel, rfl⟩
theorem d_X4_stretch_16 : x_dec m_X4_stretch 16 (.aload_n 0) 1 17 := ⟨by decide +kernel, rfl⟩
theorem d_X4_stretch_17 : x_dec m_X4_stretch 17 (.ldc 40) 2 19 := ⟨by decide +kernel, rfl⟩
theorem d_X4_stretch_19 : x_dec m_X4_stretch 19 (.invokevirtual 42) 3 22 := ⟨by decide +kernel, rfl⟩
theorem d_X4_stretch_22 : x_dec m_X4_stretch 22 (.ireturn) 1 23 := ⟨by decide +kernel, rfl⟩
theorem d_X4_stretch_23 : x_dec m_X4_stretch 23 (.iload_n 2) 1 24 := ⟨by decide +kernel, rfl⟩
theorem d_X4_stretch_24 : x_dec m_X4_stretch 24 (.ifCond .ne 15) 3 27 := ⟨by decide +kernel, rfl⟩
theorem d_X4_stretch_27 : x_dec m_X4_stretch 27 (.aload_n 0) 1 28 := ⟨by decide +kernel, rfl⟩
theorem d_X4_stretch_28 : x_dec m_X4_stretch 28 (.getfield 9) 3 31 := ⟨by decide +kernel, rfl⟩
theorem d_X4_stretch_31 : x_dec m_X4_stretch 31 (.bipush 8) 2 33 := ⟨by decide +kernel, rfl⟩
theorem d_X4_stretch_33 : x_dec m_X4_stretch 33 (.iload_n 1) 1 34 := ⟨by decide +kernel, rfl⟩
theorem d_X4_stretch_34 : x_dec m_X4_stretch 34 (.iadd) 1 35 := ⟨by decide +kernel, rfl⟩
theorem d_X4_stretch_35 : x_dec m_X4_stretch 35 (.iaload) 1 36 := ⟨by decide +kernel, rfl⟩
theorem d_X4_stretch_36 : x_dec m_X4_stretch 36 (.goto 29) 3 39 := ⟨by decide +kernel, rfl⟩
theorem d_X4_stretch_39 : x_dec m_X4_stretch 39 (.iload_n 2) 1 40 := ⟨by decide +kernel, rfl⟩
theorem d_X4_stretch_40 : x_dec m_X4_stretch 40 (.iconst 1) 1 41 := ⟨by decide +kernel, rfl⟩
theorem d_X4_stretch_41 : x_dec m_X4_stretch 41 (.if_icmp .ne 11) 3 44 := ⟨by decide +kernel, rfl⟩
theorem d_X4_stretch_44 : x_dec m_X4_stretch 44 (.aload_n 0) 1 45 := ⟨by decide +kernel, rfl⟩
theorem d_X4_stretch_45 : x_dec m_X4_stretch 45 (.iload_n 1) 1 46 := ⟨by decide +kernel, rfl⟩
theorem d_X4_stretch_46 : x_dec m_X4_stretch 46 (.invokevirtual 71) 3 49 := ⟨by decide +kernel, rfl⟩
theorem d_X4_stretch_49 : x_dec m_X4_stretch 49 (.goto 16) 3 52 := ⟨by decide +kernel, rfl⟩
theorem d_X4_stretch_52 : x_dec m_X4_stretch 52 (.aload_n 0) 1 53 := ⟨by decide +kernel, rfl⟩
theorem d_X4_stretch_53 : x_dec m_X4_stretch 53 (.iload_n 1) 1 54 := ⟨by decide +kernel, rfl⟩
theorem d_X4_stretch_54 : x_dec m_X4_stretch 54 (.invokevirtual 74) 3 57 := ⟨by decide +kernel, rfl⟩
theorem d_X4_stretch_57 : x_dec m_X4_stretch 57 (.ifCond .eq 7) 3 60 := ⟨by decide +kernel, rfl⟩
theorem d_X4_stretch_60 : x_dec m_X4_stretch 60 (.iconst 1) 1 61 := ⟨by decide +kernel, rfl⟩
theorem d_X4_stretch_61 : x_dec m_X4_stretch 61 (.goto 4) 3 64 := ⟨by decide +kernel, rfl⟩
theorem d_X4_stretch_64 : x_dec m_X4_stretch 64 (.iconst 0) 1 65 := ⟨by decide +kernel, rfl⟩
theorem d_X4_stretch_65 : x_dec m_X4_stretch 65 (.ireturn) 1 66 := ⟨by decide +kernel, rfl⟩
set_option maxHeartbeats 4000000 in
set_option maxRecDepth 100000 in
theorem c_X4_stretch (l : Launch) (E : x_E) (μ : x_Mem) (g : x_SG) (hS : MS g μ) (hI : Inv g) (k w : Int32) : x_Met l m_X4_stretch E [.ref (E.1 + 41), .int k, .int w] μ (x_I (fun z m => z = (F_stretch g k w).1 ∧ MS (F_stretch g k w).2 m ∧ ∀ id, id < 41 → m id = μ id)) := by
  obtain ⟨hR, hX, hD⟩ := hS
  have hWF := hI.1.1
  have hn7 := hWF.2.1
  have hpn := hWF.1
  have hF : ∀ id, id < 41 → μ id = μ id := fun _ _ => rfl
  refine x_enter (lv := [(0, .ref (E.1 + 41)), (1, .int k), (2, .int w)]) (by decide +kernel) (Nat.le_of_ble_eq_true rfl) rfl ?_
  refine x_iload_n 1 d_X4_stretch_0 rfl rfl ?_
  refine x_csip (as := [.int k]) (c_X4_isStretch l E μ k) v_X4_isStretch q725 q724 rfl ⟨Nat.le_of_ble_eq_true rfl, Nat.le_of_ble_eq_true rfl⟩ rfl (Nat.le_of_ble_eq_true rfl) d_X4_stretch_1 ?_
  refine x_ifb_eq 16 d_X4_stretch_4 (by decide) (fun c1 => ?_) (fun c1 => ?_)
  · skip
    refine x_aload_n 0 d_X4_stretch_16 rfl rfl ?_
    refine x_ldc q734 d_X4_stretch_17 ?_
    refine x_cvi (k := 41) (as := [.int (-1000001)]) (c_X4_finds l E μ (i := 0) hD (by decide) (w := (-1000001)) (by decide)) v_X4_finds w_X4_finds q735 o_M rfl ⟨Nat.le_of_ble_eq_true rfl, Nat.le_of_ble_eq_true rfl⟩ rfl (Nat.le_of_ble_eq_true rfl) d_X4_stretch_19 ?_
    rintro _ μ2 ⟨rfl, hD3, hF4⟩
    have hR5 := MR.cg hR (μ' := μ2) (fun id hid => (hF4 _ (by omega)))
    have hX6 := MX.cg hX (μ' := μ2) (fun id hid => (hF4 _ (by omega)))
    have hF7 : ∀ id, id < 41 → μ2 id = μ id := fun id hid => (show μ2 id = μ id from (hF4 _ (by omega))).trans (hF id hid)
    refine x_iret rfl d_X4_stretch_22 ?_
    have e9 : F_stretch g k w = fin g 0 := by simp [F_stretch, x_b_f, x_b_t, c1]
    rw [e9]
    exact ⟨rfl, MS.fin hR5 hX6 hD3, hF7⟩
  · skip
    obtain ⟨n, hn, rfl⟩ := inR_nat (n := 15) (by decide) c1
    refine x_iload_n 2 d_X4_stretch_7 rfl rfl ?_
    refine x_iconst (x := 0) d_X4_stretch_8 (by decide) ?_
    refine x_iconst (x := 2) d_X4_stretch_9 (by decide) ?_
    refine x_csip (as := [.int w, .int 0, .int 2]) (c_X4_in l E μ w 0 2) v_X4_in q728 q727 rfl ⟨Nat.le_of_ble_eq_true rfl, Nat.le_of_ble_eq_true rfl⟩ rfl (Nat.le_of_ble_eq_true rfl) d_X4_stretch_10 ?_
    refine x_ifb_ne 23 d_X4_stretch_13 (by decide) (fun c8 => ?_) (fun c8 => ?_)
    · skip
      refine x_iload_n 2 d_X4_stretch_23 rfl rfl ?_
      refine x_if_ne 39 d_X4_stretch_24 (by decide) (fun c9 => ?_) (fun c9 => ?_)
      · skip
        refine x_iload_n 2 d_X4_stretch_39 rfl rfl ?_
        refine x_iconst (x := 1) d_X4_stretch_40 (by decide) ?_
        refine x_icmp_ne 52 d_X4_stretch_41 (by decide) (fun c10 => ?_) (fun c10 => ?_)
        · skip
          refine x_aload_n 0 d_X4_stretch_52 rfl rfl ?_
          refine x_iload_n 1 d_X4_stretch_53 rfl rfl ?_
          refine x_cvip (k := 41) (as := [.int (nI n)]) (c_X4_isThere l E μ hR hWF (k := n) (by omega)) v_X4_isThere w_X4_isThere q770 o_M rfl ⟨Nat.le_of_ble_eq_true rfl, Nat.le_of_ble_eq_true rfl⟩ rfl (Nat.le_of_ble_eq_true rfl) d_X4_stretch_54 ?_
          refine x_ifb_eq 64 d_X4_stretch_57 (by decide) (fun c11 => ?_) (fun c11 => ?_)
          · skip
            refine x_iconst (x := 0) d_X4_stretch_64 (by decide) ?_
            refine x_iret rfl d_X4_stretch_65 ?_
            have e9 : F_stretch g (nI n) w = (0, g) := by simp [F_stretch, x_b_f, x_b_t, c1, c8, c9, c10, c11, nI_clamp (n := n) (by omega), in2_t c8 c9 c10]
            rw [e9]
            exact ⟨rfl, ⟨hR, hX, hD⟩, hF⟩
          · skip
            refine x_iconst (x := 1) d_X4_stretch_60 (by decide) ?_
            refine x_goto 65 d_X4_stretch_61 (by decide) ?_
            refine x_iret rfl d_X4_stretch_65 ?_
            have e9 : F_stretch g (nI n) w = (1, g) := by simp [F_stretch, x_b_f, x_b_t, c1, c8, c9, c10, c11, nI_clamp (n := n) (by omega), in2_t c8 c9 c10]
            rw [e9]
            exact ⟨rfl, ⟨hR, hX, hD⟩, hF⟩
        · skip
          refine x_aload_n 0 d_X4_stretch_44 rfl rfl ?_
          refine x_iload_n 1 d_X4_stretch_45 rfl rfl ?_
          refine x_cvip (k := 41) (as := [.int (nI n)]) (c_X4_sumAt l E μ hR hWF (k := n) (by omega)) v_X4_sumAt w_X4_sumAt q743 o_M rfl ⟨Nat.le_of_ble_eq_true rfl, Nat.le_of_ble_eq_true rfl⟩ rfl (Nat.le_of_ble_eq_true rfl) d_X4_stretch_46 ?_
          refine x_goto 65 d_X4_stretch_49 (by decide) ?_
          refine x_iret rfl d_X4_stretch_65 ?_
          have e9 : F_stretch g (nI n) w = (sumF (gA g) (nI n), g) := by simp [F_stretch, x_b_f, x_b_t, c1, c8, c9, c10, nI_clamp (n := n) (by omega)]
          rw [e9]
          exact ⟨rfl, ⟨hR, hX, hD⟩, hF⟩
      · skip
        refine x_aload_n 0 d_X4_stretch_27 rfl rfl ?_
        refine x_getr (j := 0) 42 x_c4 rfl (Nat.le_of_ble_eq_true rfl) q668 rfl d_X4_stretch_28 ?_
        refine x_bipush (x := 8) d_X4_stretch_31 (by decide) ?_
        refine x_iload_n 1 d_X4_stretch_33 rfl rfl ?_
        refine x_iadd d_X4_stretch_34 ?_
        rw [show (8 : Int32) + (nI n) = nI (8 + n) from nI_add 8 n]
        refine x_ialdN (z := (gA g) (8 + n)) 58 (8 + n) rfl rfl (by omega) (by decide) (hR (8 + n) (by omega)) d_X4_stretch_35 ?_
        refine x_goto 65 d_X4_stretch_36 (by decide) ?_
        refine x_iret rfl d_X4_stretch_65 ?_
        have e9 : F_stretch g (nI n) w = ((gA g) (8 + n), g) := by simp [F_stretch, x_b_f, x_b_t, c1, c8, c9, nI_clamp (n := n) (by omega)]
        rw [e9]
        exact ⟨rfl, ⟨hR, hX, hD⟩, hF⟩
    · skip
      refine x_aload_n 0 d_X4_stretch_16 rfl rfl ?_
      refine x_ldc q734 d_X4_stretch_17 ?_
      refine x_cvi (k := 41) (as := [.int (-1000001)]) (c_X4_finds l E μ (i := 0) hD (by decide) (w := (-1000001)) (by decide)) v_X4_finds w_X4_finds q735 o_M rfl ⟨Nat.le_of_ble_eq_true rfl, Nat.le_of_ble_eq_true rfl⟩ rfl (Nat.le_of_ble_eq_true rfl) d_X4_stretch_19 ?_
      rintro _ μ12 ⟨rfl, hD13, hF14⟩
      have hR15 := MR.cg hR (μ' := μ12) (fun id hid => (hF14 _ (by omega)))
      have hX16 := MX.cg hX (μ' := μ12) (fun id hid => (hF14 _ (by omega)))
      have hF17 : ∀ id, id < 41 → μ12 id = μ id := fun id hid => (show μ12 id = μ id from (hF14 _ (by omega))).trans (hF id hid)
      refine x_iret rfl d_X4_stretch_22 ?_
      have e9 : F_stretch g (nI n) w = fin g 0 := by simp [F_stretch, x_b_f, x_b_t, c1, c8, nI_clamp (n := n) (by omega), (in2_f c8).1, (in2_f c8).2.1, (in2_f c8).2.2]
      rw [e9]
      exact ⟨rfl, MS.fin hR15 hX16 hD13, hF17⟩
