def m_X2_kindNamed : x_M := (yX2_kindNamed, prog_4_method_5_code, 2, (some FieldType.int), 5, 107)
theorem v_X2_kindNamed : x_VM m_X2_kindNamed 0 := ⟨q505, q4, by decide +kernel, by decide +kernel, by decide +kernel⟩
theorem w_X2_kindNamed : x_VI m_X2_kindNamed := ⟨q504, qs15⟩
theorem d_X2_kindNamed_0 : x_dec m_X2_kindNamed 0 (.iconst (-1)) 1 1 := ⟨by decide +kernel, rfl⟩
theorem d_X2_kindNamed_1 : x_dec m_X2_kindNamed 1 (.istore_n 1) 1 2 := ⟨by decide +kernel, rfl⟩
theorem d_X2_kindNamed_2 : x_dec m_X2_kindNamed 2 (.aload_n 0) 1 3 := ⟨by decide +kernel, rfl⟩
theorem d_X2_kindNamed_3 : x_dec m_X2_kindNamed 3 (.ldc 79) 2 5 := ⟨by decide +kernel, rfl⟩
theorem d_X2_kindNamed_5 : x_dec m_X2_kindNamed 5 (.invokevirtual 48) 3 8 := ⟨by decide +kernel, rfl⟩
theorem d_X2_kindNamed_8 : x_dec m_X2_kindNamed 8 (.ifCond .eq 8) 3 11 := ⟨by decide +kernel, rfl⟩
theorem d_X2_kindNamed_11 : x_dec m_X2_kindNamed 11 (.iconst 0) 1 12 := ⟨by decide +kernel, rfl⟩
theorem d_X2_kindNamed_12 : x_dec m_X2_kindNamed 12 (.istore_n 1) 1 13 := ⟨by decide +kernel, rfl⟩
theorem d_X2_kindNamed_13 : x_dec m_X2_kindNamed 13 (.goto 85) 3 16 := ⟨by decide +kernel, rfl⟩
theorem d_X2_kindNamed_16 : x_dec m_X2_kindNamed 16 (.aload_n 0) 1 17 := ⟨by decide +kernel, rfl⟩
theorem d_X2_kindNamed_17 : x_dec m_X2_kindNamed 17 (.ldc 81) 2 19 := ⟨by decide +kernel, rfl⟩
theorem d_X2_kindNamed_19 : x_dec m_X2_kindNamed 19 (.invokevirtual 48) 3 22 := ⟨by decide +kernel, rfl⟩
theorem d_X2_kindNamed_22 : x_dec m_X2_kindNamed 22 (.ifCond .eq 8) 3 25 := ⟨by decide +kernel, rfl⟩
theorem d_X2_kindNamed_25 : x_dec m_X2_kindNamed 25 (.iconst 1) 1 26 := ⟨by decide +kernel, rfl⟩
theorem d_X2_kindNamed_26 : x_dec m_X2_kindNamed 26 (.istore_n 1) 1 27 := ⟨by decide +kernel, rfl⟩
theorem d_X2_kindNamed_27 : x_dec m_X2_kindNamed 27 (.goto 71) 3 30 := ⟨by decide +kernel, rfl⟩
theorem d_X2_kindNamed_30 : x_dec m_X2_kindNamed 30 (.aload_n 0) 1 31 := ⟨by decide +kernel, rfl⟩
theorem d_X2_kindNamed_31 : x_dec m_X2_kindNamed 31 (.ldc 83) 2 33 := ⟨by decide +kernel, rfl⟩
theorem d_X2_kindNamed_33 : x_dec m_X2_kindNamed 33 (.invokevirtual 48) 3 36 := ⟨by decide +kernel, rfl⟩
theorem d_X2_kindNamed_36 : x_dec m_X2_kindNamed 36 (.ifCond .eq 8) 3 39 := ⟨by decide +kernel, rfl⟩
theorem d_X2_kindNamed_39 : x_dec m_X2_kindNamed 39 (.iconst 2) 1 40 := ⟨by decide +kernel, rfl⟩
theorem d_X2_kindNamed_40 : x_dec m_X2_kindNamed 40 (.istore_n 1) 1 41 := ⟨by decide +kernel, rfl⟩
theorem d_X2_kindNamed_41 : x_dec m_X2_kindNamed 41 (.goto 57) 3 44 := ⟨by decide +kernel, rfl⟩
theorem d_X2_kindNamed_44 : x_dec m_X2_kindNamed 44 (.aload_n 0) 1 45 := ⟨by decide +kernel, rfl⟩
theorem d_X2_kindNamed_45 : x_dec m_X2_kindNamed 45 (.ldc 85) 2 47 := ⟨by decide +kernel, rfl⟩
theorem d_X2_kindNamed_47 : x_dec m_X2_kindNamed 47 (.invokevirtual 48) 3 50 := ⟨by decide +kernel, rfl⟩
theorem d_X2_kindNamed_50 : x_dec m_X2_kindNamed 50 (.ifCond .eq 8) 3 53 := ⟨by decide +kernel, rfl⟩
theorem d_X2_kindNamed_53 : x_dec m_X2_kindNamed 53 (.iconst 3) 1 54 := ⟨by decide +kernel, rfl⟩
theorem d_X2_kindNamed_54 : x_dec m_X2_kindNamed 54 (.istore_n 1) 1 55 := ⟨by decide +kernel, rfl⟩
theorem d_X2_kindNamed_55 : x_dec m_X2_kindNamed 55 (.goto 43) 3 58 := ⟨by decide +kernel, rfl⟩
theorem d_X2_kindNamed_58 : x_dec m_X2_kindNamed 58 (.aload_n 0) 1 59 := ⟨by decide +kernel, rfl⟩
theorem d_X2_kindNamed_59 : x_dec m_X2_kindNamed 59 (.ldc 87) 2 61 := ⟨by decide +kernel, rfl⟩
theorem d_X2_kindNamed_61 : x_dec m_X2_kindNamed 61 (.invokevirtual 48) 3 64 := ⟨by decide +kernel, rfl⟩
theorem d_X2_kindNamed_64 : x_dec m_X2_kindNamed 64 (.ifCond .eq 8) 3 67 := ⟨by decide +kernel, rfl⟩
theorem d_X2_kindNamed_67 : x_dec m_X2_kindNamed 67 (.iconst 4) 1 68 := ⟨by decide +kernel, rfl⟩
theorem d_X2_kindNamed_68 : x_dec m_X2_kindNamed 68 (.istore_n 1) 1 69 := ⟨by decide +kernel, rfl⟩
theorem d_X2_kindNamed_69 : x_dec m_X2_kindNamed 69 (.goto 29) 3 72 := ⟨by decide +kernel, rfl⟩
theorem d_X2_kindNamed_72 : x_dec m_X2_kindNamed 72 (.aload_n 0) 1 73 := ⟨by decide +kernel, rfl⟩
theorem d_X2_kindNamed_73 : x_dec m_X2_kindNamed 73 (.ldc 89) 2 75 := ⟨by decide +kernel, rfl⟩
theorem d_X2_kindNamed_75 : x_dec m_X2_kindNamed 75 (.invokevirtual 48) 3 78 := ⟨by decide +kernel, rfl⟩
theorem d_X2_kindNamed_78 : x_dec m_X2_kindNamed 78 (.ifCond .eq 8) 3 81 := ⟨by decide +kernel, rfl⟩
theorem d_X2_kindNamed_81 : x_dec m_X2_kindNamed 81 (.iconst 5) 1 82 := ⟨by decide +kernel, rfl⟩
theorem d_X2_kindNamed_82 : x_dec m_X2_kindNamed 82 (.istore_n 1) 1 83 := ⟨by decide +kernel, rfl⟩
theorem d_X2_kindNamed_83 : x_dec m_X2_kindNamed 83 (.goto 15) 3 86 := ⟨by decide +kernel, rfl⟩
theorem d_X2_kindNamed_86 : x_dec m_X2_kindNamed 86 (.aload_n 0) 1 87 := ⟨by decide +kernel, rfl⟩
theorem d_X2_kindNamed_87 : x_dec m_X2_kindNamed 87 (.ldc 91) 2 89 := ⟨by decide +kernel, rfl⟩
theorem d_X2_kindNamed_89 : x_dec m_X2_kindNamed 89 (.invokevirtual 48) 3 92 := ⟨by decide +kernel, rfl⟩
theorem d_X2_kindNamed_92 : x_dec m_X2_kindNamed 92 (.ifCond .eq 6) 3 95 := ⟨by decide +kernel, rfl⟩
theorem d_X2_kindNamed_95 : x_dec m_X2_kindNamed 95 (.bipush 6) 2 97 := ⟨by decide +kernel, rfl⟩
theorem d_X2_kindNamed_97 : x_dec m_X2_kindNamed 97 (.istore_n 1) 1 98 := ⟨by decide +kernel, rfl⟩
theorem d_X2_kindNamed_98 : x_dec m_X2_kindNamed 98 (.iload_n 1) 1 99 := ⟨by decide +kernel, rfl⟩
theorem d_X2_kindNamed_99 : x_dec m_X2_kindNamed 99 (.ireturn) 1 100 := ⟨by decide +kernel, rfl⟩
set_option maxHeartbeats 4000000 in
set_option maxRecDepth 100000 in
theorem c_X2_kindNamed (l : Launch) (E : x_E) (μ : x_Mem) {S : Nat → Int32} {n : Nat} (hn : n ≤ 120) (hW : TW S n μ) {t : x_Tk} (hK : TK t μ) (hO : TO S n t) : x_Met l m_X2_kindNamed E [.ref (E.1 + 28)] μ (x_I (fun z m => z = (if tkC t ≤ 6 then nI (tkC t) else -1) ∧ m = μ)) := by
  have hF : ∀ id, id ≠ 28 → μ id = μ id := fun _ _ => rfl
  refine x_enter (lv := [(0, .ref (E.1 + 28))]) (by decide +kernel) (Nat.le_of_ble_eq_true rfl) rfl ?_
  refine x_iconst (x := (-1)) d_X2_kindNamed_0 (by decide) ?_
  refine x_istore_n [(1, .int (-1)), (0, .ref (E.1 + 28))] d_X2_kindNamed_1 rfl (Nat.le_of_ble_eq_true rfl) rfl ?_
  refine x_aload_n 1 d_X2_kindNamed_2 rfl rfl ?_
  refine x_ldcS 0 (by decide) rfl d_X2_kindNamed_3 ?_
  refine x_cvip (k := 28) (as := [.ref (E.2.2.2.2.2.1 0)]) (c_X2_isWord l E μ hn hW hK hO (i := 0) (by decide)) v_X2_isWord w_X2_isWord q507 o_T rfl ⟨Nat.le_of_ble_eq_true rfl, Nat.le_of_ble_eq_true rfl⟩ rfl (Nat.le_of_ble_eq_true rfl) d_X2_kindNamed_5 ?_
  refine x_ifb_eq 16 d_X2_kindNamed_8 (by decide) (fun c1 => ?_) (fun c1 => ?_)
  · skip
    refine x_aload_n 1 d_X2_kindNamed_16 rfl rfl ?_
    refine x_ldcS 1 (by decide) rfl d_X2_kindNamed_17 ?_
    refine x_cvip (k := 28) (as := [.ref (E.2.2.2.2.2.1 1)]) (c_X2_isWord l E μ hn hW hK hO (i := 1) (by decide)) v_X2_isWord w_X2_isWord q507 o_T rfl ⟨Nat.le_of_ble_eq_true rfl, Nat.le_of_ble_eq_true rfl⟩ rfl (Nat.le_of_ble_eq_true rfl) d_X2_kindNamed_19 ?_
    refine x_ifb_eq 30 d_X2_kindNamed_22 (by decide) (fun c2 => ?_) (fun c2 => ?_)
    · skip
      refine x_aload_n 1 d_X2_kindNamed_30 rfl rfl ?_
      refine x_ldcS 2 (by decide) rfl d_X2_kindNamed_31 ?_
      refine x_cvip (k := 28) (as := [.ref (E.2.2.2.2.2.1 2)]) (c_X2_isWord l E μ hn hW hK hO (i := 2) (by decide)) v_X2_isWord w_X2_isWord q507 o_T rfl ⟨Nat.le_of_ble_eq_true rfl, Nat.le_of_ble_eq_true rfl⟩ rfl (Nat.le_of_ble_eq_true rfl) d_X2_kindNamed_33 ?_
      refine x_ifb_eq 44 d_X2_kindNamed_36 (by decide) (fun c3 => ?_) (fun c3 => ?_)
      · skip
        refine x_aload_n 1 d_X2_kindNamed_44 rfl rfl ?_
        refine x_ldcS 3 (by decide) rfl d_X2_kindNamed_45 ?_
        refine x_cvip (k := 28) (as := [.ref (E.2.2.2.2.2.1 3)]) (c_X2_isWord l E μ hn hW hK hO (i := 3) (by decide)) v_X2_isWord w_X2_isWord q507 o_T rfl ⟨Nat.le_of_ble_eq_true rfl, Nat.le_of_ble_eq_true rfl⟩ rfl (Nat.le_of_ble_eq_true rfl) d_X2_kindNamed_47 ?_
        refine x_ifb_eq 58 d_X2_kindNamed_50 (by decide) (fun c4 => ?_) (fun c4 => ?_)
        · skip
          refine x_aload_n 1 d_X2_kindNamed_58 rfl rfl ?_
          refine x_ldcS 4 (by decide) rfl d_X2_kindNamed_59 ?_
          refine x_cvip (k := 28) (as := [.ref (E.2.2.2.2.2.1 4)]) (c_X2_isWord l E μ hn hW hK hO (i := 4) (by decide)) v_X2_isWord w_X2_isWord q507 o_T rfl ⟨Nat.le_of_ble_eq_true rfl, Nat.le_of_ble_eq_true rfl⟩ rfl (Nat.le_of_ble_eq_true rfl) d_X2_kindNamed_61 ?_
          refine x_ifb_eq 72 d_X2_kindNamed_64 (by decide) (fun c5 => ?_) (fun c5 => ?_)
          · skip
            refine x_aload_n 1 d_X2_kindNamed_72 rfl rfl ?_
            refine x_ldcS 5 (by decide) rfl d_X2_kindNamed_73 ?_
            refine x_cvip (k := 28) (as := [.ref (E.2.2.2.2.2.1 5)]) (c_X2_isWord l E μ hn hW hK hO (i := 5) (by decide)) v_X2_isWord w_X2_isWord q507 o_T rfl ⟨Nat.le_of_ble_eq_true rfl, Nat.le_of_ble_eq_true rfl⟩ rfl (Nat.le_of_ble_eq_true rfl) d_X2_kindNamed_75 ?_
            refine x_ifb_eq 86 d_X2_kindNamed_78 (by decide) (fun c6 => ?_) (fun c6 => ?_)
            · skip
              refine x_aload_n 1 d_X2_kindNamed_86 rfl rfl ?_
              refine x_ldcS 6 (by decide) rfl d_X2_kindNamed_87 ?_
              refine x_cvip (k := 28) (as := [.ref (E.2.2.2.2.2.1 6)]) (c_X2_isWord l E μ hn hW hK hO (i := 6) (by decide)) v_X2_isWord w_X2_isWord q507 o_T rfl ⟨Nat.le_of_ble_eq_true rfl, Nat.le_of_ble_eq_true rfl⟩ rfl (Nat.le_of_ble_eq_true rfl) d_X2_kindNamed_89 ?_
              refine x_ifb_eq 98 d_X2_kindNamed_92 (by decide) (fun c7 => ?_) (fun c7 => ?_)
              · skip
                refine x_iload_n 0 d_X2_kindNamed_98 rfl rfl ?_
                refine x_iret rfl d_X2_kindNamed_99 ?_
                have e0 := of_decide_eq_false c1
                have e1 := of_decide_eq_false c2
                have e2 := of_decide_eq_false c3
                have e3 := of_decide_eq_false c4
                have e4 := of_decide_eq_false c5
                have e5 := of_decide_eq_false c6
                have e6 := of_decide_eq_false c7
                exact ⟨by rw [if_neg (by omega)], rfl⟩
              · skip
                refine x_bipush (x := 6) d_X2_kindNamed_95 (by decide) ?_
                refine x_istore_n [(1, .int 6), (0, .ref (E.1 + 28))] d_X2_kindNamed_97 rfl (Nat.le_of_ble_eq_true rfl) rfl ?_
                refine x_iload_n 0 d_X2_kindNamed_98 rfl rfl ?_
                refine x_iret rfl d_X2_kindNamed_99 ?_
                have e7 := of_decide_eq_true c7
                exact ⟨by rw [e7]; rfl, rfl⟩
            · skip
              refine x_iconst (x := 5) d_X2_kindNamed_81 (by decide) ?_
              refine x_istore_n [(1, .int 5), (0, .ref (E.1 + 28))] d_X2_kindNamed_82 rfl (Nat.le_of_ble_eq_true rfl) rfl ?_
              refine x_goto 98 d_X2_kindNamed_83 (by decide) ?_
              refine x_iload_n 0 d_X2_kindNamed_98 rfl rfl ?_
              refine x_iret rfl d_X2_kindNamed_99 ?_
              have e7 := of_decide_eq_true c6
              exact ⟨by rw [e7]; rfl, rfl⟩
          · skip
            refine x_iconst (x := 4) d_X2_kindNamed_67 (by decide) ?_
            refine x_istore_n [(1, .int 4), (0, .ref (E.1 + 28))] d_X2_kindNamed_68 rfl (Nat.le_of_ble_eq_true rfl) rfl ?_
            refine x_goto 98 d_X2_kindNamed_69 (by decide) ?_
            refine x_iload_n 0 d_X2_kindNamed_98 rfl rfl ?_
            refine x_iret rfl d_X2_kindNamed_99 ?_
            have e7 := of_decide_eq_true c5
            exact ⟨by rw [e7]; rfl, rfl⟩
        · skip
          refine x_iconst (x := 3) d_X2_kindNamed_53 (by decide) ?_
          refine x_istore_n [(1, .int 3), (0, .ref (E.1 + 28))] d_X2_kindNamed_54 rfl (Nat.le_of_ble_eq_true rfl) rfl ?_
          refine x_goto 98 d_X2_kindNamed_55 (by decide) ?_
          refine x_iload_n 0 d_X2_kindNamed_98 rfl rfl ?_
          refine x_iret rfl d_X2_kindNamed_99 ?_
          have e7 := of_decide_eq_true c4
          exact ⟨by rw [e7]; rfl, rfl⟩
      · skip
        refine x_iconst (x := 2) d_X2_kindNamed_39 (by decide) ?_
        refine x_istore_n [(1, .int 2), (0, .ref (E.1 + 28))] d_X2_kindNamed_40 rfl (Nat.le_of_ble_eq_true rfl) rfl ?_
        refine x_goto 98 d_X2_kindNamed_41 (by decide) ?_
        refine x_iload_n 0 d_X2_kindNamed_98 rfl rfl ?_
        refine x_iret rfl d_X2_kindNamed_99 ?_
        have e7 := of_decide_eq_true c3
        exact ⟨by rw [e7]; rfl, rfl⟩
    · skip
      refine x_iconst (x := 1) d_X2_kindNamed_25 (by decide) ?_
      refine x_istore_n [(1, .int 1), (0, .ref (E.1 + 28))] d_X2_kindNamed_26 rfl (Nat.le_of_ble_eq_true rfl) rfl ?_
      refine x_goto 98 d_X2_kindNamed_27 (by decide) ?_
      refine x_iload_n 0 d_X2_kindNamed_98 rfl rfl ?_
      refine x_iret rfl d_X2_kindNamed_99 ?_
      have e7 := of_decide_eq_true c2
      exact ⟨by rw [e7]; rfl, rfl⟩
  · skip
    refine x_iconst (x := 0) d_X2_kindNamed_11 (by decide) ?_
    refine x_istore_n [(1, .int 0), (0, .ref (E.1 + 28))] d_X2_kindNamed_12 rfl (Nat.le_of_ble_eq_true rfl) rfl ?_
    refine x_goto 98 d_X2_kindNamed_13 (by decide) ?_
    refine x_iload_n 0 d_X2_kindNamed_98 rfl rfl ?_
    refine x_iret rfl d_X2_kindNamed_99 ?_
    have e7 := of_decide_eq_true c1
    exact ⟨by rw [e7]; rfl, rfl⟩
def m_X2_needOfStretch : x_M := (yX2_needOfStretch, prog_4_method_7_code, 3, (some FieldType.boolean), 3, 68)
theorem v_X2_needOfStretch : x_VM m_X2_needOfStretch 1 := ⟨q580, q4, by decide +kernel, by decide +kernel, by decide +kernel⟩
theorem w_X2_needOfStretch : x_VI m_X2_needOfStretch := ⟨q579, qs19⟩
theorem d_X2_needOfStretch_0 : x_dec m_X2_needOfStretch 0 (.aload_n 0) 1 1 := ⟨by decide +kernel, rfl⟩
theorem d_X2_needOfStretch_1 : x_dec m_X2_needOfStretch 1 (.bipush 15) 2 3 := ⟨by decide +kernel, rfl⟩
theorem d_X2_needOfStretch_3 : x_dec m_X2_needOfStretch 3 (.invokevirtual 57) 3 6 := ⟨by decide +kernel, rfl⟩
theorem d_X2_needOfStretch_6 : x_dec m_X2_needOfStretch 6 (.ifCond .ne 5) 3 9 := ⟨by decide +kernel, rfl⟩
theorem d_X2_needOfStretch_9 : x_dec m_X2_needOfStretch 9 (.iconst 0) 1 10 := ⟨by decide +kernel, rfl⟩
theorem d_X2_needOfStretch_10 : x_dec m_X2_needOfStretch 10 (.ireturn) 1 11 := ⟨by decide +kernel, rfl⟩
theorem d_X2_needOfStretch_11 : x_dec m_X2_needOfStretch 11 (.aload_n 0) 1 12 := ⟨by decide +kernel, rfl⟩
theorem d_X2_needOfStretch_12 : x_dec m_X2_needOfStretch 12 (.getfield 28) 3 15 := ⟨by decide +kernel, rfl⟩
theorem d_X2_needOfStretch_15 : x_dec m_X2_needOfStretch 15 (.istore_n 2) 1 16 := ⟨by decide +kernel, rfl⟩
theorem d_X2_needOfStretch_16 : x_dec m_X2_needOfStretch 16 (.aload_n 0) 1 17 := ⟨by decide +kernel, rfl⟩
theorem d_X2_needOfStretch_17 : x_dec m_X2_needOfStretch 17 (.sipush 999) 3 20 := ⟨by decide +kernel, rfl⟩
theorem d_X2_needOfStretch_20 : x_dec m_X2_needOfStretch 20 (.invokevirtual 57) 3 23 := ⟨by decide +kernel, rfl⟩
theorem d_X2_needOfStretch_23 : x_dec m_X2_needOfStretch 23 (.ifCond .ne 5) 3 26 := ⟨by decide +kernel, rfl⟩
theorem d_X2_needOfStretch_26 : x_dec m_X2_needOfStretch 26 (.iconst 0) 1 27 := ⟨by decide +kernel, rfl⟩
theorem d_X2_needOfStretch_27 : x_dec m_X2_needOfStretch 27 (.ireturn) 1 28 := ⟨by decide +kernel, rfl⟩
theorem d_X2_needOfStretch_28 : x_dec m_X2_needOfStretch 28 (.aload_n 1) 1 29 := ⟨by decide +kernel, rfl⟩
theorem d_X2_needOfStretch_29 : x_dec m_X2_needOfStretch 29 (.getfield 104) 3 32 := ⟨by decide +kernel, rfl⟩
theorem d_X2_needOfStretch_32 : x_dec m_X2_needOfStretch 32 (.iload_n 2) 1 33 := ⟨by decide +kernel, rfl⟩
theorem d_X2_needOfStretch_33 : x_dec m_X2_needOfStretch 33 (.aload_n 0) 1 34 := ⟨by decide +kernel, rfl⟩
theorem d_X2_needOfStretch_34 : x_dec m_X2_needOfStretch 34 (.getfield 28) 3 37 := ⟨by decide +kernel, rfl⟩
theorem d_X2_needOfStretch_37 : x_dec m_X2_needOfStretch 37 (.iastore) 1 38 := ⟨by decide +kernel, rfl⟩
theorem d_X2_needOfStretch_38 : x_dec m_X2_needOfStretch 38 (.aload_n 0) 1 39 := ⟨by decide +kernel, rfl⟩
theorem d_X2_needOfStretch_39 : x_dec m_X2_needOfStretch 39 (.invokevirtual 31) 3 42 := ⟨by decide +kernel, rfl⟩
theorem d_X2_needOfStretch_42 : x_dec m_X2_needOfStretch 42 (.iconst 1) 1 43 := ⟨by decide +kernel, rfl⟩
theorem d_X2_needOfStretch_43 : x_dec m_X2_needOfStretch 43 (.ireturn) 1 44 := ⟨by decide +kernel, rfl⟩
set_option maxHeartbeats 4000000 in
set_option maxRecDepth 100000 in
theorem c_X2_needOfStretch (l : Launch) (E : x_E) (μ : x_Mem) {S : Nat → Int32} {n : Nat} (hn : n ≤ 120) (hW : TW S n μ) {t : x_Tk} (hK : TK t μ) (hO : TO S n t) {a : x_St} (hT : PR a 10 μ) (hI : WF a) {h : Int32} (hTH : μ 10 11 = h) : x_Met l m_X2_needOfStretch E [.ref (E.1 + 28), .ref (E.1 + 10)] μ (x_I (fun z m => z = x_b (needF S n a t).1 ∧ TK (needF S n a t).2.2 m ∧ PR (needF S n a t).2.1 10 m ∧ m 10 11 = h ∧ m 28 1 = nI n ∧ ∀ id, (id < 10 ∨ (19 ≤ id ∧ id ≠ 28)) → m id = μ id)) := by
  have hF : ∀ id, (id < 10 ∨ (19 ≤ id ∧ id ≠ 28)) → μ id = μ id := fun _ _ => rfl
  have hn7 := hI.2.1
  have hpn := hI.1
  refine x_enter (lv := [(0, .ref (E.1 + 28)), (1, .ref (E.1 + 10))]) (by decide +kernel) (Nat.le_of_ble_eq_true rfl) rfl ?_
  refine x_aload_n 0 d_X2_needOfStretch_0 rfl rfl ?_
  refine x_bipush (x := 15) d_X2_needOfStretch_1 (by decide) ?_
  refine x_cvi (k := 28) (as := [.int 15]) (c_X2_numberFollows l E μ hn hW hK hO 15) v_X2_numberFollows w_X2_numberFollows q570 o_T rfl ⟨Nat.le_of_ble_eq_true rfl, Nat.le_of_ble_eq_true rfl⟩ rfl (Nat.le_of_ble_eq_true rfl) d_X2_needOfStretch_3 ?_
  rintro _ μ1 ⟨rfl, hK2, hl4, hF5⟩
  have hW3 : TW S n μ1 := ⟨hl4, fun j hj => (congrFun (hF5 29 (by omega)) j).trans (hW.2 j hj)⟩
  have hF6 : ∀ id, (id < 10 ∨ (19 ≤ id ∧ id ≠ 28)) → μ1 id = μ id := fun id hid => (show μ1 id = μ id from (hF5 _ (by omega))).trans (hF id hid)
  have hT7 := PR.cg hT (μ' := μ1) (fun id hid => (hF5 _ (by omega)))
  have hTH8 := hTH
  rw [← (show μ1 10 = μ 10 from (hF5 _ (by omega)))] at hTH8
  refine x_ifb_ne 11 d_X2_needOfStretch_6 (by decide) (fun c9 => ?_) (fun c9 => ?_)
  · skip
    have h20 := num_20 c9
    obtain ⟨k, hk, ek⟩ := num_nat (N := 15) hO c9 (by decide)
    refine x_aload_n 0 d_X2_needOfStretch_11 rfl rfl ?_
    refine x_getiV (j := 5) (z := tkV (tokAt S n (tkE t))) x_c2 rfl (Nat.le_of_ble_eq_true rfl) q112 rfl (hK2.2.2.2 h20) d_X2_needOfStretch_12 ?_
    rw [ek]
    refine x_istore_n [(2, .int (nI k)), (0, .ref (E.1 + 28)), (1, .ref (E.1 + 10))] d_X2_needOfStretch_15 rfl (Nat.le_of_ble_eq_true rfl) rfl ?_
    refine x_aload_n 1 d_X2_needOfStretch_16 rfl rfl ?_
    refine x_sipush (x := 999) d_X2_needOfStretch_17 (by decide) ?_
    refine x_cvi (k := 28) (as := [.int 999]) (c_X2_numberFollows l E μ1 hn hW3 hK2 (tok_TO S hO.2.1) 999) v_X2_numberFollows w_X2_numberFollows q570 o_T rfl ⟨Nat.le_of_ble_eq_true rfl, Nat.le_of_ble_eq_true rfl⟩ rfl (Nat.le_of_ble_eq_true rfl) d_X2_needOfStretch_20 ?_
    rintro _ μ10 ⟨rfl, hK11, hl13, hF14⟩
    have hW12 : TW S n μ10 := ⟨hl13, fun j hj => (congrFun (hF14 29 (by omega)) j).trans (hW3.2 j hj)⟩
    have hF15 : ∀ id, (id < 10 ∨ (19 ≤ id ∧ id ≠ 28)) → μ10 id = μ id := fun id hid => (show μ10 id = μ1 id from (hF14 _ (by omega))).trans (hF6 id hid)
    have hT16 := PR.cg hT7 (μ' := μ10) (fun id hid => (hF14 _ (by omega)))
    have hTH17 := hTH8
    rw [← (show μ10 10 = μ1 10 from (hF14 _ (by omega)))] at hTH17
    refine x_ifb_ne 28 d_X2_needOfStretch_23 (by decide) (fun c18 => ?_) (fun c18 => ?_)
    · skip
      have h21 := num_20 c18
      refine x_aload_n 2 d_X2_needOfStretch_28 rfl rfl ?_
      refine x_getr (j := 0) (10 + 1) x_c0 (p_kd x_pr10) (Nat.le_of_ble_eq_true rfl) q33 (p_f0 x_pr10) d_X2_needOfStretch_29 ?_
      refine x_iload_n 0 d_X2_needOfStretch_32 rfl rfl ?_
      refine x_aload_n 1 d_X2_needOfStretch_33 rfl rfl ?_
      refine x_getiV (j := 5) (z := tkV (tokAt S n (tkE (tokAt S n (tkE t))))) x_c2 rfl (Nat.le_of_ble_eq_true rfl) q112 rfl (hK11.2.2.2 h21) d_X2_needOfStretch_34 ?_
      refine x_iastNG 16 k (p_k1 x_pr10) (p_l1 x_pr10) (by omega) (by decide) d_X2_needOfStretch_37 (fun μ19 eμ19 => ?_)
      have hT20 : PR (upd a (8 + k) (tkV (tokAt S n (tkE (tokAt S n (tkE t)))))) 10 μ19 := PR.a1 hT16 eμ19 (by omega)
      have hW21 := TW.cg hW12 (μ' := μ19) (fun id hid => (by rw [eμ19, upd2_ne _ _ _ (by omega)]))
      have hK22 := TK.cg hK11 (μ' := μ19) (fun id hid => (by rw [eμ19, upd2_ne _ _ _ (by omega)]))
      have hF23 : ∀ id, (id < 10 ∨ (19 ≤ id ∧ id ≠ 28)) → μ19 id = μ id := fun id hid => (show μ19 id = μ10 id from (by rw [eμ19, upd2_ne _ _ _ (by omega)])).trans (hF15 id hid)
      have hTH24 := hTH17
      rw [← (show μ19 10 = μ10 10 from (by rw [eμ19, upd2_ne _ _ _ (by omega)]))] at hTH24
      refine x_aload_n 1 d_X2_needOfStretch_38 rfl rfl ?_
      refine x_cvv (k := 28) (as := []) (c_X2_advance l E μ19 hn hW21 (p := tkE (tokAt S n (tkE (tokAt S n (tkE t))))) (tok_TO S (tok_TO S hO.2.1).2.1).2.1 hK22.2.1) v_X2_advance w_X2_advance q487 o_T rfl ⟨Nat.le_of_ble_eq_true rfl, Nat.le_of_ble_eq_true rfl⟩ rfl (Nat.le_of_ble_eq_true rfl) d_X2_needOfStretch_39 ?_
      rintro μ25 ⟨hK26, hl28, hF29⟩
      have hW27 : TW S n μ25 := ⟨hl28, fun j hj => (congrFun (hF29 29 (by omega)) j).trans (hW21.2 j hj)⟩
      have hF30 : ∀ id, (id < 10 ∨ (19 ≤ id ∧ id ≠ 28)) → μ25 id = μ id := fun id hid => (show μ25 id = μ19 id from (hF29 _ (by omega))).trans (hF23 id hid)
      have hT31 := PR.cg hT20 (μ' := μ25) (fun id hid => (hF29 _ (by omega)))
      have hTH32 := hTH24
      rw [← (show μ25 10 = μ19 10 from (hF29 _ (by omega)))] at hTH32
      refine x_iconst (x := 1) d_X2_needOfStretch_42 (by decide) ?_
      refine x_zret1 rfl d_X2_needOfStretch_43 ?_
      have e9 : needF S n a t = (true, upd a (8 + k) (tkV (tokAt S n (tkE (tokAt S n (tkE t))))), (tokAt S n (tkE (tokAt S n (tkE (tokAt S n (tkE t))))))) := by unfold needF; rw [if_pos c9, if_pos c18, ek, nI_clamp (by omega)]
      rw [e9]
      exact ⟨rfl, hK26, hT31, hTH32, hW27.1, hF30⟩
    · skip
      refine x_iconst (x := 0) d_X2_needOfStretch_26 (by decide) ?_
      refine x_zret0 rfl d_X2_needOfStretch_27 ?_
      have e9 : needF S n a t = (false, a, (tokAt S n (tkE (tokAt S n (tkE t))))) := by unfold needF; rw [if_pos c9, if_neg (by rw [c18]; decide)]
      rw [e9]
      exact ⟨rfl, hK11, hT16, hTH17, hW12.1, hF15⟩
  · skip
    refine x_iconst (x := 0) d_X2_needOfStretch_9 (by decide) ?_
    refine x_zret0 rfl d_X2_needOfStretch_10 ?_
    have e9 : needF S n a t = (false, a, (tokAt S n (tkE t))) := by unfold needF; rw [if_neg (by rw [c9]; decide)]
    rw [e9]
    exact ⟨rfl, hK2, hT7, hTH8, hW3.1, hF6⟩
def m_X2_personOf : x_M := (yX2_personOf, prog_4_method_6_code, 5, (some FieldType.boolean), 5, 107)
theorem v_X2_personOf : x_VM m_X2_personOf 2 := ⟨q568, q4, by decide +kernel, by decide +kernel, by decide +kernel⟩
theorem w_X2_personOf : x_VI m_X2_personOf := ⟨q567, qs17⟩
theorem d_X2_personOf_0 : x_dec m_X2_personOf 0 (.aload_n 1) 1 1 := ⟨by decide +kernel, rfl⟩
theorem d_X2_personOf_1 : x_dec m_X2_personOf 1 (.getfield 93) 3 4 := ⟨by decide +kernel, rfl⟩
theorem d_X2_personOf_4 : x_dec m_X2_personOf 4 (.bipush 8) 2 6 := ⟨by decide +kernel, rfl⟩
theorem d_X2_personOf_6 : x_dec m_X2_personOf 6 (.if_icmp .lt 5) 3 9 := ⟨by decide +kernel, rfl⟩
theorem d_X2_personOf_9 : x_dec m_X2_personOf 9 (.iconst 0) 1 10 := ⟨by decide +kernel, rfl⟩
theorem d_X2_personOf_10 : x_dec m_X2_personOf 10 (.ireturn) 1 11 := ⟨by decide +kernel, rfl⟩
theorem d_X2_personOf_11 : x_dec m_X2_personOf 11 (.iconst (-1)) 1 12 := ⟨by decide +kernel, rfl⟩
theorem d_X2_personOf_12 : x_dec m_X2_personOf 12 (.istore_n 3) 1 13 := ⟨by decide +kernel, rfl⟩
theorem d_X2_personOf_13 : x_dec m_X2_personOf 13 (.bipush 50) 2 15 := ⟨by decide +kernel, rfl⟩
theorem d_X2_personOf_15 : x_dec m_X2_personOf 15 (.istore 4) 2 17 := ⟨by decide +kernel, rfl⟩
theorem d_X2_personOf_17 : x_dec m_X2_personOf 17 (.aload_n 0) 1 18 := ⟨by decide +kernel, rfl⟩
theorem d_X2_personOf_18 : x_dec m_X2_personOf 18 (.invokevirtual 31) 3 21 := ⟨by decide +kernel, rfl⟩
theorem d_X2_personOf_21 : x_dec m_X2_personOf 21 (.aload_n 0) 1 22 := ⟨by decide +kernel, rfl⟩
theorem d_X2_personOf_22 : x_dec m_X2_personOf 22 (.ldc 96) 2 24 := ⟨by decide +kernel, rfl⟩
theorem d_X2_personOf_24 : x_dec m_X2_personOf 24 (.invokevirtual 48) 3 27 := ⟨by decide +kernel, rfl⟩
theorem d_X2_personOf_27 : x_dec m_X2_personOf 27 (.ifCond .eq 23) 3 30 := ⟨by decide +kernel, rfl⟩
theorem d_X2_personOf_30 : x_dec m_X2_personOf 30 (.aload_n 0) 1 31 := ⟨by decide +kernel, rfl⟩
theorem d_X2_personOf_31 : x_dec m_X2_personOf 31 (.bipush 16) 2 33 := ⟨by decide +kernel, rfl⟩
theorem d_X2_personOf_33 : x_dec m_X2_personOf 33 (.invokevirtual 57) 3 36 := ⟨by decide +kernel, rfl⟩
theorem d_X2_personOf_36 : x_dec m_X2_personOf 36 (.ifCond .ne 5) 3 39 := ⟨by decide +kernel, rfl⟩
theorem d_X2_personOf_39 : x_dec m_X2_personOf 39 (.iconst 0) 1 40 := ⟨by decide +kernel, rfl⟩
theorem d_X2_personOf_40 : x_dec m_X2_personOf 40 (.ireturn) 1 41 := ⟨by decide +kernel, rfl⟩
theorem d_X2_personOf_41 : x_dec m_X2_personOf 41 (.aload_n 0) 1 42 := ⟨by decide +kernel, rfl⟩
theorem d_X2_personOf_42 : x_dec m_X2_personOf 42 (.getfield 28) 3 45 := ⟨by decide +kernel, rfl⟩
theorem d_X2_personOf_45 : x_dec m_X2_personOf 45 (.istore_n 3) 1 46 := ⟨by decide +kernel, rfl⟩
theorem d_X2_personOf_46 : x_dec m_X2_personOf 46 (.aload_n 0) 1 47 := ⟨by decide +kernel, rfl⟩
theorem d_X2_personOf_47 : x_dec m_X2_personOf 47 (.invokevirtual 31) 3 50 := ⟨by decide +kernel, rfl⟩
theorem d_X2_personOf_50 : x_dec m_X2_personOf 50 (.aload_n 0) 1 51 := ⟨by decide +kernel, rfl⟩
theorem d_X2_personOf_51 : x_dec m_X2_personOf 51 (.ldc 98) 2 53 := ⟨by decide +kernel, rfl⟩
theorem d_X2_personOf_53 : x_dec m_X2_personOf 53 (.invokevirtual 48) 3 56 := ⟨by decide +kernel, rfl⟩
theorem d_X2_personOf_56 : x_dec m_X2_personOf 56 (.ifCond .eq 24) 3 59 := ⟨by decide +kernel, rfl⟩
theorem d_X2_personOf_59 : x_dec m_X2_personOf 59 (.aload_n 0) 1 60 := ⟨by decide +kernel, rfl⟩
theorem d_X2_personOf_60 : x_dec m_X2_personOf 60 (.bipush 99) 2 62 := ⟨by decide +kernel, rfl⟩
theorem d_X2_personOf_62 : x_dec m_X2_personOf 62 (.invokevirtual 57) 3 65 := ⟨by decide +kernel, rfl⟩
theorem d_X2_personOf_65 : x_dec m_X2_personOf 65 (.ifCond .ne 5) 3 68 := ⟨by decide +kernel, rfl⟩
theorem d_X2_personOf_68 : x_dec m_X2_personOf 68 (.iconst 0) 1 69 := ⟨by decide +kernel, rfl⟩
theorem d_X2_personOf_69 : x_dec m_X2_personOf 69 (.ireturn) 1 70 := ⟨by decide +kernel, rfl⟩
theorem d_X2_personOf_70 : x_dec m_X2_personOf 70 (.aload_n 0) 1 71 := ⟨by decide +kernel, rfl⟩
theorem d_X2_personOf_71 : x_dec m_X2_personOf 71 (.getfield 28) 3 74 := ⟨by decide +kernel, rfl⟩
theorem d_X2_personOf_74 : x_dec m_X2_personOf 74 (.istore 4) 2 76 := ⟨by decide +kernel, rfl⟩
theorem d_X2_personOf_76 : x_dec m_X2_personOf 76 (.aload_n 0) 1 77 := ⟨by decide +kernel, rfl⟩
theorem d_X2_personOf_77 : x_dec m_X2_personOf 77 (.invokevirtual 31) 3 80 := ⟨by decide +kernel, rfl⟩
theorem d_X2_personOf_80 : x_dec m_X2_personOf 80 (.aload_n 1) 1 81 := ⟨by decide +kernel, rfl⟩
theorem d_X2_personOf_81 : x_dec m_X2_personOf 81 (.iload_n 2) 1 82 := ⟨by decide +kernel, rfl⟩
theorem d_X2_personOf_82 : x_dec m_X2_personOf 82 (.iload_n 3) 1 83 := ⟨by decide +kernel, rfl⟩
theorem d_X2_personOf_83 : x_dec m_X2_personOf 83 (.iload 4) 2 85 := ⟨by decide +kernel, rfl⟩
theorem d_X2_personOf_85 : x_dec m_X2_personOf 85 (.invokevirtual 100) 3 88 := ⟨by decide +kernel, rfl⟩
theorem d_X2_personOf_88 : x_dec m_X2_personOf 88 (.pop) 1 89 := ⟨by decide +kernel, rfl⟩
theorem d_X2_personOf_89 : x_dec m_X2_personOf 89 (.iconst 1) 1 90 := ⟨by decide +kernel, rfl⟩
theorem d_X2_personOf_90 : x_dec m_X2_personOf 90 (.ireturn) 1 91 := ⟨by decide +kernel, rfl⟩
set_option maxHeartbeats 4000000 in
set_option maxRecDepth 100000 in
theorem c_X2_personOf (l : Launch) (E : x_E) (μ : x_Mem) {S : Nat → Int32} {n : Nat} (hn : n ≤ 120) (hW : TW S n μ) {t : x_Tk} (hK : TK t μ) (hO : TO S n t) {a : x_St} (hT : PR a 10 μ) (hI : WF a) {h : Int32} (hTH : μ 10 11 = h) {k : Nat} (hk : k ≤ 6) : x_Met l m_X2_personOf E [.ref (E.1 + 28), .ref (E.1 + 10), .int (nI k)] μ (x_I (fun z m => z = x_b (newF S n a k t).1 ∧ TK (newF S n a k t).2.2 m ∧ PR (newF S n a k t).2.1 10 m ∧ m 10 11 = h ∧ m 28 1 = nI n ∧ ∀ id, (id < 10 ∨ (19 ≤ id ∧ id ≠ 28)) → m id = μ id)) := by
  have hF : ∀ id, (id < 10 ∨ (19 ≤ id ∧ id ≠ 28)) → μ id = μ id := fun _ _ => rfl
  have hn7 := hI.2.1
  have hpn := hI.1
  refine x_enter (lv := [(0, .ref (E.1 + 28)), (1, .ref (E.1 + 10)), (2, .int (nI k))]) (by decide +kernel) (Nat.le_of_ble_eq_true rfl) rfl ?_
  refine x_aload_n 1 d_X2_personOf_0 rfl rfl ?_
  refine x_getiV (j := 5) (z := nI (pn a)) x_c0 (p_kd x_pr10) (Nat.le_of_ble_eq_true rfl) q44 (p_n5 x_pr10) ((PR.f5 hT).trans hn7) d_X2_personOf_1 ?_
  refine x_bipush (x := 8) d_X2_personOf_4 (by decide) ?_
  refine x_icmp_lt 11 d_X2_personOf_6 (by decide) (fun c1 => ?_) (fun c1 => ?_)
  · skip
    have hN8 := (nI_ltI (a := pn a) (b := 8) (by omega) (by decide)).mp c1
    refine x_iconst (x := (-1)) d_X2_personOf_11 (by decide) ?_
    refine x_istore_n [(3, .int (-1)), (0, .ref (E.1 + 28)), (1, .ref (E.1 + 10)), (2, .int (nI k))] d_X2_personOf_12 rfl (Nat.le_of_ble_eq_true rfl) rfl ?_
    refine x_bipush (x := 50) d_X2_personOf_13 (by decide) ?_
    refine x_istore [(4, .int 50), (3, .int (-1)), (0, .ref (E.1 + 28)), (1, .ref (E.1 + 10)), (2, .int (nI k))] d_X2_personOf_15 (Nat.le_of_ble_eq_true rfl) rfl ?_
    refine x_aload_n 2 d_X2_personOf_17 rfl rfl ?_
    refine x_cvv (k := 28) (as := []) (c_X2_advance l E μ hn hW (p := tkE t) hO.2.1 hK.2.1) v_X2_advance w_X2_advance q487 o_T rfl ⟨Nat.le_of_ble_eq_true rfl, Nat.le_of_ble_eq_true rfl⟩ rfl (Nat.le_of_ble_eq_true rfl) d_X2_personOf_18 ?_
    rintro μ2 ⟨hK3, hl5, hF6⟩
    have hW4 : TW S n μ2 := ⟨hl5, fun j hj => (congrFun (hF6 29 (by omega)) j).trans (hW.2 j hj)⟩
    have hF7 : ∀ id, (id < 10 ∨ (19 ≤ id ∧ id ≠ 28)) → μ2 id = μ id := fun id hid => (show μ2 id = μ id from (hF6 _ (by omega))).trans (hF id hid)
    have hT8 := PR.cg hT (μ' := μ2) (fun id hid => (hF6 _ (by omega)))
    have hTH9 := hTH
    rw [← (show μ2 10 = μ 10 from (hF6 _ (by omega)))] at hTH9
    refine x_aload_n 2 d_X2_personOf_21 rfl rfl ?_
    refine x_ldcS 7 (by decide) rfl d_X2_personOf_22 ?_
    refine x_cvip (k := 28) (as := [.ref (E.2.2.2.2.2.1 7)]) (c_X2_isWord l E μ2 hn hW4 hK3 (tok_TO S hO.2.1) (i := 7) (by decide)) v_X2_isWord w_X2_isWord q507 o_T rfl ⟨Nat.le_of_ble_eq_true rfl, Nat.le_of_ble_eq_true rfl⟩ rfl (Nat.le_of_ble_eq_true rfl) d_X2_personOf_24 ?_
    refine x_ifb_eq 50 d_X2_personOf_27 (by decide) (fun c10 => ?_) (fun c10 => ?_)
    · skip
      refine x_aload_n 2 d_X2_personOf_50 rfl rfl ?_
      refine x_ldcS 8 (by decide) rfl d_X2_personOf_51 ?_
      refine x_cvip (k := 28) (as := [.ref (E.2.2.2.2.2.1 8)]) (c_X2_isWord l E μ2 hn hW4 hK3 (tok_TO S hO.2.1) (i := 8) (by decide)) v_X2_isWord w_X2_isWord q507 o_T rfl ⟨Nat.le_of_ble_eq_true rfl, Nat.le_of_ble_eq_true rfl⟩ rfl (Nat.le_of_ble_eq_true rfl) d_X2_personOf_53 ?_
      refine x_ifb_eq 80 d_X2_personOf_56 (by decide) (fun c11 => ?_) (fun c11 => ?_)
      · skip
        refine x_aload_n 3 d_X2_personOf_80 rfl rfl ?_
        refine x_iload_n 4 d_X2_personOf_81 rfl rfl ?_
        refine x_iload_n 1 d_X2_personOf_82 rfl rfl ?_
        refine x_iload 0 d_X2_personOf_83 rfl ?_
        refine x_cvi (k := 10) (as := [.int (nI k), .int (-1), .int 50]) (c_X0_newcomer l E μ2 x_pr10 hT8 hI (by omega) hTH9 (nI k) (-1) 50) v_X0_newcomer w_X0_newcomer q575 (p_ob x_pr10) rfl ⟨Nat.le_of_ble_eq_true rfl, Nat.le_of_ble_eq_true rfl⟩ rfl (Nat.le_of_ble_eq_true rfl) d_X2_personOf_85 ?_
        rintro _ μ12 ⟨rfl, hR13, x15, hF14⟩
        have hW16 := TW.cg hW4 (μ' := μ12) (fun id hid => (hF14 _ (by omega)))
        have hK17 := TK.cg hK3 (μ' := μ12) (fun id hid => (hF14 _ (by omega)))
        have hF18 : ∀ id, (id < 10 ∨ (19 ≤ id ∧ id ≠ 28)) → μ12 id = μ id := fun id hid => (show μ12 id = μ2 id from (hF14 _ (by omega))).trans (hF7 id hid)
        refine x_pop d_X2_personOf_88 rfl ?_
        refine x_iconst (x := 1) d_X2_personOf_89 (by decide) ?_
        refine x_zret1 rfl d_X2_personOf_90 ?_
        have e9 : newF S n a k t = (true, comeF a (nI k) (-1) 50, (tokAt S n (tkE t))) := by unfold newF; rw [if_pos hN8, if_neg (of_decide_eq_false c10)]; unfold newB; rw [if_neg (of_decide_eq_false c11)]
        rw [e9]
        exact ⟨rfl, hK17, hR13, x15, hW16.1, hF18⟩
      · skip
        refine x_aload_n 2 d_X2_personOf_59 rfl rfl ?_
        refine x_bipush (x := 99) d_X2_personOf_60 (by decide) ?_
        refine x_cvi (k := 28) (as := [.int 99]) (c_X2_numberFollows l E μ2 hn hW4 hK3 (tok_TO S hO.2.1) 99) v_X2_numberFollows w_X2_numberFollows q570 o_T rfl ⟨Nat.le_of_ble_eq_true rfl, Nat.le_of_ble_eq_true rfl⟩ rfl (Nat.le_of_ble_eq_true rfl) d_X2_personOf_62 ?_
        rintro _ μ19 ⟨rfl, hK20, hl22, hF23⟩
        have hW21 : TW S n μ19 := ⟨hl22, fun j hj => (congrFun (hF23 29 (by omega)) j).trans (hW4.2 j hj)⟩
        have hF24 : ∀ id, (id < 10 ∨ (19 ≤ id ∧ id ≠ 28)) → μ19 id = μ id := fun id hid => (show μ19 id = μ2 id from (hF23 _ (by omega))).trans (hF7 id hid)
        have hT25 := PR.cg hT8 (μ' := μ19) (fun id hid => (hF23 _ (by omega)))
        have hTH26 := hTH9
        rw [← (show μ19 10 = μ2 10 from (hF23 _ (by omega)))] at hTH26
        refine x_ifb_ne 70 d_X2_personOf_65 (by decide) (fun c27 => ?_) (fun c27 => ?_)
        · skip
          have h22 := num_20 c27
          refine x_aload_n 2 d_X2_personOf_70 rfl rfl ?_
          refine x_getiV (j := 5) (z := tkV (tokAt S n (tkE (tokAt S n (tkE t))))) x_c2 rfl (Nat.le_of_ble_eq_true rfl) q112 rfl (hK20.2.2.2 h22) d_X2_personOf_71 ?_
          refine x_istore [(4, .int (tkV (tokAt S n (tkE (tokAt S n (tkE t)))))), (3, .int (-1)), (0, .ref (E.1 + 28)), (1, .ref (E.1 + 10)), (2, .int (nI k))] d_X2_personOf_74 (Nat.le_of_ble_eq_true rfl) rfl ?_
          refine x_aload_n 2 d_X2_personOf_76 rfl rfl ?_
          refine x_cvv (k := 28) (as := []) (c_X2_advance l E μ19 hn hW21 (p := tkE (tokAt S n (tkE (tokAt S n (tkE t))))) (tok_TO S (tok_TO S hO.2.1).2.1).2.1 hK20.2.1) v_X2_advance w_X2_advance q487 o_T rfl ⟨Nat.le_of_ble_eq_true rfl, Nat.le_of_ble_eq_true rfl⟩ rfl (Nat.le_of_ble_eq_true rfl) d_X2_personOf_77 ?_
          rintro μ28 ⟨hK29, hl31, hF32⟩
          have hW30 : TW S n μ28 := ⟨hl31, fun j hj => (congrFun (hF32 29 (by omega)) j).trans (hW21.2 j hj)⟩
          have hF33 : ∀ id, (id < 10 ∨ (19 ≤ id ∧ id ≠ 28)) → μ28 id = μ id := fun id hid => (show μ28 id = μ19 id from (hF32 _ (by omega))).trans (hF24 id hid)
          have hT34 := PR.cg hT25 (μ' := μ28) (fun id hid => (hF32 _ (by omega)))
          have hTH35 := hTH26
          rw [← (show μ28 10 = μ19 10 from (hF32 _ (by omega)))] at hTH35
          refine x_aload_n 3 d_X2_personOf_80 rfl rfl ?_
          refine x_iload_n 4 d_X2_personOf_81 rfl rfl ?_
          refine x_iload_n 1 d_X2_personOf_82 rfl rfl ?_
          refine x_iload 0 d_X2_personOf_83 rfl ?_
          refine x_cvi (k := 10) (as := [.int (nI k), .int (-1), .int (tkV (tokAt S n (tkE (tokAt S n (tkE t)))))]) (c_X0_newcomer l E μ28 x_pr10 hT34 hI (by omega) hTH35 (nI k) (-1) (tkV (tokAt S n (tkE (tokAt S n (tkE t)))))) v_X0_newcomer w_X0_newcomer q575 (p_ob x_pr10) rfl ⟨Nat.le_of_ble_eq_true rfl, Nat.le_of_ble_eq_true rfl⟩ rfl (Nat.le_of_ble_eq_true rfl) d_X2_personOf_85 ?_
          rintro _ μ36 ⟨rfl, hR37, x39, hF38⟩
          have hW40 := TW.cg hW30 (μ' := μ36) (fun id hid => (hF38 _ (by omega)))
          have hK41 := TK.cg hK29 (μ' := μ36) (fun id hid => (hF38 _ (by omega)))
          have hF42 : ∀ id, (id < 10 ∨ (19 ≤ id ∧ id ≠ 28)) → μ36 id = μ id := fun id hid => (show μ36 id = μ28 id from (hF38 _ (by omega))).trans (hF33 id hid)
          refine x_pop d_X2_personOf_88 rfl ?_
          refine x_iconst (x := 1) d_X2_personOf_89 (by decide) ?_
          refine x_zret1 rfl d_X2_personOf_90 ?_
          have e9 : newF S n a k t = (true, comeF a (nI k) (-1) (tkV (tokAt S n (tkE (tokAt S n (tkE t))))), (tokAt S n (tkE (tokAt S n (tkE (tokAt S n (tkE t))))))) := by unfold newF; rw [if_pos hN8, if_neg (of_decide_eq_false c10)]; unfold newB; rw [if_pos (of_decide_eq_true c11), if_pos c27]
          rw [e9]
          exact ⟨rfl, hK41, hR37, x39, hW40.1, hF42⟩
        · skip
          refine x_iconst (x := 0) d_X2_personOf_68 (by decide) ?_
          refine x_zret0 rfl d_X2_personOf_69 ?_
          have e9 : newF S n a k t = (false, a, (tokAt S n (tkE (tokAt S n (tkE t))))) := by unfold newF; rw [if_pos hN8, if_neg (of_decide_eq_false c10)]; unfold newB; rw [if_pos (of_decide_eq_true c11), if_neg (by rw [c27]; decide)]
          rw [e9]
          exact ⟨rfl, hK20, hT25, hTH26, hW21.1, hF24⟩
    · skip
      refine x_aload_n 2 d_X2_personOf_30 rfl rfl ?_
      refine x_bipush (x := 16) d_X2_personOf_31 (by decide) ?_
      refine x_cvi (k := 28) (as := [.int 16]) (c_X2_numberFollows l E μ2 hn hW4 hK3 (tok_TO S hO.2.1) 16) v_X2_numberFollows w_X2_numberFollows q570 o_T rfl ⟨Nat.le_of_ble_eq_true rfl, Nat.le_of_ble_eq_true rfl⟩ rfl (Nat.le_of_ble_eq_true rfl) d_X2_personOf_33 ?_
      rintro _ μ43 ⟨rfl, hK44, hl46, hF47⟩
      have hW45 : TW S n μ43 := ⟨hl46, fun j hj => (congrFun (hF47 29 (by omega)) j).trans (hW4.2 j hj)⟩
      have hF48 : ∀ id, (id < 10 ∨ (19 ≤ id ∧ id ≠ 28)) → μ43 id = μ id := fun id hid => (show μ43 id = μ2 id from (hF47 _ (by omega))).trans (hF7 id hid)
      have hT49 := PR.cg hT8 (μ' := μ43) (fun id hid => (hF47 _ (by omega)))
      have hTH50 := hTH9
      rw [← (show μ43 10 = μ2 10 from (hF47 _ (by omega)))] at hTH50
      refine x_ifb_ne 41 d_X2_personOf_36 (by decide) (fun c51 => ?_) (fun c51 => ?_)
      · skip
        have h21 := num_20 c51
        refine x_aload_n 2 d_X2_personOf_41 rfl rfl ?_
        refine x_getiV (j := 5) (z := tkV (tokAt S n (tkE (tokAt S n (tkE t))))) x_c2 rfl (Nat.le_of_ble_eq_true rfl) q112 rfl (hK44.2.2.2 h21) d_X2_personOf_42 ?_
        refine x_istore_n [(3, .int (tkV (tokAt S n (tkE (tokAt S n (tkE t)))))), (4, .int 50), (0, .ref (E.1 + 28)), (1, .ref (E.1 + 10)), (2, .int (nI k))] d_X2_personOf_45 rfl (Nat.le_of_ble_eq_true rfl) rfl ?_
        refine x_aload_n 2 d_X2_personOf_46 rfl rfl ?_
        refine x_cvv (k := 28) (as := []) (c_X2_advance l E μ43 hn hW45 (p := tkE (tokAt S n (tkE (tokAt S n (tkE t))))) (tok_TO S (tok_TO S hO.2.1).2.1).2.1 hK44.2.1) v_X2_advance w_X2_advance q487 o_T rfl ⟨Nat.le_of_ble_eq_true rfl, Nat.le_of_ble_eq_true rfl⟩ rfl (Nat.le_of_ble_eq_true rfl) d_X2_personOf_47 ?_
        rintro μ52 ⟨hK53, hl55, hF56⟩
        have hW54 : TW S n μ52 := ⟨hl55, fun j hj => (congrFun (hF56 29 (by omega)) j).trans (hW45.2 j hj)⟩
        have hF57 : ∀ id, (id < 10 ∨ (19 ≤ id ∧ id ≠ 28)) → μ52 id = μ id := fun id hid => (show μ52 id = μ43 id from (hF56 _ (by omega))).trans (hF48 id hid)
        have hT58 := PR.cg hT49 (μ' := μ52) (fun id hid => (hF56 _ (by omega)))
        have hTH59 := hTH50
        rw [← (show μ52 10 = μ43 10 from (hF56 _ (by omega)))] at hTH59
        refine x_aload_n 2 d_X2_personOf_50 rfl rfl ?_
        refine x_ldcS 8 (by decide) rfl d_X2_personOf_51 ?_
        refine x_cvip (k := 28) (as := [.ref (E.2.2.2.2.2.1 8)]) (c_X2_isWord l E μ52 hn hW54 hK53 (tok_TO S (tok_TO S (tok_TO S hO.2.1).2.1).2.1) (i := 8) (by decide)) v_X2_isWord w_X2_isWord q507 o_T rfl ⟨Nat.le_of_ble_eq_true rfl, Nat.le_of_ble_eq_true rfl⟩ rfl (Nat.le_of_ble_eq_true rfl) d_X2_personOf_53 ?_
        refine x_ifb_eq 80 d_X2_personOf_56 (by decide) (fun c60 => ?_) (fun c60 => ?_)
        · skip
          refine x_aload_n 3 d_X2_personOf_80 rfl rfl ?_
          refine x_iload_n 4 d_X2_personOf_81 rfl rfl ?_
          refine x_iload_n 0 d_X2_personOf_82 rfl rfl ?_
          refine x_iload 1 d_X2_personOf_83 rfl ?_
          refine x_cvi (k := 10) (as := [.int (nI k), .int (tkV (tokAt S n (tkE (tokAt S n (tkE t))))), .int 50]) (c_X0_newcomer l E μ52 x_pr10 hT58 hI (by omega) hTH59 (nI k) (tkV (tokAt S n (tkE (tokAt S n (tkE t))))) 50) v_X0_newcomer w_X0_newcomer q575 (p_ob x_pr10) rfl ⟨Nat.le_of_ble_eq_true rfl, Nat.le_of_ble_eq_true rfl⟩ rfl (Nat.le_of_ble_eq_true rfl) d_X2_personOf_85 ?_
          rintro _ μ61 ⟨rfl, hR62, x64, hF63⟩
          have hW65 := TW.cg hW54 (μ' := μ61) (fun id hid => (hF63 _ (by omega)))
          have hK66 := TK.cg hK53 (μ' := μ61) (fun id hid => (hF63 _ (by omega)))
          have hF67 : ∀ id, (id < 10 ∨ (19 ≤ id ∧ id ≠ 28)) → μ61 id = μ id := fun id hid => (show μ61 id = μ52 id from (hF63 _ (by omega))).trans (hF57 id hid)
          refine x_pop d_X2_personOf_88 rfl ?_
          refine x_iconst (x := 1) d_X2_personOf_89 (by decide) ?_
          refine x_zret1 rfl d_X2_personOf_90 ?_
          have e9 : newF S n a k t = (true, comeF a (nI k) (tkV (tokAt S n (tkE (tokAt S n (tkE t))))) 50, (tokAt S n (tkE (tokAt S n (tkE (tokAt S n (tkE t))))))) := by unfold newF; rw [if_pos hN8, if_pos (of_decide_eq_true c10), if_pos c51]; unfold newB; rw [if_neg (of_decide_eq_false c60)]
          rw [e9]
          exact ⟨rfl, hK66, hR62, x64, hW65.1, hF67⟩
        · skip
          refine x_aload_n 2 d_X2_personOf_59 rfl rfl ?_
          refine x_bipush (x := 99) d_X2_personOf_60 (by decide) ?_
          refine x_cvi (k := 28) (as := [.int 99]) (c_X2_numberFollows l E μ52 hn hW54 hK53 (tok_TO S (tok_TO S (tok_TO S hO.2.1).2.1).2.1) 99) v_X2_numberFollows w_X2_numberFollows q570 o_T rfl ⟨Nat.le_of_ble_eq_true rfl, Nat.le_of_ble_eq_true rfl⟩ rfl (Nat.le_of_ble_eq_true rfl) d_X2_personOf_62 ?_
          rintro _ μ68 ⟨rfl, hK69, hl71, hF72⟩
          have hW70 : TW S n μ68 := ⟨hl71, fun j hj => (congrFun (hF72 29 (by omega)) j).trans (hW54.2 j hj)⟩
          have hF73 : ∀ id, (id < 10 ∨ (19 ≤ id ∧ id ≠ 28)) → μ68 id = μ id := fun id hid => (show μ68 id = μ52 id from (hF72 _ (by omega))).trans (hF57 id hid)
          have hT74 := PR.cg hT58 (μ' := μ68) (fun id hid => (hF72 _ (by omega)))
          have hTH75 := hTH59
          rw [← (show μ68 10 = μ52 10 from (hF72 _ (by omega)))] at hTH75
          refine x_ifb_ne 70 d_X2_personOf_65 (by decide) (fun c76 => ?_) (fun c76 => ?_)
          · skip
            have h22 := num_20 c76
            refine x_aload_n 2 d_X2_personOf_70 rfl rfl ?_
            refine x_getiV (j := 5) (z := tkV (tokAt S n (tkE (tokAt S n (tkE (tokAt S n (tkE (tokAt S n (tkE t))))))))) x_c2 rfl (Nat.le_of_ble_eq_true rfl) q112 rfl (hK69.2.2.2 h22) d_X2_personOf_71 ?_
            refine x_istore [(4, .int (tkV (tokAt S n (tkE (tokAt S n (tkE (tokAt S n (tkE (tokAt S n (tkE t)))))))))), (3, .int (tkV (tokAt S n (tkE (tokAt S n (tkE t)))))), (0, .ref (E.1 + 28)), (1, .ref (E.1 + 10)), (2, .int (nI k))] d_X2_personOf_74 (Nat.le_of_ble_eq_true rfl) rfl ?_
            refine x_aload_n 2 d_X2_personOf_76 rfl rfl ?_
            refine x_cvv (k := 28) (as := []) (c_X2_advance l E μ68 hn hW70 (p := tkE (tokAt S n (tkE (tokAt S n (tkE (tokAt S n (tkE (tokAt S n (tkE t))))))))) (tok_TO S (tok_TO S (tok_TO S (tok_TO S hO.2.1).2.1).2.1).2.1).2.1 hK69.2.1) v_X2_advance w_X2_advance q487 o_T rfl ⟨Nat.le_of_ble_eq_true rfl, Nat.le_of_ble_eq_true rfl⟩ rfl (Nat.le_of_ble_eq_true rfl) d_X2_personOf_77 ?_
            rintro μ77 ⟨hK78, hl80, hF81⟩
            have hW79 : TW S n μ77 := ⟨hl80, fun j hj => (congrFun (hF81 29 (by omega)) j).trans (hW70.2 j hj)⟩
            have hF82 : ∀ id, (id < 10 ∨ (19 ≤ id ∧ id ≠ 28)) → μ77 id = μ id := fun id hid => (show μ77 id = μ68 id from (hF81 _ (by omega))).trans (hF73 id hid)
            have hT83 := PR.cg hT74 (μ' := μ77) (fun id hid => (hF81 _ (by omega)))
            have hTH84 := hTH75
            rw [← (show μ77 10 = μ68 10 from (hF81 _ (by omega)))] at hTH84
            refine x_aload_n 3 d_X2_personOf_80 rfl rfl ?_
            refine x_iload_n 4 d_X2_personOf_81 rfl rfl ?_
            refine x_iload_n 1 d_X2_personOf_82 rfl rfl ?_
            refine x_iload 0 d_X2_personOf_83 rfl ?_
            refine x_cvi (k := 10) (as := [.int (nI k), .int (tkV (tokAt S n (tkE (tokAt S n (tkE t))))), .int (tkV (tokAt S n (tkE (tokAt S n (tkE (tokAt S n (tkE (tokAt S n (tkE t)))))))))]) (c_X0_newcomer l E μ77 x_pr10 hT83 hI (by omega) hTH84 (nI k) (tkV (tokAt S n (tkE (tokAt S n (tkE t))))) (tkV (tokAt S n (tkE (tokAt S n (tkE (tokAt S n (tkE (tokAt S n (tkE t)))))))))) v_X0_newcomer w_X0_newcomer q575 (p_ob x_pr10) rfl ⟨Nat.le_of_ble_eq_true rfl, Nat.le_of_ble_eq_true rfl⟩ rfl (Nat.le_of_ble_eq_true rfl) d_X2_personOf_85 ?_
            rintro _ μ85 ⟨rfl, hR86, x88, hF87⟩
            have hW89 := TW.cg hW79 (μ' := μ85) (fun id hid => (hF87 _ (by omega)))
            have hK90 := TK.cg hK78 (μ' := μ85) (fun id hid => (hF87 _ (by omega)))
            have hF91 : ∀ id, (id < 10 ∨ (19 ≤ id ∧ id ≠ 28)) → μ85 id = μ id := fun id hid => (show μ85 id = μ77 id from (hF87 _ (by omega))).trans (hF82 id hid)
            refine x_pop d_X2_personOf_88 rfl ?_
            refine x_iconst (x := 1) d_X2_personOf_89 (by decide) ?_
            refine x_zret1 rfl d_X2_personOf_90 ?_
            have e9 : newF S n a k t = (true, comeF a (nI k) (tkV (tokAt S n (tkE (tokAt S n (tkE t))))) (tkV (tokAt S n (tkE (tokAt S n (tkE (tokAt S n (tkE (tokAt S n (tkE t))))))))), (tokAt S n (tkE (tokAt S n (tkE (tokAt S n (tkE (tokAt S n (tkE (tokAt S n (tkE t))))))))))) := by unfold newF; rw [if_pos hN8, if_pos (of_decide_eq_true c10), if_pos c51]; unfold newB; rw [if_pos (of_decide_eq_true c60), if_pos c76]
            rw [e9]
            exact ⟨rfl, hK90, hR86, x88, hW89.1, hF91⟩
          · skip
            refine x_iconst (x := 0) d_X2_personOf_68 (by decide) ?_
            refine x_zret0 rfl d_X2_personOf_69 ?_
            have e9 : newF S n a k t = (false, a, (tokAt S n (tkE (tokAt S n (tkE (tokAt S n (tkE (tokAt S n (tkE t))))))))) := by unfold newF; rw [if_pos hN8, if_pos (of_decide_eq_true c10), if_pos c51]; unfold newB; rw [if_pos (of_decide_eq_true c60), if_neg (by rw [c76]; decide)]
            rw [e9]
            exact ⟨rfl, hK69, hT74, hTH75, hW70.1, hF73⟩
      · skip
        refine x_iconst (x := 0) d_X2_personOf_39 (by decide) ?_
        refine x_zret0 rfl d_X2_personOf_40 ?_
        have e9 : newF S n a k t = (false, a, (tokAt S n (tkE (tokAt S n (tkE t))))) := by unfold newF; rw [if_pos hN8, if_pos (of_decide_eq_true c10), if_neg (by rw [c51]; decide)]
        rw [e9]
        exact ⟨rfl, hK44, hT49, hTH50, hW45.1, hF48⟩
  · skip
    refine x_iconst (x := 0) d_X2_personOf_9 (by decide) ?_
    refine x_zret0 rfl d_X2_personOf_10 ?_
    have e9 : newF S n a k t = (false, a, t) := by unfold newF; rw [if_neg (fun z => c1 (nI_lt (a := pn a) (b := 8) z (by decide)))]
    rw [e9]
    exact ⟨rfl, hK, hT, hTH, hW.1, hF⟩
def m_X2_item : x_M := (yX2_item, prog_4_method_4_code, 3, (some FieldType.boolean), 6, 131)
theorem v_X2_item : x_VM m_X2_item 1 := ⟨q501, q4, by decide +kernel, by decide +kernel, by decide +kernel⟩
theorem w_X2_item : x_VI m_X2_item := ⟨q500, qs14⟩
theorem d_X2_item_0 : x_dec m_X2_item 0 (.aload_n 0) 1 1 := ⟨by decide +kernel, rfl⟩
theorem d_X2_item_1 : x_dec m_X2_item 1 (.invokevirtual 38) 3 4 := ⟨by decide +kernel, rfl⟩
theorem d_X2_item_4 : x_dec m_X2_item 4 (.istore_n 2) 1 5 := ⟨by decide +kernel, rfl⟩
theorem d_X2_item_5 : x_dec m_X2_item 5 (.iload_n 2) 1 6 := ⟨by decide +kernel, rfl⟩
theorem d_X2_item_6 : x_dec m_X2_item 6 (.ifCond .lt 10) 3 9 := ⟨by decide +kernel, rfl⟩
theorem d_X2_item_9 : x_dec m_X2_item 9 (.aload_n 0) 1 10 := ⟨by decide +kernel, rfl⟩
theorem d_X2_item_10 : x_dec m_X2_item 10 (.aload_n 1) 1 11 := ⟨by decide +kernel, rfl⟩
theorem d_X2_item_11 : x_dec m_X2_item 11 (.iload_n 2) 1 12 := ⟨by decide +kernel, rfl⟩
theorem d_X2_item_12 : x_dec m_X2_item 12 (.invokevirtual 42) 3 15 := ⟨by decide +kernel, rfl⟩
theorem d_X2_item_15 : x_dec m_X2_item 15 (.ireturn) 1 16 := ⟨by decide +kernel, rfl⟩
theorem d_X2_item_16 : x_dec m_X2_item 16 (.aload_n 0) 1 17 := ⟨by decide +kernel, rfl⟩
theorem d_X2_item_17 : x_dec m_X2_item 17 (.ldc 46) 2 19 := ⟨by decide +kernel, rfl⟩
theorem d_X2_item_19 : x_dec m_X2_item 19 (.invokevirtual 48) 3 22 := ⟨by decide +kernel, rfl⟩
theorem d_X2_item_22 : x_dec m_X2_item 22 (.ifCond .eq 9) 3 25 := ⟨by decide +kernel, rfl⟩
theorem d_X2_item_25 : x_dec m_X2_item 25 (.aload_n 0) 1 26 := ⟨by decide +kernel, rfl⟩
theorem d_X2_item_26 : x_dec m_X2_item 26 (.aload_n 1) 1 27 := ⟨by decide +kernel, rfl⟩
theorem d_X2_item_27 : x_dec m_X2_item 27 (.invokevirtual 52) 3 30 := ⟨by decide +kernel, rfl⟩
theorem d_X2_item_30 : x_dec m_X2_item 30 (.ireturn) 1 31 := ⟨by decide +kernel, rfl⟩
theorem d_X2_item_31 : x_dec m_X2_item 31 (.aload_n 0) 1 32 := ⟨by decide +kernel, rfl⟩
theorem d_X2_item_32 : x_dec m_X2_item 32 (.ldc 55) 2 34 := ⟨by decide +kernel, rfl⟩
theorem d_X2_item_34 : x_dec m_X2_item 34 (.invokevirtual 48) 3 37 := ⟨by decide +kernel, rfl⟩
theorem d_X2_item_37 : x_dec m_X2_item 37 (.ifCond .eq 25) 3 40 := ⟨by decide +kernel, rfl⟩
theorem d_X2_item_40 : x_dec m_X2_item 40 (.aload_n 0) 1 41 := ⟨by decide +kernel, rfl⟩
theorem d_X2_item_41 : x_dec m_X2_item 41 (.bipush 16) 2 43 := ⟨by decide +kernel, rfl⟩
theorem d_X2_item_43 : x_dec m_X2_item 43 (.invokevirtual 57) 3 46 := ⟨by decide +kernel, rfl⟩
theorem d_X2_item_46 : x_dec m_X2_item 46 (.ifCond .ne 5) 3 49 := ⟨by decide +kernel, rfl⟩
theorem d_X2_item_49 : x_dec m_X2_item 49 (.iconst 0) 1 50 := ⟨by decide +kernel, rfl⟩
theorem d_X2_item_50 : x_dec m_X2_item 50 (.ireturn) 1 51 := ⟨by decide +kernel, rfl⟩
theorem d_X2_item_51 : x_dec m_X2_item 51 (.aload_n 1) 1 52 := ⟨by decide +kernel, rfl⟩
theorem d_X2_item_52 : x_dec m_X2_item 52 (.aload_n 0) 1 53 := ⟨by decide +kernel, rfl⟩
theorem d_X2_item_53 : x_dec m_X2_item 53 (.getfield 28) 3 56 := ⟨by decide +kernel, rfl⟩
theorem d_X2_item_56 : x_dec m_X2_item 56 (.putfield 61) 3 59 := ⟨by decide +kernel, rfl⟩
theorem d_X2_item_59 : x_dec m_X2_item 59 (.goto 101) 3 62 := ⟨by decide +kernel, rfl⟩
theorem d_X2_item_62 : x_dec m_X2_item 62 (.aload_n 0) 1 63 := ⟨by decide +kernel, rfl⟩
theorem d_X2_item_63 : x_dec m_X2_item 63 (.ldc 65) 2 65 := ⟨by decide +kernel, rfl⟩
theorem d_X2_item_65 : x_dec m_X2_item 65 (.invokevirtual 48) 3 68 := ⟨by decide +kernel, rfl⟩
theorem d_X2_item_68 : x_dec m_X2_item 68 (.ifCond .eq 25) 3 71 := ⟨by decide +kernel, rfl⟩
theorem d_X2_item_71 : x_dec m_X2_item 71 (.aload_n 0) 1 72 := ⟨by decide +kernel, rfl⟩
theorem d_X2_item_72 : x_dec m_X2_item 72 (.bipush 20) 2 74 := ⟨by decide +kernel, rfl⟩
theorem d_X2_item_74 : x_dec m_X2_item 74 (.invokevirtual 57) 3 77 := ⟨by decide +kernel, rfl⟩
theorem d_X2_item_77 : x_dec m_X2_item 77 (.ifCond .ne 5) 3 80 := ⟨by decide +kernel, rfl⟩
theorem d_X2_item_80 : x_dec m_X2_item 80 (.iconst 0) 1 81 := ⟨by decide +kernel, rfl⟩
theorem d_X2_item_81 : x_dec m_X2_item 81 (.ireturn) 1 82 := ⟨by decide +kernel, rfl⟩
theorem d_X2_item_82 : x_dec m_X2_item 82 (.aload_n 1) 1 83 := ⟨by decide +kernel, rfl⟩
theorem d_X2_item_83 : x_dec m_X2_item 83 (.aload_n 0) 1 84 := ⟨by decide +kernel, rfl⟩
theorem d_X2_item_84 : x_dec m_X2_item 84 (.getfield 28) 3 87 := ⟨by decide +kernel, rfl⟩
theorem d_X2_item_87 : x_dec m_X2_item 87 (.putfield 67) 3 90 := ⟨by decide +kernel, rfl⟩
theorem d_X2_item_90 : x_dec m_X2_item 90 (.goto 70) 3 93 := ⟨by decide +kernel, rfl⟩
theorem d_X2_item_93 : x_dec m_X2_item 93 (.aload_n 0) 1 94 := ⟨by decide +kernel, rfl⟩
theorem d_X2_item_94 : x_dec m_X2_item 94 (.ldc 69) 2 96 := ⟨by decide +kernel, rfl⟩
theorem d_X2_item_96 : x_dec m_X2_item 96 (.invokevirtual 48) 3 99 := ⟨by decide +kernel, rfl⟩
theorem d_X2_item_99 : x_dec m_X2_item 99 (.ifCond .eq 25) 3 102 := ⟨by decide +kernel, rfl⟩
theorem d_X2_item_102 : x_dec m_X2_item 102 (.aload_n 0) 1 103 := ⟨by decide +kernel, rfl⟩
theorem d_X2_item_103 : x_dec m_X2_item 103 (.bipush 20) 2 105 := ⟨by decide +kernel, rfl⟩
theorem d_X2_item_105 : x_dec m_X2_item 105 (.invokevirtual 57) 3 108 := ⟨by decide +kernel, rfl⟩
theorem d_X2_item_108 : x_dec m_X2_item 108 (.ifCond .ne 5) 3 111 := ⟨by decide +kernel, rfl⟩
theorem d_X2_item_111 : x_dec m_X2_item 111 (.iconst 0) 1 112 := ⟨by decide +kernel, rfl⟩
theorem d_X2_item_112 : x_dec m_X2_item 112 (.ireturn) 1 113 := ⟨by decide +kernel, rfl⟩
theorem d_X2_item_113 : x_dec m_X2_item 113 (.aload_n 1) 1 114 := ⟨by decide +kernel, rfl⟩
theorem d_X2_item_114 : x_dec m_X2_item 114 (.aload_n 0) 1 115 := ⟨by decide +kernel, rfl⟩
theorem d_X2_item_115 : x_dec m_X2_item 115 (.getfield 28) 3 118 := ⟨by decide +kernel, rfl⟩
theorem d_X2_item_118 : x_dec m_X2_item 118 (.putfield 71) 3 121 := ⟨by decide +kernel, rfl⟩
theorem d_X2_item_121 : x_dec m_X2_item 121 (.goto 39) 3 124 := ⟨by decide +kernel, rfl⟩
theorem d_X2_item_124 : x_dec m_X2_item 124 (.aload_n 0) 1 125 := ⟨by decide +kernel, rfl⟩
theorem d_X2_item_125 : x_dec m_X2_item 125 (.ldc 73) 2 127 := ⟨by decide +kernel, rfl⟩
theorem d_X2_item_127 : x_dec m_X2_item 127 (.invokevirtual 48) 3 130 := ⟨by decide +kernel, rfl⟩
theorem d_X2_item_130 : x_dec m_X2_item 130 (.ifCond .eq 11) 3 133 := ⟨by decide +kernel, rfl⟩
theorem d_X2_item_133 : x_dec m_X2_item 133 (.aload_n 1) 1 134 := ⟨by decide +kernel, rfl⟩
theorem d_X2_item_134 : x_dec m_X2_item 134 (.iconst 1) 1 135 := ⟨by decide +kernel, rfl⟩
theorem d_X2_item_135 : x_dec m_X2_item 135 (.putfield 75) 3 138 := ⟨by decide +kernel, rfl⟩
theorem d_X2_item_138 : x_dec m_X2_item 138 (.goto 22) 3 141 := ⟨by decide +kernel, rfl⟩
theorem d_X2_item_141 : x_dec m_X2_item 141 (.aload_n 0) 1 142 := ⟨by decide +kernel, rfl⟩
theorem d_X2_item_142 : x_dec m_X2_item 142 (.ldc 77) 2 144 := ⟨by decide +kernel, rfl⟩
theorem d_X2_item_144 : x_dec m_X2_item 144 (.invokevirtual 48) 3 147 := ⟨by decide +kernel, rfl⟩
theorem d_X2_item_147 : x_dec m_X2_item 147 (.ifCond .eq 11) 3 150 := ⟨by decide +kernel, rfl⟩
theorem d_X2_item_150 : x_dec m_X2_item 150 (.aload_n 1) 1 151 := ⟨by decide +kernel, rfl⟩
theorem d_X2_item_151 : x_dec m_X2_item 151 (.iconst 0) 1 152 := ⟨by decide +kernel, rfl⟩
theorem d_X2_item_152 : x_dec m_X2_item 152 (.putfield 75) 3 155 := ⟨by decide +kernel, rfl⟩
theorem d_X2_item_155 : x_dec m_X2_item 155 (.goto 5) 3 158 := ⟨by decide +kernel, rfl⟩
theorem d_X2_item_158 : x_dec m_X2_item 158 (.iconst 0) 1 159 := ⟨by decide +kernel, rfl⟩
theorem d_X2_item_159 : x_dec m_X2_item 159 (.ireturn) 1 160 := ⟨by decide +kernel, rfl⟩
theorem d_X2_item_160 : x_dec m_X2_item 160 (.aload_n 0) 1 161 := ⟨by decide +kernel, rfl⟩
theorem d_X2_item_161 : x_dec m_X2_item 161 (.invokevirtual 31) 3 164 := ⟨by decide +kernel, rfl⟩
theorem d_X2_item_164 : x_dec m_X2_item 164 (.iconst 1) 1 165 := ⟨by decide +kernel, rfl⟩
theorem d_X2_item_165 : x_dec m_X2_item 165 (.ireturn) 1 166 := ⟨by decide +kernel, rfl⟩
set_option maxHeartbeats 4000000 in
set_option maxRecDepth 100000 in
theorem c_X2_item (l : Launch) (E : x_E) (μ : x_Mem) {S : Nat → Int32} {n : Nat} (hn : n ≤ 120) (hW : TW S n μ) {t : x_Tk} (hK : TK t μ) (hO : TO S n t) {a : x_St} (hT : PR a 10 μ) (hI : WF a) {h : Int32} (hTH : μ 10 11 = h) : x_Met l m_X2_item E [.ref (E.1 + 28), .ref (E.1 + 10)] μ (x_I (fun z m => z = x_b (itemF S n a t).1 ∧ TK (itemF S n a t).2.2 m ∧ PR (itemF S n a t).2.1 10 m ∧ m 10 11 = h ∧ m 28 1 = nI n ∧ ∀ id, (id < 10 ∨ (19 ≤ id ∧ id ≠ 28)) → m id = μ id)) := by
  have hF : ∀ id, (id < 10 ∨ (19 ≤ id ∧ id ≠ 28)) → μ id = μ id := fun _ _ => rfl
  have hn7 := hI.2.1
  have hpn := hI.1
  refine x_enter (lv := [(0, .ref (E.1 + 28)), (1, .ref (E.1 + 10))]) (by decide +kernel) (Nat.le_of_ble_eq_true rfl) rfl ?_
  refine x_aload_n 0 d_X2_item_0 rfl rfl ?_
  refine x_cvip (k := 28) (as := []) (c_X2_kindNamed l E μ hn hW hK hO) v_X2_kindNamed w_X2_kindNamed q502 o_T rfl ⟨Nat.le_of_ble_eq_true rfl, Nat.le_of_ble_eq_true rfl⟩ rfl (Nat.le_of_ble_eq_true rfl) d_X2_item_1 ?_
  by_cases h6 : tkC t ≤ 6
  · rw [if_pos h6]
    refine x_istore_n [(2, .int (nI (tkC t))), (0, .ref (E.1 + 28)), (1, .ref (E.1 + 10))] d_X2_item_4 rfl (Nat.le_of_ble_eq_true rfl) rfl ?_
    refine x_iload_n 0 d_X2_item_5 rfl rfl ?_
    refine x_if_lt 16 d_X2_item_6 (by decide) (fun c1 => ?_) (fun c1 => ?_)
    · skip
      exact absurd c1 (nI_pos (by omega))
    · skip
      refine x_aload_n 1 d_X2_item_9 rfl rfl ?_
      refine x_aload_n 2 d_X2_item_10 rfl rfl ?_
      refine x_iload_n 0 d_X2_item_11 rfl rfl ?_
      refine x_cvi (k := 28) (as := [.ref (E.1 + 10), .int (nI (tkC t))]) (c_X2_personOf l E μ hn hW hK hO hT hI hTH (by omega)) v_X2_personOf w_X2_personOf q565 o_T rfl ⟨Nat.le_of_ble_eq_true rfl, Nat.le_of_ble_eq_true rfl⟩ rfl (Nat.le_of_ble_eq_true rfl) d_X2_item_12 ?_
      rintro _ μ2 ⟨rfl, hK3, hT7, hTH8, hl5, hF6⟩
      have hW4 : TW S n μ2 := ⟨hl5, fun j hj => (congrFun (hF6 29 (by omega)) j).trans (hW.2 j hj)⟩
      have hF9 : ∀ id, (id < 10 ∨ (19 ≤ id ∧ id ≠ 28)) → μ2 id = μ id := fun id hid => (show μ2 id = μ id from (hF6 _ (by omega))).trans (hF id hid)
      refine x_zret rfl d_X2_item_15 ?_
      have e9 : itemF S n a t = newF S n a (tkC t) t := by unfold itemF; rw [if_pos h6]
      rw [e9]
      exact ⟨rfl, hK3, hT7, hTH8, hW4.1, hF9⟩
  · rw [if_neg h6]
    refine x_istore_n [(2, .int (-1)), (0, .ref (E.1 + 28)), (1, .ref (E.1 + 10))] d_X2_item_4 rfl (Nat.le_of_ble_eq_true rfl) rfl ?_
    refine x_iload_n 0 d_X2_item_5 rfl rfl ?_
    refine x_if_lt 16 d_X2_item_6 (by decide) (fun c10 => ?_) (fun c10 => ?_)
    rotate_left
    · exact absurd c10 (by decide)
    refine x_aload_n 1 d_X2_item_16 rfl rfl ?_
    refine x_ldcS 9 (by decide) rfl d_X2_item_17 ?_
    refine x_cvip (k := 28) (as := [.ref (E.2.2.2.2.2.1 9)]) (c_X2_isWord l E μ hn hW hK hO (i := 9) (by decide)) v_X2_isWord w_X2_isWord q507 o_T rfl ⟨Nat.le_of_ble_eq_true rfl, Nat.le_of_ble_eq_true rfl⟩ rfl (Nat.le_of_ble_eq_true rfl) d_X2_item_19 ?_
    refine x_ifb_eq 31 d_X2_item_22 (by decide) (fun c11 => ?_) (fun c11 => ?_)
    · skip
      refine x_aload_n 1 d_X2_item_31 rfl rfl ?_
      refine x_ldcS 10 (by decide) rfl d_X2_item_32 ?_
      refine x_cvip (k := 28) (as := [.ref (E.2.2.2.2.2.1 10)]) (c_X2_isWord l E μ hn hW hK hO (i := 10) (by decide)) v_X2_isWord w_X2_isWord q507 o_T rfl ⟨Nat.le_of_ble_eq_true rfl, Nat.le_of_ble_eq_true rfl⟩ rfl (Nat.le_of_ble_eq_true rfl) d_X2_item_34 ?_
      refine x_ifb_eq 62 d_X2_item_37 (by decide) (fun c12 => ?_) (fun c12 => ?_)
      · skip
        refine x_aload_n 1 d_X2_item_62 rfl rfl ?_
        refine x_ldcS 11 (by decide) rfl d_X2_item_63 ?_
        refine x_cvip (k := 28) (as := [.ref (E.2.2.2.2.2.1 11)]) (c_X2_isWord l E μ hn hW hK hO (i := 11) (by decide)) v_X2_isWord w_X2_isWord q507 o_T rfl ⟨Nat.le_of_ble_eq_true rfl, Nat.le_of_ble_eq_true rfl⟩ rfl (Nat.le_of_ble_eq_true rfl) d_X2_item_65 ?_
        refine x_ifb_eq 93 d_X2_item_68 (by decide) (fun c13 => ?_) (fun c13 => ?_)
        · skip
          refine x_aload_n 1 d_X2_item_93 rfl rfl ?_
          refine x_ldcS 12 (by decide) rfl d_X2_item_94 ?_
          refine x_cvip (k := 28) (as := [.ref (E.2.2.2.2.2.1 12)]) (c_X2_isWord l E μ hn hW hK hO (i := 12) (by decide)) v_X2_isWord w_X2_isWord q507 o_T rfl ⟨Nat.le_of_ble_eq_true rfl, Nat.le_of_ble_eq_true rfl⟩ rfl (Nat.le_of_ble_eq_true rfl) d_X2_item_96 ?_
          refine x_ifb_eq 124 d_X2_item_99 (by decide) (fun c14 => ?_) (fun c14 => ?_)
          · skip
            refine x_aload_n 1 d_X2_item_124 rfl rfl ?_
            refine x_ldcS 13 (by decide) rfl d_X2_item_125 ?_
            refine x_cvip (k := 28) (as := [.ref (E.2.2.2.2.2.1 13)]) (c_X2_isWord l E μ hn hW hK hO (i := 13) (by decide)) v_X2_isWord w_X2_isWord q507 o_T rfl ⟨Nat.le_of_ble_eq_true rfl, Nat.le_of_ble_eq_true rfl⟩ rfl (Nat.le_of_ble_eq_true rfl) d_X2_item_127 ?_
            refine x_ifb_eq 141 d_X2_item_130 (by decide) (fun c15 => ?_) (fun c15 => ?_)
            · skip
              refine x_aload_n 1 d_X2_item_141 rfl rfl ?_
              refine x_ldcS 14 (by decide) rfl d_X2_item_142 ?_
              refine x_cvip (k := 28) (as := [.ref (E.2.2.2.2.2.1 14)]) (c_X2_isWord l E μ hn hW hK hO (i := 14) (by decide)) v_X2_isWord w_X2_isWord q507 o_T rfl ⟨Nat.le_of_ble_eq_true rfl, Nat.le_of_ble_eq_true rfl⟩ rfl (Nat.le_of_ble_eq_true rfl) d_X2_item_144 ?_
              refine x_ifb_eq 158 d_X2_item_147 (by decide) (fun c16 => ?_) (fun c16 => ?_)
              · skip
                refine x_iconst (x := 0) d_X2_item_158 (by decide) ?_
                refine x_zret0 rfl d_X2_item_159 ?_
                have e9 : itemF S n a t = (false, a, t) := by unfold itemF; rw [if_neg h6, if_neg (of_decide_eq_false c11), if_neg (of_decide_eq_false c12), if_neg (of_decide_eq_false c13), if_neg (of_decide_eq_false c14), if_neg (of_decide_eq_false c15), if_neg (of_decide_eq_false c16)]
                rw [e9]
                exact ⟨rfl, hK, hT, hTH, hW.1, hF⟩
              · skip
                refine x_aload_n 2 d_X2_item_150 rfl rfl ?_
                refine x_iconst (x := 0) d_X2_item_151 (by decide) ?_
                refine x_putiG (j := 7) x_c0 (p_kd x_pr10) (Nat.le_of_ble_eq_true rfl) q49 (p_n7 x_pr10) rfl rfl d_X2_item_152 (fun μ17 eμ17 => ?_)
                have hT18 : PR (upd a 2 0) 10 μ17 := PR.w7 hT eμ17
                have hTH19 : μ17 10 11 = h := by rw [eμ17, upd2_at, upd_n _ _ (by decide)]; exact hTH
                have hW20 := TW.cg hW (μ' := μ17) (fun id hid => (by rw [eμ17, upd2_ne _ _ _ (by omega)]))
                have hK21 := TK.cg hK (μ' := μ17) (fun id hid => (by rw [eμ17, upd2_ne _ _ _ (by omega)]))
                have hF22 : ∀ id, (id < 10 ∨ (19 ≤ id ∧ id ≠ 28)) → μ17 id = μ id := fun id hid => (show μ17 id = μ id from (by rw [eμ17, upd2_ne _ _ _ (by omega)])).trans (hF id hid)
                refine x_goto 160 d_X2_item_155 (by decide) ?_
                refine x_aload_n 1 d_X2_item_160 rfl rfl ?_
                refine x_cvv (k := 28) (as := []) (c_X2_advance l E μ17 hn hW20 (p := tkE t) hO.2.1 hK21.2.1) v_X2_advance w_X2_advance q487 o_T rfl ⟨Nat.le_of_ble_eq_true rfl, Nat.le_of_ble_eq_true rfl⟩ rfl (Nat.le_of_ble_eq_true rfl) d_X2_item_161 ?_
                rintro μ23 ⟨hK24, hl26, hF27⟩
                have hW25 : TW S n μ23 := ⟨hl26, fun j hj => (congrFun (hF27 29 (by omega)) j).trans (hW20.2 j hj)⟩
                have hF28 : ∀ id, (id < 10 ∨ (19 ≤ id ∧ id ≠ 28)) → μ23 id = μ id := fun id hid => (show μ23 id = μ17 id from (hF27 _ (by omega))).trans (hF22 id hid)
                have hT29 := PR.cg hT18 (μ' := μ23) (fun id hid => (hF27 _ (by omega)))
                have hTH30 := hTH19
                rw [← (show μ23 10 = μ17 10 from (hF27 _ (by omega)))] at hTH30
                refine x_iconst (x := 1) d_X2_item_164 (by decide) ?_
                refine x_zret1 rfl d_X2_item_165 ?_
                have e9 : itemF S n a t = (true, upd a 2 0, tokAt S n (tkE t)) := by unfold itemF; rw [if_neg h6, if_neg (of_decide_eq_false c11), if_neg (of_decide_eq_false c12), if_neg (of_decide_eq_false c13), if_neg (of_decide_eq_false c14), if_neg (of_decide_eq_false c15), if_pos (of_decide_eq_true c16)]
                rw [e9]
                exact ⟨rfl, hK24, hT29, hTH30, hW25.1, hF28⟩
            · skip
              refine x_aload_n 2 d_X2_item_133 rfl rfl ?_
              refine x_iconst (x := 1) d_X2_item_134 (by decide) ?_
              refine x_putiG (j := 7) x_c0 (p_kd x_pr10) (Nat.le_of_ble_eq_true rfl) q49 (p_n7 x_pr10) rfl rfl d_X2_item_135 (fun μ31 eμ31 => ?_)
              have hT32 : PR (upd a 2 1) 10 μ31 := PR.w7 hT eμ31
              have hTH33 : μ31 10 11 = h := by rw [eμ31, upd2_at, upd_n _ _ (by decide)]; exact hTH
              have hW34 := TW.cg hW (μ' := μ31) (fun id hid => (by rw [eμ31, upd2_ne _ _ _ (by omega)]))
              have hK35 := TK.cg hK (μ' := μ31) (fun id hid => (by rw [eμ31, upd2_ne _ _ _ (by omega)]))
              have hF36 : ∀ id, (id < 10 ∨ (19 ≤ id ∧ id ≠ 28)) → μ31 id = μ id := fun id hid => (show μ31 id = μ id from (by rw [eμ31, upd2_ne _ _ _ (by omega)])).trans (hF id hid)
              refine x_goto 160 d_X2_item_138 (by decide) ?_
              refine x_aload_n 1 d_X2_item_160 rfl rfl ?_
              refine x_cvv (k := 28) (as := []) (c_X2_advance l E μ31 hn hW34 (p := tkE t) hO.2.1 hK35.2.1) v_X2_advance w_X2_advance q487 o_T rfl ⟨Nat.le_of_ble_eq_true rfl, Nat.le_of_ble_eq_true rfl⟩ rfl (Nat.le_of_ble_eq_true rfl) d_X2_item_161 ?_
              rintro μ37 ⟨hK38, hl40, hF41⟩
              have hW39 : TW S n μ37 := ⟨hl40, fun j hj => (congrFun (hF41 29 (by omega)) j).trans (hW34.2 j hj)⟩
              have hF42 : ∀ id, (id < 10 ∨ (19 ≤ id ∧ id ≠ 28)) → μ37 id = μ id := fun id hid => (show μ37 id = μ31 id from (hF41 _ (by omega))).trans (hF36 id hid)
              have hT43 := PR.cg hT32 (μ' := μ37) (fun id hid => (hF41 _ (by omega)))
              have hTH44 := hTH33
              rw [← (show μ37 10 = μ31 10 from (hF41 _ (by omega)))] at hTH44
              refine x_iconst (x := 1) d_X2_item_164 (by decide) ?_
              refine x_zret1 rfl d_X2_item_165 ?_
              have e9 : itemF S n a t = (true, upd a 2 1, tokAt S n (tkE t)) := by unfold itemF; rw [if_neg h6, if_neg (of_decide_eq_false c11), if_neg (of_decide_eq_false c12), if_neg (of_decide_eq_false c13), if_neg (of_decide_eq_false c14), if_pos (of_decide_eq_true c15)]
              rw [e9]
              exact ⟨rfl, hK38, hT43, hTH44, hW39.1, hF42⟩
          · skip
            refine x_aload_n 1 d_X2_item_102 rfl rfl ?_
            refine x_bipush (x := 20) d_X2_item_103 (by decide) ?_
            refine x_cvi (k := 28) (as := [.int 20]) (c_X2_numberFollows l E μ hn hW hK hO 20) v_X2_numberFollows w_X2_numberFollows q570 o_T rfl ⟨Nat.le_of_ble_eq_true rfl, Nat.le_of_ble_eq_true rfl⟩ rfl (Nat.le_of_ble_eq_true rfl) d_X2_item_105 ?_
            rintro _ μ45 ⟨rfl, hK46, hl48, hF49⟩
            have hW47 : TW S n μ45 := ⟨hl48, fun j hj => (congrFun (hF49 29 (by omega)) j).trans (hW.2 j hj)⟩
            have hF50 : ∀ id, (id < 10 ∨ (19 ≤ id ∧ id ≠ 28)) → μ45 id = μ id := fun id hid => (show μ45 id = μ id from (hF49 _ (by omega))).trans (hF id hid)
            have hT51 := PR.cg hT (μ' := μ45) (fun id hid => (hF49 _ (by omega)))
            have hTH52 := hTH
            rw [← (show μ45 10 = μ 10 from (hF49 _ (by omega)))] at hTH52
            refine x_ifb_ne 113 d_X2_item_108 (by decide) (fun c53 => ?_) (fun c53 => ?_)
            · skip
              have h23 := num_20 c53
              refine x_aload_n 2 d_X2_item_113 rfl rfl ?_
              refine x_aload_n 1 d_X2_item_114 rfl rfl ?_
              refine x_getiV (j := 5) (z := tkV (tokAt S n (tkE t))) x_c2 rfl (Nat.le_of_ble_eq_true rfl) q112 rfl (hK46.2.2.2 h23) d_X2_item_115 ?_
              refine x_putiG (j := 9) x_c0 (p_kd x_pr10) (Nat.le_of_ble_eq_true rfl) q55 (p_n9 x_pr10) rfl rfl d_X2_item_118 (fun μ54 eμ54 => ?_)
              have hT55 : PR (upd a 4 (tkV (tokAt S n (tkE t)))) 10 μ54 := PR.w9 hT51 eμ54
              have hTH56 : μ54 10 11 = h := by rw [eμ54, upd2_at, upd_n _ _ (by decide)]; exact hTH52
              have hW57 := TW.cg hW47 (μ' := μ54) (fun id hid => (by rw [eμ54, upd2_ne _ _ _ (by omega)]))
              have hK58 := TK.cg hK46 (μ' := μ54) (fun id hid => (by rw [eμ54, upd2_ne _ _ _ (by omega)]))
              have hF59 : ∀ id, (id < 10 ∨ (19 ≤ id ∧ id ≠ 28)) → μ54 id = μ id := fun id hid => (show μ54 id = μ45 id from (by rw [eμ54, upd2_ne _ _ _ (by omega)])).trans (hF50 id hid)
              refine x_goto 160 d_X2_item_121 (by decide) ?_
              refine x_aload_n 1 d_X2_item_160 rfl rfl ?_
              refine x_cvv (k := 28) (as := []) (c_X2_advance l E μ54 hn hW57 (p := tkE (tokAt S n (tkE t))) (tok_TO S hO.2.1).2.1 hK58.2.1) v_X2_advance w_X2_advance q487 o_T rfl ⟨Nat.le_of_ble_eq_true rfl, Nat.le_of_ble_eq_true rfl⟩ rfl (Nat.le_of_ble_eq_true rfl) d_X2_item_161 ?_
              rintro μ60 ⟨hK61, hl63, hF64⟩
              have hW62 : TW S n μ60 := ⟨hl63, fun j hj => (congrFun (hF64 29 (by omega)) j).trans (hW57.2 j hj)⟩
              have hF65 : ∀ id, (id < 10 ∨ (19 ≤ id ∧ id ≠ 28)) → μ60 id = μ id := fun id hid => (show μ60 id = μ54 id from (hF64 _ (by omega))).trans (hF59 id hid)
              have hT66 := PR.cg hT55 (μ' := μ60) (fun id hid => (hF64 _ (by omega)))
              have hTH67 := hTH56
              rw [← (show μ60 10 = μ54 10 from (hF64 _ (by omega)))] at hTH67
              refine x_iconst (x := 1) d_X2_item_164 (by decide) ?_
              refine x_zret1 rfl d_X2_item_165 ?_
              have e9 : itemF S n a t = (true, upd a 4 (tkV (tokAt S n (tkE t))), tokAt S n (tkE (tokAt S n (tkE t)))) := by unfold itemF; rw [if_neg h6, if_neg (of_decide_eq_false c11), if_neg (of_decide_eq_false c12), if_neg (of_decide_eq_false c13), if_pos (of_decide_eq_true c14)]; unfold putF; rw [if_pos c53]
              rw [e9]
              exact ⟨rfl, hK61, hT66, hTH67, hW62.1, hF65⟩
            · skip
              refine x_iconst (x := 0) d_X2_item_111 (by decide) ?_
              refine x_zret0 rfl d_X2_item_112 ?_
              have e9 : itemF S n a t = (false, a, (tokAt S n (tkE t))) := by unfold itemF; rw [if_neg h6, if_neg (of_decide_eq_false c11), if_neg (of_decide_eq_false c12), if_neg (of_decide_eq_false c13), if_pos (of_decide_eq_true c14)]; unfold putF; rw [if_neg (by rw [c53]; decide)]
              rw [e9]
              exact ⟨rfl, hK46, hT51, hTH52, hW47.1, hF50⟩
        · skip
          refine x_aload_n 1 d_X2_item_71 rfl rfl ?_
          refine x_bipush (x := 20) d_X2_item_72 (by decide) ?_
          refine x_cvi (k := 28) (as := [.int 20]) (c_X2_numberFollows l E μ hn hW hK hO 20) v_X2_numberFollows w_X2_numberFollows q570 o_T rfl ⟨Nat.le_of_ble_eq_true rfl, Nat.le_of_ble_eq_true rfl⟩ rfl (Nat.le_of_ble_eq_true rfl) d_X2_item_74 ?_
          rintro _ μ68 ⟨rfl, hK69, hl71, hF72⟩
          have hW70 : TW S n μ68 := ⟨hl71, fun j hj => (congrFun (hF72 29 (by omega)) j).trans (hW.2 j hj)⟩
          have hF73 : ∀ id, (id < 10 ∨ (19 ≤ id ∧ id ≠ 28)) → μ68 id = μ id := fun id hid => (show μ68 id = μ id from (hF72 _ (by omega))).trans (hF id hid)
          have hT74 := PR.cg hT (μ' := μ68) (fun id hid => (hF72 _ (by omega)))
          have hTH75 := hTH
          rw [← (show μ68 10 = μ 10 from (hF72 _ (by omega)))] at hTH75
          refine x_ifb_ne 82 d_X2_item_77 (by decide) (fun c76 => ?_) (fun c76 => ?_)
          · skip
            have h22 := num_20 c76
            refine x_aload_n 2 d_X2_item_82 rfl rfl ?_
            refine x_aload_n 1 d_X2_item_83 rfl rfl ?_
            refine x_getiV (j := 5) (z := tkV (tokAt S n (tkE t))) x_c2 rfl (Nat.le_of_ble_eq_true rfl) q112 rfl (hK69.2.2.2 h22) d_X2_item_84 ?_
            refine x_putiG (j := 8) x_c0 (p_kd x_pr10) (Nat.le_of_ble_eq_true rfl) q52 (p_n8 x_pr10) rfl rfl d_X2_item_87 (fun μ77 eμ77 => ?_)
            have hT78 : PR (upd a 3 (tkV (tokAt S n (tkE t)))) 10 μ77 := PR.w8 hT74 eμ77
            have hTH79 : μ77 10 11 = h := by rw [eμ77, upd2_at, upd_n _ _ (by decide)]; exact hTH75
            have hW80 := TW.cg hW70 (μ' := μ77) (fun id hid => (by rw [eμ77, upd2_ne _ _ _ (by omega)]))
            have hK81 := TK.cg hK69 (μ' := μ77) (fun id hid => (by rw [eμ77, upd2_ne _ _ _ (by omega)]))
            have hF82 : ∀ id, (id < 10 ∨ (19 ≤ id ∧ id ≠ 28)) → μ77 id = μ id := fun id hid => (show μ77 id = μ68 id from (by rw [eμ77, upd2_ne _ _ _ (by omega)])).trans (hF73 id hid)
            refine x_goto 160 d_X2_item_90 (by decide) ?_
            refine x_aload_n 1 d_X2_item_160 rfl rfl ?_
            refine x_cvv (k := 28) (as := []) (c_X2_advance l E μ77 hn hW80 (p := tkE (tokAt S n (tkE t))) (tok_TO S hO.2.1).2.1 hK81.2.1) v_X2_advance w_X2_advance q487 o_T rfl ⟨Nat.le_of_ble_eq_true rfl, Nat.le_of_ble_eq_true rfl⟩ rfl (Nat.le_of_ble_eq_true rfl) d_X2_item_161 ?_
            rintro μ83 ⟨hK84, hl86, hF87⟩
            have hW85 : TW S n μ83 := ⟨hl86, fun j hj => (congrFun (hF87 29 (by omega)) j).trans (hW80.2 j hj)⟩
            have hF88 : ∀ id, (id < 10 ∨ (19 ≤ id ∧ id ≠ 28)) → μ83 id = μ id := fun id hid => (show μ83 id = μ77 id from (hF87 _ (by omega))).trans (hF82 id hid)
            have hT89 := PR.cg hT78 (μ' := μ83) (fun id hid => (hF87 _ (by omega)))
            have hTH90 := hTH79
            rw [← (show μ83 10 = μ77 10 from (hF87 _ (by omega)))] at hTH90
            refine x_iconst (x := 1) d_X2_item_164 (by decide) ?_
            refine x_zret1 rfl d_X2_item_165 ?_
            have e9 : itemF S n a t = (true, upd a 3 (tkV (tokAt S n (tkE t))), tokAt S n (tkE (tokAt S n (tkE t)))) := by unfold itemF; rw [if_neg h6, if_neg (of_decide_eq_false c11), if_neg (of_decide_eq_false c12), if_pos (of_decide_eq_true c13)]; unfold putF; rw [if_pos c76]
            rw [e9]
            exact ⟨rfl, hK84, hT89, hTH90, hW85.1, hF88⟩
          · skip
            refine x_iconst (x := 0) d_X2_item_80 (by decide) ?_
            refine x_zret0 rfl d_X2_item_81 ?_
            have e9 : itemF S n a t = (false, a, (tokAt S n (tkE t))) := by unfold itemF; rw [if_neg h6, if_neg (of_decide_eq_false c11), if_neg (of_decide_eq_false c12), if_pos (of_decide_eq_true c13)]; unfold putF; rw [if_neg (by rw [c76]; decide)]
            rw [e9]
            exact ⟨rfl, hK69, hT74, hTH75, hW70.1, hF73⟩
      · skip
        refine x_aload_n 1 d_X2_item_40 rfl rfl ?_
        refine x_bipush (x := 16) d_X2_item_41 (by decide) ?_
        refine x_cvi (k := 28) (as := [.int 16]) (c_X2_numberFollows l E μ hn hW hK hO 16) v_X2_numberFollows w_X2_numberFollows q570 o_T rfl ⟨Nat.le_of_ble_eq_true rfl, Nat.le_of_ble_eq_true rfl⟩ rfl (Nat.le_of_ble_eq_true rfl) d_X2_item_43 ?_
        rintro _ μ91 ⟨rfl, hK92, hl94, hF95⟩
        have hW93 : TW S n μ91 := ⟨hl94, fun j hj => (congrFun (hF95 29 (by omega)) j).trans (hW.2 j hj)⟩
        have hF96 : ∀ id, (id < 10 ∨ (19 ≤ id ∧ id ≠ 28)) → μ91 id = μ id := fun id hid => (show μ91 id = μ id from (hF95 _ (by omega))).trans (hF id hid)
        have hT97 := PR.cg hT (μ' := μ91) (fun id hid => (hF95 _ (by omega)))
        have hTH98 := hTH
        rw [← (show μ91 10 = μ 10 from (hF95 _ (by omega)))] at hTH98
        refine x_ifb_ne 51 d_X2_item_46 (by decide) (fun c99 => ?_) (fun c99 => ?_)
        · skip
          have h21 := num_20 c99
          refine x_aload_n 2 d_X2_item_51 rfl rfl ?_
          refine x_aload_n 1 d_X2_item_52 rfl rfl ?_
          refine x_getiV (j := 5) (z := tkV (tokAt S n (tkE t))) x_c2 rfl (Nat.le_of_ble_eq_true rfl) q112 rfl (hK92.2.2.2 h21) d_X2_item_53 ?_
          refine x_putiG (j := 6) x_c0 (p_kd x_pr10) (Nat.le_of_ble_eq_true rfl) q46 (p_n6 x_pr10) rfl rfl d_X2_item_56 (fun μ100 eμ100 => ?_)
          have hT101 : PR (upd a 1 (tkV (tokAt S n (tkE t)))) 10 μ100 := PR.w6 hT97 eμ100
          have hTH102 : μ100 10 11 = h := by rw [eμ100, upd2_at, upd_n _ _ (by decide)]; exact hTH98
          have hW103 := TW.cg hW93 (μ' := μ100) (fun id hid => (by rw [eμ100, upd2_ne _ _ _ (by omega)]))
          have hK104 := TK.cg hK92 (μ' := μ100) (fun id hid => (by rw [eμ100, upd2_ne _ _ _ (by omega)]))
          have hF105 : ∀ id, (id < 10 ∨ (19 ≤ id ∧ id ≠ 28)) → μ100 id = μ id := fun id hid => (show μ100 id = μ91 id from (by rw [eμ100, upd2_ne _ _ _ (by omega)])).trans (hF96 id hid)
          refine x_goto 160 d_X2_item_59 (by decide) ?_
          refine x_aload_n 1 d_X2_item_160 rfl rfl ?_
          refine x_cvv (k := 28) (as := []) (c_X2_advance l E μ100 hn hW103 (p := tkE (tokAt S n (tkE t))) (tok_TO S hO.2.1).2.1 hK104.2.1) v_X2_advance w_X2_advance q487 o_T rfl ⟨Nat.le_of_ble_eq_true rfl, Nat.le_of_ble_eq_true rfl⟩ rfl (Nat.le_of_ble_eq_true rfl) d_X2_item_161 ?_
          rintro μ106 ⟨hK107, hl109, hF110⟩
          have hW108 : TW S n μ106 := ⟨hl109, fun j hj => (congrFun (hF110 29 (by omega)) j).trans (hW103.2 j hj)⟩
          have hF111 : ∀ id, (id < 10 ∨ (19 ≤ id ∧ id ≠ 28)) → μ106 id = μ id := fun id hid => (show μ106 id = μ100 id from (hF110 _ (by omega))).trans (hF105 id hid)
          have hT112 := PR.cg hT101 (μ' := μ106) (fun id hid => (hF110 _ (by omega)))
          have hTH113 := hTH102
          rw [← (show μ106 10 = μ100 10 from (hF110 _ (by omega)))] at hTH113
          refine x_iconst (x := 1) d_X2_item_164 (by decide) ?_
          refine x_zret1 rfl d_X2_item_165 ?_
          have e9 : itemF S n a t = (true, upd a 1 (tkV (tokAt S n (tkE t))), tokAt S n (tkE (tokAt S n (tkE t)))) := by unfold itemF; rw [if_neg h6, if_neg (of_decide_eq_false c11), if_pos (of_decide_eq_true c12)]; unfold putF; rw [if_pos c99]
          rw [e9]
          exact ⟨rfl, hK107, hT112, hTH113, hW108.1, hF111⟩
        · skip
          refine x_iconst (x := 0) d_X2_item_49 (by decide) ?_
          refine x_zret0 rfl d_X2_item_50 ?_
          have e9 : itemF S n a t = (false, a, (tokAt S n (tkE t))) := by unfold itemF; rw [if_neg h6, if_neg (of_decide_eq_false c11), if_pos (of_decide_eq_true c12)]; unfold putF; rw [if_neg (by rw [c99]; decide)]
          rw [e9]
          exact ⟨rfl, hK92, hT97, hTH98, hW93.1, hF96⟩
    · skip
      refine x_aload_n 1 d_X2_item_25 rfl rfl ?_
      refine x_aload_n 2 d_X2_item_26 rfl rfl ?_
      refine x_cvi (k := 28) (as := [.ref (E.1 + 10)]) (c_X2_needOfStretch l E μ hn hW hK hO hT hI hTH) v_X2_needOfStretch w_X2_needOfStretch q577 o_T rfl ⟨Nat.le_of_ble_eq_true rfl, Nat.le_of_ble_eq_true rfl⟩ rfl (Nat.le_of_ble_eq_true rfl) d_X2_item_27 ?_
      rintro _ μ114 ⟨rfl, hK115, hT119, hTH120, hl117, hF118⟩
      have hW116 : TW S n μ114 := ⟨hl117, fun j hj => (congrFun (hF118 29 (by omega)) j).trans (hW.2 j hj)⟩
      have hF121 : ∀ id, (id < 10 ∨ (19 ≤ id ∧ id ≠ 28)) → μ114 id = μ id := fun id hid => (show μ114 id = μ id from (hF118 _ (by omega))).trans (hF id hid)
      refine x_zret rfl d_X2_item_30 ?_
      have e9 : itemF S n a t = needF S n a t := by unfold itemF; rw [if_neg h6, if_pos (of_decide_eq_true c11)]
      rw [e9]
      exact ⟨rfl, hK115, hT119, hTH120, hW116.1, hF121⟩
def m_X2_tellAll : x_M := (yX2_tellAll, prog_4_method_3_code, 3, (some FieldType.int), 7, 153)
theorem v_X2_tellAll : x_VM m_X2_tellAll 1 := ⟨q486, q4, by decide +kernel, by decide +kernel, by decide +kernel⟩
theorem w_X2_tellAll : x_VI m_X2_tellAll := ⟨q484, q485⟩
theorem d_X2_tellAll_0 : x_dec m_X2_tellAll 0 (.iconst 0) 1 1 := ⟨by decide +kernel, rfl⟩
theorem d_X2_tellAll_1 : x_dec m_X2_tellAll 1 (.istore_n 2) 1 2 := ⟨by decide +kernel, rfl⟩
theorem d_X2_tellAll_2 : x_dec m_X2_tellAll 2 (.aload_n 0) 1 3 := ⟨by decide +kernel, rfl⟩
theorem d_X2_tellAll_3 : x_dec m_X2_tellAll 3 (.iconst 0) 1 4 := ⟨by decide +kernel, rfl⟩
theorem d_X2_tellAll_4 : x_dec m_X2_tellAll 4 (.putfield 22) 3 7 := ⟨by decide +kernel, rfl⟩
theorem d_X2_tellAll_7 : x_dec m_X2_tellAll 7 (.aload_n 0) 1 8 := ⟨by decide +kernel, rfl⟩
theorem d_X2_tellAll_8 : x_dec m_X2_tellAll 8 (.iconst 0) 1 9 := ⟨by decide +kernel, rfl⟩
theorem d_X2_tellAll_9 : x_dec m_X2_tellAll 9 (.putfield 25) 3 12 := ⟨by decide +kernel, rfl⟩
theorem d_X2_tellAll_12 : x_dec m_X2_tellAll 12 (.aload_n 0) 1 13 := ⟨by decide +kernel, rfl⟩
theorem d_X2_tellAll_13 : x_dec m_X2_tellAll 13 (.invokevirtual 31) 3 16 := ⟨by decide +kernel, rfl⟩
theorem d_X2_tellAll_16 : x_dec m_X2_tellAll 16 (.iload_n 2) 1 17 := ⟨by decide +kernel, rfl⟩
theorem d_X2_tellAll_17 : x_dec m_X2_tellAll 17 (.bipush 120) 2 19 := ⟨by decide +kernel, rfl⟩
theorem d_X2_tellAll_19 : x_dec m_X2_tellAll 19 (.if_icmp .gt 45) 3 22 := ⟨by decide +kernel, rfl⟩
theorem d_X2_tellAll_22 : x_dec m_X2_tellAll 22 (.aload_n 0) 1 23 := ⟨by decide +kernel, rfl⟩
theorem d_X2_tellAll_23 : x_dec m_X2_tellAll 23 (.aload_n 1) 1 24 := ⟨by decide +kernel, rfl⟩
theorem d_X2_tellAll_24 : x_dec m_X2_tellAll 24 (.invokevirtual 34) 3 27 := ⟨by decide +kernel, rfl⟩
theorem d_X2_tellAll_27 : x_dec m_X2_tellAll 27 (.ifCond .eq 37) 3 30 := ⟨by decide +kernel, rfl⟩
theorem d_X2_tellAll_30 : x_dec m_X2_tellAll 30 (.iinc 2 1) 3 33 := ⟨by decide +kernel, rfl⟩
theorem d_X2_tellAll_33 : x_dec m_X2_tellAll 33 (.aload_n 0) 1 34 := ⟨by decide +kernel, rfl⟩
theorem d_X2_tellAll_34 : x_dec m_X2_tellAll 34 (.getfield 19) 3 37 := ⟨by decide +kernel, rfl⟩
theorem d_X2_tellAll_37 : x_dec m_X2_tellAll 37 (.ifCond .ne 5) 3 40 := ⟨by decide +kernel, rfl⟩
theorem d_X2_tellAll_40 : x_dec m_X2_tellAll 40 (.iload_n 2) 1 41 := ⟨by decide +kernel, rfl⟩
theorem d_X2_tellAll_41 : x_dec m_X2_tellAll 41 (.ireturn) 1 42 := ⟨by decide +kernel, rfl⟩
theorem d_X2_tellAll_42 : x_dec m_X2_tellAll 42 (.aload_n 0) 1 43 := ⟨by decide +kernel, rfl⟩
theorem d_X2_tellAll_43 : x_dec m_X2_tellAll 43 (.getfield 19) 3 46 := ⟨by decide +kernel, rfl⟩
theorem d_X2_tellAll_46 : x_dec m_X2_tellAll 46 (.iconst 3) 1 47 := ⟨by decide +kernel, rfl⟩
theorem d_X2_tellAll_47 : x_dec m_X2_tellAll 47 (.if_icmp .eq 10) 3 50 := ⟨by decide +kernel, rfl⟩
theorem d_X2_tellAll_50 : x_dec m_X2_tellAll 50 (.iconst (-1)) 1 51 := ⟨by decide +kernel, rfl⟩
theorem d_X2_tellAll_51 : x_dec m_X2_tellAll 51 (.aload_n 0) 1 52 := ⟨by decide +kernel, rfl⟩
theorem d_X2_tellAll_52 : x_dec m_X2_tellAll 52 (.getfield 22) 3 55 := ⟨by decide +kernel, rfl⟩
theorem d_X2_tellAll_55 : x_dec m_X2_tellAll 55 (.isub) 1 56 := ⟨by decide +kernel, rfl⟩
theorem d_X2_tellAll_56 : x_dec m_X2_tellAll 56 (.ireturn) 1 57 := ⟨by decide +kernel, rfl⟩
theorem d_X2_tellAll_57 : x_dec m_X2_tellAll 57 (.aload_n 0) 1 58 := ⟨by decide +kernel, rfl⟩
theorem d_X2_tellAll_58 : x_dec m_X2_tellAll 58 (.invokevirtual 31) 3 61 := ⟨by decide +kernel, rfl⟩
theorem d_X2_tellAll_61 : x_dec m_X2_tellAll 61 (.goto (-45)) 3 64 := ⟨by decide +kernel, rfl⟩
theorem d_X2_tellAll_64 : x_dec m_X2_tellAll 64 (.iconst (-1)) 1 65 := ⟨by decide +kernel, rfl⟩
theorem d_X2_tellAll_65 : x_dec m_X2_tellAll 65 (.aload_n 0) 1 66 := ⟨by decide +kernel, rfl⟩
theorem d_X2_tellAll_66 : x_dec m_X2_tellAll 66 (.getfield 22) 3 69 := ⟨by decide +kernel, rfl⟩
theorem d_X2_tellAll_69 : x_dec m_X2_tellAll 69 (.isub) 1 70 := ⟨by decide +kernel, rfl⟩
theorem d_X2_tellAll_70 : x_dec m_X2_tellAll 70 (.ireturn) 1 71 := ⟨by decide +kernel, rfl⟩
set_option maxHeartbeats 4000000 in
set_option maxRecDepth 100000 in
theorem c_X2_tellAll (l : Launch) (E : x_E) (μ : x_Mem) {S : Nat → Int32} {n : Nat} (hn : n ≤ 120) (hW : TW S n μ) {a : x_St} (hT : PR a 10 μ) (hI : WF a) {h : Int32} (hTH : μ 10 11 = h) : x_Met l m_X2_tellAll E [.ref (E.1 + 28), .ref (E.1 + 10)] μ (x_I (fun z m => z = (tellF S n 121 0 a (tokAt S n 0)).1 ∧ PR (tellF S n 121 0 a (tokAt S n 0)).2 10 m ∧ m 10 11 = h ∧ m 28 1 = nI n ∧ ∀ id, (id < 10 ∨ (19 ≤ id ∧ id ≠ 28)) → m id = μ id)) := by
  have hF : ∀ id, (id < 10 ∨ (19 ≤ id ∧ id ≠ 28)) → μ id = μ id := fun _ _ => rfl
  refine x_enter (lv := [(0, .ref (E.1 + 28)), (1, .ref (E.1 + 10))]) (by decide +kernel) (Nat.le_of_ble_eq_true rfl) rfl ?_
  refine x_iconst (x := 0) d_X2_tellAll_0 (by decide) ?_
  refine x_istore_n [(2, .int 0), (0, .ref (E.1 + 28)), (1, .ref (E.1 + 10))] d_X2_tellAll_1 rfl (Nat.le_of_ble_eq_true rfl) rfl ?_
  refine x_aload_n 1 d_X2_tellAll_2 rfl rfl ?_
  refine x_iconst (x := 0) d_X2_tellAll_3 (by decide) ?_
  refine x_putiG (j := 3) x_c2 rfl (Nat.le_of_ble_eq_true rfl) q110 rfl rfl rfl d_X2_tellAll_4 (fun μ1 eμ1 => ?_)
  have hW2 : TW S n μ1 := ⟨by rw [eμ1, upd2_at, upd_n _ _ (by decide)]; exact hW.1, fun j hj => by rw [eμ1, upd2_ne _ _ _ (by decide)]; exact hW.2 j hj⟩
  have hF3 : ∀ id, (id < 10 ∨ (19 ≤ id ∧ id ≠ 28)) → μ1 id = μ id := fun id hid => (show μ1 id = μ id from (by rw [eμ1, upd2_ne _ _ _ (by omega)])).trans (hF id hid)
  have hT4 := PR.cg hT (μ' := μ1) (fun id hid => (by rw [eμ1, upd2_ne _ _ _ (by omega)]))
  have hTH5 := hTH
  rw [← (show μ1 10 = μ 10 from (by rw [eμ1, upd2_ne _ _ _ (by omega)]))] at hTH5
  refine x_aload_n 1 d_X2_tellAll_7 rfl rfl ?_
  refine x_iconst (x := 0) d_X2_tellAll_8 (by decide) ?_
  refine x_putiG (j := 4) x_c2 rfl (Nat.le_of_ble_eq_true rfl) q111 rfl rfl rfl d_X2_tellAll_9 (fun μ6 eμ6 => ?_)
  have hW7 : TW S n μ6 := ⟨by rw [eμ6, upd2_at, upd_n _ _ (by decide)]; exact hW2.1, fun j hj => by rw [eμ6, upd2_ne _ _ _ (by decide)]; exact hW2.2 j hj⟩
  have h4 : μ6 28 4 = nI 0 := by rw [eμ6, upd2_at, upd_s]; rfl
  have hF8 : ∀ id, (id < 10 ∨ (19 ≤ id ∧ id ≠ 28)) → μ6 id = μ id := fun id hid => (show μ6 id = μ1 id from (by rw [eμ6, upd2_ne _ _ _ (by omega)])).trans (hF3 id hid)
  have hT9 := PR.cg hT4 (μ' := μ6) (fun id hid => (by rw [eμ6, upd2_ne _ _ _ (by omega)]))
  have hTH10 := hTH5
  rw [← (show μ6 10 = μ1 10 from (by rw [eμ6, upd2_ne _ _ _ (by omega)]))] at hTH10
  refine x_aload_n 1 d_X2_tellAll_12 rfl rfl ?_
  refine x_cvv (k := 28) (as := []) (c_X2_advance l E μ6 hn hW7 (p := 0) (Nat.zero_le n) h4) v_X2_advance w_X2_advance q487 o_T rfl ⟨Nat.le_of_ble_eq_true rfl, Nat.le_of_ble_eq_true rfl⟩ rfl (Nat.le_of_ble_eq_true rfl) d_X2_tellAll_13 ?_
  rintro μ11 ⟨hK12, hl14, hF15⟩
  have hW13 : TW S n μ11 := ⟨hl14, fun j hj => (congrFun (hF15 29 (by omega)) j).trans (hW7.2 j hj)⟩
  have hF16 : ∀ id, (id < 10 ∨ (19 ≤ id ∧ id ≠ 28)) → μ11 id = μ id := fun id hid => (show μ11 id = μ6 id from (hF15 _ (by omega))).trans (hF8 id hid)
  have hT17 := PR.cg hT9 (μ' := μ11) (fun id hid => (hF15 _ (by omega)))
  have hTH18 := hTH10
  rw [← (show μ11 10 = μ6 10 from (hF15 _ (by omega)))] at hTH18
  have L19 : ∀ i : Nat, i ≤ 121 → ∀ b : x_St, ∀ u : x_Tk, ∀ μ22 : x_Mem, (TW S n μ22) → (TK u μ22) → (TO S n u) → (PR b 10 μ22) → (WF b) → (μ22 10 11 = h) → (tellF S n 121 0 a (tokAt S n 0) = tellF S n (121 - i) i b u) → (∀ id, (id < 10 ∨ (19 ≤ id ∧ id ≠ 28)) → μ22 id = μ id) → x_G l E m_X2_tellAll (x_mv E m_X2_tellAll (x_I (fun z m => z = (tellF S n 121 0 a (tokAt S n 0)).1 ∧ PR (tellF S n 121 0 a (tokAt S n 0)).2 10 m ∧ m 10 11 = h ∧ m 28 1 = nI n ∧ ∀ id, (id < 10 ∨ (19 ≤ id ∧ id ≠ 28)) → m id = μ id))) μ22 16 [(2, .int (nI i)), (0, .ref (E.1 + 28)), (1, .ref (E.1 + 10))] [] := by
    refine x_down _ 121 (fun i hi21 ih20 => ?_)
    intro b u μ22 hL1 hK1 hO1 hT1 hI1 hTH1 he hF1
    refine x_iload_n 0 d_X2_tellAll_16 rfl rfl ?_
    refine x_bipush (x := 120) d_X2_tellAll_17 (by decide) ?_
    refine x_icmp_gt 64 d_X2_tellAll_19 (by decide) (fun c23 => ?_) (fun c23 => ?_)
    · skip
      have hN := (nI_ltI (a := 120) (b := i) (by omega) (by omega)).mp c23
      refine x_iconst (x := (-1)) d_X2_tellAll_64 (by decide) ?_
      refine x_aload_n 1 d_X2_tellAll_65 rfl rfl ?_
      refine x_getiV (j := 3) (z := nI (tkB u)) x_c2 rfl (Nat.le_of_ble_eq_true rfl) q110 rfl (hK1.1) d_X2_tellAll_66 ?_
      refine x_isub d_X2_tellAll_69 ?_
      refine x_iret rfl d_X2_tellAll_70 ?_
      have e9 := he.trans (tell_0 (show 121 - i = 0 by omega))
      rw [e9]
      exact ⟨rfl, hT1, hTH1, hL1.1, hF1⟩
    · skip
      have hN : ¬ 120 < i := fun z => c23 (nI_lt z (by omega))
      refine x_aload_n 1 d_X2_tellAll_22 rfl rfl ?_
      refine x_aload_n 2 d_X2_tellAll_23 rfl rfl ?_
      refine x_cvi (k := 28) (as := [.ref (E.1 + 10)]) (c_X2_item l E μ22 hn hL1 hK1 hO1 hT1 hI1 hTH1) v_X2_item w_X2_item q498 o_T rfl ⟨Nat.le_of_ble_eq_true rfl, Nat.le_of_ble_eq_true rfl⟩ rfl (Nat.le_of_ble_eq_true rfl) d_X2_tellAll_24 ?_
      rintro _ μ24 ⟨rfl, hK25, hT29, hTH30, hl27, hF28⟩
      have hW26 : TW S n μ24 := ⟨hl27, fun j hj => (congrFun (hF28 29 (by omega)) j).trans (hL1.2 j hj)⟩
      have hF31 : ∀ id, (id < 10 ∨ (19 ≤ id ∧ id ≠ 28)) → μ24 id = μ id := fun id hid => (show μ24 id = μ22 id from (hF28 _ (by omega))).trans (hF1 id hid)
      refine x_ifb_eq 64 d_X2_tellAll_27 (by decide) (fun c32 => ?_) (fun c32 => ?_)
      · skip
        refine x_iconst (x := (-1)) d_X2_tellAll_64 (by decide) ?_
        refine x_aload_n 1 d_X2_tellAll_65 rfl rfl ?_
        refine x_getiV (j := 3) (z := nI (tkB ((itemF S n b u).2.2))) x_c2 rfl (Nat.le_of_ble_eq_true rfl) q110 rfl (hK25.1) d_X2_tellAll_66 ?_
        refine x_isub d_X2_tellAll_69 ?_
        refine x_iret rfl d_X2_tellAll_70 ?_
        have e9 := he.trans (tell_n (by omega) c32)
        rw [e9]
        exact ⟨rfl, hT29, hTH30, hW26.1, hF31⟩
      · skip
        refine x_iinc [(2, .int (nI (i + 1))), (0, .ref (E.1 + 28)), (1, .ref (E.1 + 10))] 0 d_X2_tellAll_30 rfl (x_inc _) (Nat.le_of_ble_eq_true rfl) rfl ?_
        refine x_aload_n 1 d_X2_tellAll_33 rfl rfl ?_
        refine x_getiV (j := 2) (z := nI (pT (tkC ((itemF S n b u).2.2)))) x_c2 rfl (Nat.le_of_ble_eq_true rfl) q109 rfl (hK25.2.2.1) d_X2_tellAll_34 ?_
        refine x_if_ne 42 d_X2_tellAll_37 (by decide) (fun c33 => ?_) (fun c33 => ?_)
        · skip
          refine x_aload_n 1 d_X2_tellAll_42 rfl rfl ?_
          refine x_getiV (j := 2) (z := nI (pT (tkC ((itemF S n b u).2.2)))) x_c2 rfl (Nat.le_of_ble_eq_true rfl) q109 rfl (hK25.2.2.1) d_X2_tellAll_43 ?_
          refine x_iconst (x := 3) d_X2_tellAll_46 (by decide) ?_
          refine x_icmp_eq 57 d_X2_tellAll_47 (by decide) (fun c34 => ?_) (fun c34 => ?_)
          · skip
            have h21 := pT_3.mp c34
            refine x_aload_n 1 d_X2_tellAll_57 rfl rfl ?_
            refine x_cvv (k := 28) (as := []) (c_X2_advance l E μ24 hn hW26 (p := tkE ((itemF S n b u).2.2)) ((item_ok (S := S) (n := n) hI1 hO1).2).2.1 hK25.2.1) v_X2_advance w_X2_advance q487 o_T rfl ⟨Nat.le_of_ble_eq_true rfl, Nat.le_of_ble_eq_true rfl⟩ rfl (Nat.le_of_ble_eq_true rfl) d_X2_tellAll_58 ?_
            rintro μ35 ⟨hK36, hl38, hF39⟩
            have hW37 : TW S n μ35 := ⟨hl38, fun j hj => (congrFun (hF39 29 (by omega)) j).trans (hW26.2 j hj)⟩
            have hF40 : ∀ id, (id < 10 ∨ (19 ≤ id ∧ id ≠ 28)) → μ35 id = μ id := fun id hid => (show μ35 id = μ24 id from (hF39 _ (by omega))).trans (hF31 id hid)
            have hT41 := PR.cg hT29 (μ' := μ35) (fun id hid => (hF39 _ (by omega)))
            have hTH42 := hTH30
            rw [← (show μ35 10 = μ24 10 from (hF39 _ (by omega)))] at hTH42
            refine x_goto 16 d_X2_tellAll_61 (by decide) ?_
            exact ih20 (i + 1) (by omega) (by omega) ((itemF S n b u).2.1) (tokAt S n (tkE ((itemF S n b u).2.2))) μ35 hW37 hK36 (tok_TO S ((item_ok (S := S) (n := n) hI1 hO1).2).2.1) hT41 ((item_ok (S := S) (n := n) hI1 hO1).1) hTH42 (he.trans (tell_s (by omega) c32 h21)) hF40
          · skip
            refine x_iconst (x := (-1)) d_X2_tellAll_50 (by decide) ?_
            refine x_aload_n 1 d_X2_tellAll_51 rfl rfl ?_
            refine x_getiV (j := 3) (z := nI (tkB ((itemF S n b u).2.2))) x_c2 rfl (Nat.le_of_ble_eq_true rfl) q110 rfl (hK25.1) d_X2_tellAll_52 ?_
            refine x_isub d_X2_tellAll_55 ?_
            refine x_iret rfl d_X2_tellAll_56 ?_
            have e9 := he.trans (tell_o (by omega) c32 (fun z => c33 (pT_0.mpr z)) (fun z => c34 (pT_3.mpr z)))
            rw [e9]
            exact ⟨rfl, hT29, hTH30, hW26.1, hF31⟩
        · skip
          refine x_iload_n 0 d_X2_tellAll_40 rfl rfl ?_
          refine x_iret rfl d_X2_tellAll_41 ?_
          have e9 := he.trans (tell_e (by omega) c32 (pT_0.mp (by simpa using c33)))
          rw [e9]
          exact ⟨rfl, hT29, hTH30, hW26.1, hF31⟩
  exact L19 0 (by omega) a (tokAt S n 0) μ11 hW13 hK12 (tok_TO S (Nat.zero_le n)) hT17 hI hTH18 (by rfl) hF16
def m_X3_text : x_M := (yX3_text, prog_1_method_43_code, 2, (some FieldType.int), 8, 175)
theorem v_X3_text : x_VM m_X3_text 0 := ⟨q482, q1, by decide +kernel, by decide +kernel, by decide +kernel⟩
theorem w_X3_text : x_VI m_X3_text := ⟨q480, q481⟩
theorem d_X3_text_0 : x_dec m_X3_text 0 (.aload_n 0) 1 1 := ⟨by decide +kernel, rfl⟩
theorem d_X3_text_1 : x_dec m_X3_text 1 (.getfield 16) 3 4 := ⟨by decide +kernel, rfl⟩
theorem d_X3_text_4 : x_dec m_X3_text 4 (.aload_n 0) 1 5 := ⟨by decide +kernel, rfl⟩
theorem d_X3_text_5 : x_dec m_X3_text 5 (.getfield 12) 3 8 := ⟨by decide +kernel, rfl⟩
theorem d_X3_text_8 : x_dec m_X3_text 8 (.invokevirtual 133) 3 11 := ⟨by decide +kernel, rfl⟩
theorem d_X3_text_11 : x_dec m_X3_text 11 (.aload_n 0) 1 12 := ⟨by decide +kernel, rfl⟩
theorem d_X3_text_12 : x_dec m_X3_text 12 (.getfield 29) 3 15 := ⟨by decide +kernel, rfl⟩
theorem d_X3_text_15 : x_dec m_X3_text 15 (.aload_n 0) 1 16 := ⟨by decide +kernel, rfl⟩
theorem d_X3_text_16 : x_dec m_X3_text 16 (.getfield 16) 3 19 := ⟨by decide +kernel, rfl⟩
theorem d_X3_text_19 : x_dec m_X3_text 19 (.invokevirtual 226) 3 22 := ⟨by decide +kernel, rfl⟩
theorem d_X3_text_22 : x_dec m_X3_text 22 (.istore_n 1) 1 23 := ⟨by decide +kernel, rfl⟩
theorem d_X3_text_23 : x_dec m_X3_text 23 (.aload_n 0) 1 24 := ⟨by decide +kernel, rfl⟩
theorem d_X3_text_24 : x_dec m_X3_text 24 (.getfield 29) 3 27 := ⟨by decide +kernel, rfl⟩
theorem d_X3_text_27 : x_dec m_X3_text 27 (.iconst 0) 1 28 := ⟨by decide +kernel, rfl⟩
theorem d_X3_text_28 : x_dec m_X3_text 28 (.putfield 221) 3 31 := ⟨by decide +kernel, rfl⟩
theorem d_X3_text_31 : x_dec m_X3_text 31 (.iload_n 1) 1 32 := ⟨by decide +kernel, rfl⟩
theorem d_X3_text_32 : x_dec m_X3_text 32 (.ifCond .lt 14) 3 35 := ⟨by decide +kernel, rfl⟩
theorem d_X3_text_35 : x_dec m_X3_text 35 (.aload_n 0) 1 36 := ⟨by decide +kernel, rfl⟩
theorem d_X3_text_36 : x_dec m_X3_text 36 (.getfield 12) 3 39 := ⟨by decide +kernel, rfl⟩
theorem d_X3_text_39 : x_dec m_X3_text 39 (.aload_n 0) 1 40 := ⟨by decide +kernel, rfl⟩
theorem d_X3_text_40 : x_dec m_X3_text 40 (.getfield 16) 3 43 := ⟨by decide +kernel, rfl⟩
theorem d_X3_text_43 : x_dec m_X3_text 43 (.invokevirtual 133) 3 46 := ⟨by decide +kernel, rfl⟩
theorem d_X3_text_46 : x_dec m_X3_text 46 (.iload_n 1) 1 47 := ⟨by decide +kernel, rfl⟩
theorem d_X3_text_47 : x_dec m_X3_text 47 (.ireturn) 1 48 := ⟨by decide +kernel, rfl⟩
set_option maxHeartbeats 4000000 in
set_option maxRecDepth 100000 in
theorem c_X3_text (l : Launch) (E : x_E) (μ : x_Mem) (g : x_SG) (hS : XS g μ) (hI : Inv g) : x_Met l m_X3_text E [.ref (E.1 + 0)] μ (x_I (fun z m => z = (F_text g).1 ∧ XS (F_text g).2 m ∧ ∀ id, 41 ≤ id → m id = μ id)) := by
  obtain ⟨hL, hH, hX, hD⟩ := hS
  have hWF := hI.1.1
  have hn7 := hWF.2.1
  have hpn := hWF.1
  have hF : ∀ id, 41 ≤ id → μ id = μ id := fun _ _ => rfl
  have hT120 := hI.2.2.1
  refine x_enter (lv := [(0, .ref (E.1 + 0))]) (by decide +kernel) (Nat.le_of_ble_eq_true rfl) rfl ?_
  refine x_aload_n 0 d_X3_text_0 rfl rfl ?_
  refine x_getr (j := 1) 10 x_c3 rfl (Nat.le_of_ble_eq_true rfl) q148 rfl d_X3_text_1 ?_
  refine x_aload_n 0 d_X3_text_4 rfl rfl ?_
  refine x_getr (j := 0) 1 x_c3 rfl (Nat.le_of_ble_eq_true rfl) q147 rfl d_X3_text_5 ?_
  refine x_cvv (k := 10) (as := [.ref (E.1 + 1)]) (c_X0_becomes l E μ x_pr10 x_pr1 (by decide) hL hH) v_X0_becomes w_X0_becomes q309 (p_ob x_pr10) rfl ⟨Nat.le_of_ble_eq_true rfl, Nat.le_of_ble_eq_true rfl⟩ rfl (Nat.le_of_ble_eq_true rfl) d_X3_text_8 ?_
  rintro μ1 ⟨hT2, hTH3, hF4⟩
  have hL5 := PR.cg hL (μ' := μ1) (fun id hid => (hF4 _ (by omega)))
  have hLH6 := hH
  rw [← (show μ1 1 = μ 1 from (hF4 _ (by omega)))] at hLH6
  have hX7 := XR.cg hX (μ' := μ1) (fun id hid => (hF4 _ (by omega)))
  have hD8 := XD.cg hD (μ' := μ1) (fun id hid => (hF4 _ (by omega)))
  have hF9 : ∀ id, 41 ≤ id → μ1 id = μ id := fun id hid => (show μ1 id = μ id from (hF4 _ (by omega))).trans (hF id hid)
  refine x_aload_n 0 d_X3_text_11 rfl rfl ?_
  refine x_getr (j := 4) 28 x_c3 rfl (Nat.le_of_ble_eq_true rfl) q151 rfl d_X3_text_12 ?_
  refine x_aload_n 0 d_X3_text_15 rfl rfl ?_
  refine x_getr (j := 1) 10 x_c3 rfl (Nat.le_of_ble_eq_true rfl) q148 rfl d_X3_text_16 ?_
  refine x_cvi (k := 28) (as := [.ref (E.1 + 10)]) (c_X2_tellAll l E μ1 (S := tS g) (n := gT g) hT120 ⟨hX7.2.2.1, hX7.2.2.2.1⟩ hT2 hWF hTH3) v_X2_tellAll w_X2_tellAll q483 o_T rfl ⟨Nat.le_of_ble_eq_true rfl, Nat.le_of_ble_eq_true rfl⟩ rfl (Nat.le_of_ble_eq_true rfl) d_X3_text_19 ?_
  rintro _ μ10 ⟨rfl, hT11, hTH12, hl13, hF14⟩
  have hX15 : XR g μ10 := XR.tape hX7 (n := gT g) (b := gB g) hl13 (fun j hj => (congrFun (hF14 29 (by omega)) j).trans (hX7.2.2.2.1 j hj)) (fun id hid => hF14 id (by omega))
  have hL16 := PR.cg hL5 (μ' := μ10) (fun id hid => (hF14 _ (by omega)))
  have hLH17 := hLH6
  rw [← (show μ10 1 = μ1 1 from (hF14 _ (by omega)))] at hLH17
  have hD18 := XD.cg hD8 (μ' := μ10) (fun id hid => (hF14 _ (by omega)))
  have hF19 : ∀ id, 41 ≤ id → μ10 id = μ id := fun id hid => (show μ10 id = μ1 id from (hF14 _ (by omega))).trans (hF9 id hid)
  refine x_istore_n [(1, .int ((tellF (tS g) (gT g) 121 0 (gA g) (tokAt (tS g) (gT g) 0)).1)), (0, .ref (E.1 + 0))] d_X3_text_22 rfl (Nat.le_of_ble_eq_true rfl) rfl ?_
  refine x_aload_n 1 d_X3_text_23 rfl rfl ?_
  refine x_getr (j := 4) 28 x_c3 rfl (Nat.le_of_ble_eq_true rfl) q151 rfl d_X3_text_24 ?_
  refine x_iconst (x := 0) d_X3_text_27 (by decide) ?_
  refine x_putiG (j := 1) x_c2 rfl (Nat.le_of_ble_eq_true rfl) q108 rfl rfl rfl d_X3_text_28 (fun μ20 eμ20 => ?_)
  have hX21 : XR (sT g 0 (gB g)) μ20 := XR.tape hX15 (by rw [eμ20, upd2_at, upd_s]; rfl) (fun _ hj => absurd hj (Nat.not_lt_zero _)) (fun id hid => by rw [eμ20, upd2_ne _ _ _ (by omega)])
  have hL22 := PR.cg hL16 (μ' := μ20) (fun id hid => (by rw [eμ20, upd2_ne _ _ _ (by omega)]))
  have hLH23 := hLH17
  rw [← (show μ20 1 = μ10 1 from (by rw [eμ20, upd2_ne _ _ _ (by omega)]))] at hLH23
  have hD24 := XD.cg hD18 (μ' := μ20) (fun id hid => (by rw [eμ20, upd2_ne _ _ _ (by omega)]))
  have hF25 : ∀ id, 41 ≤ id → μ20 id = μ id := fun id hid => (show μ20 id = μ10 id from (by rw [eμ20, upd2_ne _ _ _ (by omega)])).trans (hF19 id hid)
  have hT26 := PR.cg hT11 (μ' := μ20) (fun id hid => (by rw [eμ20, upd2_ne _ _ _ (by omega)]))
  have hTH27 := hTH12
  rw [← (show μ20 10 = μ10 10 from (by rw [eμ20, upd2_ne _ _ _ (by omega)]))] at hTH27
  refine x_iload_n 0 d_X3_text_31 rfl rfl ?_
  refine x_if_lt 46 d_X3_text_32 (by decide) (fun c28 => ?_) (fun c28 => ?_)
  · skip
    refine x_iload_n 0 d_X3_text_46 rfl rfl ?_
    refine x_iret rfl d_X3_text_47 ?_
    have e9 : F_text g = ((toldF g).1, sT g 0 (gB g)) := by unfold F_text; rw [if_pos (show (toldF g).1 < 0 from c28)]
    rw [e9]
    exact ⟨rfl, ⟨hL22, hLH23, hX21, hD24⟩, hF25⟩
  · skip
    refine x_aload_n 1 d_X3_text_35 rfl rfl ?_
    refine x_getr (j := 0) 1 x_c3 rfl (Nat.le_of_ble_eq_true rfl) q147 rfl d_X3_text_36 ?_
    refine x_aload_n 1 d_X3_text_39 rfl rfl ?_
    refine x_getr (j := 1) 10 x_c3 rfl (Nat.le_of_ble_eq_true rfl) q148 rfl d_X3_text_40 ?_
    refine x_cvv (k := 1) (as := [.ref (E.1 + 10)]) (c_X0_becomes l E μ20 x_pr1 x_pr10 (by decide) hT26 hTH27) v_X0_becomes w_X0_becomes q309 (p_ob x_pr1) rfl ⟨Nat.le_of_ble_eq_true rfl, Nat.le_of_ble_eq_true rfl⟩ rfl (Nat.le_of_ble_eq_true rfl) d_X3_text_43 ?_
    rintro μ29 ⟨hL30, hLH31, hF32⟩
    have hX33 := XR.cg hX21 (μ' := μ29) (fun id hid => (hF32 _ (by omega)))
    have hD34 := XD.cg hD24 (μ' := μ29) (fun id hid => (hF32 _ (by omega)))
    have hF35 : ∀ id, 41 ≤ id → μ29 id = μ id := fun id hid => (show μ29 id = μ20 id from (hF32 _ (by omega))).trans (hF25 id hid)
    have hT36 := PR.cg hT26 (μ' := μ29) (fun id hid => (hF32 _ (by omega)))
    have hTH37 := hTH27
    rw [← (show μ29 10 = μ20 10 from (hF32 _ (by omega)))] at hTH37
    refine x_iload_n 0 d_X3_text_46 rfl rfl ?_
    refine x_iret rfl d_X3_text_47 ?_
    have e9 : F_text g = ((toldF g).1, sA (sT g 0 (gB g)) (toldF g).2) := by unfold F_text; rw [if_neg (show ¬ (toldF g).1 < 0 from c28)]
    rw [e9]
    exact ⟨rfl, ⟨hL30, hLH31.trans (tell_hour _ _ _ _ _ _).symm, hX33, hD34⟩, hF35⟩
