def m_X4_isByte : x_M := (yX4_isByte, prog_6_method_77_code, 4, (some FieldType.boolean), 1, 22)
theorem v_X4_isByte : x_VM m_X4_isByte 3 := ⟨q1031, q6, by decide +kernel, by decide +kernel, by decide +kernel⟩
theorem w_X4_isByte : x_VI m_X4_isByte := ⟨q1030, qs52⟩
theorem d_X4_isByte_0 : x_dec m_X4_isByte 0 (.iload_n 1) 1 1 := ⟨by decide +kernel, rfl⟩
theorem d_X4_isByte_1 : x_dec m_X4_isByte 1 (.aload_n 0) 1 2 := ⟨by decide +kernel, rfl⟩
theorem d_X4_isByte_2 : x_dec m_X4_isByte 2 (.getfield 183) 3 5 := ⟨by decide +kernel, rfl⟩
theorem d_X4_isByte_5 : x_dec m_X4_isByte 5 (.if_icmp .ge 21) 3 8 := ⟨by decide +kernel, rfl⟩
theorem d_X4_isByte_8 : x_dec m_X4_isByte 8 (.aload_n 0) 1 9 := ⟨by decide +kernel, rfl⟩
theorem d_X4_isByte_9 : x_dec m_X4_isByte 9 (.getfield 37) 3 12 := ⟨by decide +kernel, rfl⟩
theorem d_X4_isByte_12 : x_dec m_X4_isByte 12 (.iload_n 1) 1 13 := ⟨by decide +kernel, rfl⟩
theorem d_X4_isByte_13 : x_dec m_X4_isByte 13 (.iaload) 1 14 := ⟨by decide +kernel, rfl⟩
theorem d_X4_isByte_14 : x_dec m_X4_isByte 14 (.iload_n 2) 1 15 := ⟨by decide +kernel, rfl⟩
theorem d_X4_isByte_15 : x_dec m_X4_isByte 15 (.iload_n 3) 1 16 := ⟨by decide +kernel, rfl⟩
theorem d_X4_isByte_16 : x_dec m_X4_isByte 16 (.invokestatic 46) 3 19 := ⟨by decide +kernel, rfl⟩
theorem d_X4_isByte_19 : x_dec m_X4_isByte 19 (.ifCond .eq 7) 3 22 := ⟨by decide +kernel, rfl⟩
theorem d_X4_isByte_22 : x_dec m_X4_isByte 22 (.iconst 1) 1 23 := ⟨by decide +kernel, rfl⟩
theorem d_X4_isByte_23 : x_dec m_X4_isByte 23 (.goto 4) 3 26 := ⟨by decide +kernel, rfl⟩
theorem d_X4_isByte_26 : x_dec m_X4_isByte 26 (.iconst 0) 1 27 := ⟨by decide +kernel, rfl⟩
theorem d_X4_isByte_27 : x_dec m_X4_isByte 27 (.ireturn) 1 28 := ⟨by decide +kernel, rfl⟩
set_option maxHeartbeats 4000000 in
set_option maxRecDepth 100000 in
theorem c_X4_isByte (l : Launch) (E : x_E) (μ : x_Mem) {S : Nat → Int32} {n : Nat} (hn : n ≤ 120) (hW : RW S n μ) {k lo hi : Nat} (hk : k ≤ n) (hl : lo < 128) (hh : hi < 128) : x_Met l m_X4_isByte E [.ref (E.1 + 41), .int (nI k), .int (nI lo), .int (nI hi)] μ (x_I (fun z m => z = x_b (decide (k < n) && inR (S k) (nI lo) (nI hi)) ∧ m = μ)) := by
  refine x_enter (lv := [(0, .ref (E.1 + 41)), (1, .int (nI k)), (2, .int (nI lo)), (3, .int (nI hi))]) (by decide +kernel) (Nat.le_of_ble_eq_true rfl) rfl ?_
  refine x_iload_n 1 d_X4_isByte_0 rfl rfl ?_
  refine x_aload_n 0 d_X4_isByte_1 rfl rfl ?_
  refine x_getiV (j := 11) (z := nI n) x_c4 rfl (Nat.le_of_ble_eq_true rfl) q679 rfl (hW.1) d_X4_isByte_2 ?_
  refine x_icmp_ge 26 d_X4_isByte_5 (by decide) (fun c1 => ?_) (fun c1 => ?_)
  · skip
    have hN := x_ge (N := n) c1 rfl rfl (by omega) (by omega)
    refine x_iconst (x := 0) d_X4_isByte_26 (by decide) ?_
    refine x_zret0 rfl d_X4_isByte_27 ?_
    exact ⟨congrArg x_b (show false = (decide (k < n) && inR (S k) (nI lo) (nI hi)) from by rw [decide_eq_false (show ¬ k < n by omega)]; rfl), rfl⟩
  · skip
    have hN := x_lt (N := n) c1 rfl rfl (by omega) (by omega)
    refine x_aload_n 0 d_X4_isByte_8 rfl rfl ?_
    refine x_getr (j := 10) 51 x_c4 rfl (Nat.le_of_ble_eq_true rfl) q678 rfl d_X4_isByte_9 ?_
    refine x_iload_n 1 d_X4_isByte_12 rfl rfl ?_
    refine x_ialdN (z := μ 51 k) 120 k rfl rfl (by omega) (by decide) rfl d_X4_isByte_13 ?_
    refine x_iload_n 2 d_X4_isByte_14 rfl rfl ?_
    refine x_iload_n 3 d_X4_isByte_15 rfl rfl ?_
    refine x_csip (as := [.int (μ 51 k), .int (nI lo), .int (nI hi)]) (c_X4_in l E μ (μ 51 k) (nI lo) (nI hi)) v_X4_in q728 q727 rfl ⟨Nat.le_of_ble_eq_true rfl, Nat.le_of_ble_eq_true rfl⟩ rfl (Nat.le_of_ble_eq_true rfl) d_X4_isByte_16 ?_
    obtain ⟨b1, hb1, eb1, eb2⟩ := hW.2 k hN
    rw [eb1, by_in hb1 hl hh, ← eb2]
    refine x_ifb_eq 26 d_X4_isByte_19 (by decide) (fun c2 => ?_) (fun c2 => ?_)
    · skip
      refine x_iconst (x := 0) d_X4_isByte_26 (by decide) ?_
      refine x_zret0 rfl d_X4_isByte_27 ?_
      exact ⟨congrArg x_b (show false = (decide (k < n) && inR (S k) (nI lo) (nI hi)) from by rw [decide_eq_true hN, c2]; rfl), rfl⟩
    · skip
      refine x_iconst (x := 1) d_X4_isByte_22 (by decide) ?_
      refine x_goto 27 d_X4_isByte_23 (by decide) ?_
      refine x_zret1 rfl d_X4_isByte_27 ?_
      exact ⟨congrArg x_b (show true = (decide (k < n) && inR (S k) (nI lo) (nI hi)) from by rw [decide_eq_true hN, c2]; rfl), rfl⟩
def m_X4_isName : x_M := (yX4_isName, prog_6_method_78_code, 5, (some FieldType.boolean), 0, 0)
theorem v_X4_isName : x_VM m_X4_isName 2 := ⟨q1039, q6, by decide +kernel, by decide +kernel, by decide +kernel⟩
theorem w_X4_isName : x_VI m_X4_isName := ⟨q1038, qs54⟩
theorem d_X4_isName_0 : x_dec m_X4_isName 0 (.iload_n 2) 1 1 := ⟨by decide +kernel, rfl⟩
theorem d_X4_isName_1 : x_dec m_X4_isName 1 (.bipush 8) 2 3 := ⟨by decide +kernel, rfl⟩
theorem d_X4_isName_3 : x_dec m_X4_isName 3 (.if_icmp .gt 26) 3 6 := ⟨by decide +kernel, rfl⟩
theorem d_X4_isName_6 : x_dec m_X4_isName 6 (.iload_n 2) 1 7 := ⟨by decide +kernel, rfl⟩
theorem d_X4_isName_7 : x_dec m_X4_isName 7 (.bipush 8) 2 9 := ⟨by decide +kernel, rfl⟩
theorem d_X4_isName_9 : x_dec m_X4_isName 9 (.if_icmp .eq 16) 3 12 := ⟨by decide +kernel, rfl⟩
theorem d_X4_isName_12 : x_dec m_X4_isName 12 (.getstatic 187) 3 15 := ⟨by decide +kernel, rfl⟩
theorem d_X4_isName_15 : x_dec m_X4_isName 15 (.bipush 8) 2 17 := ⟨by decide +kernel, rfl⟩
theorem d_X4_isName_17 : x_dec m_X4_isName 17 (.iload_n 1) 1 18 := ⟨by decide +kernel, rfl⟩
theorem d_X4_isName_18 : x_dec m_X4_isName 18 (.imul) 1 19 := ⟨by decide +kernel, rfl⟩
theorem d_X4_isName_19 : x_dec m_X4_isName 19 (.iload_n 2) 1 20 := ⟨by decide +kernel, rfl⟩
theorem d_X4_isName_20 : x_dec m_X4_isName 20 (.iadd) 1 21 := ⟨by decide +kernel, rfl⟩
theorem d_X4_isName_21 : x_dec m_X4_isName 21 (.iaload) 1 22 := ⟨by decide +kernel, rfl⟩
theorem d_X4_isName_22 : x_dec m_X4_isName 22 (.ifCond .ne 7) 3 25 := ⟨by decide +kernel, rfl⟩
theorem d_X4_isName_25 : x_dec m_X4_isName 25 (.iconst 1) 1 26 := ⟨by decide +kernel, rfl⟩
theorem d_X4_isName_26 : x_dec m_X4_isName 26 (.goto 4) 3 29 := ⟨by decide +kernel, rfl⟩
theorem d_X4_isName_29 : x_dec m_X4_isName 29 (.iconst 0) 1 30 := ⟨by decide +kernel, rfl⟩
theorem d_X4_isName_30 : x_dec m_X4_isName 30 (.istore_n 3) 1 31 := ⟨by decide +kernel, rfl⟩
theorem d_X4_isName_31 : x_dec m_X4_isName 31 (.iconst 0) 1 32 := ⟨by decide +kernel, rfl⟩
theorem d_X4_isName_32 : x_dec m_X4_isName 32 (.istore 4) 2 34 := ⟨by decide +kernel, rfl⟩
theorem d_X4_isName_34 : x_dec m_X4_isName 34 (.iload 4) 2 36 := ⟨by decide +kernel, rfl⟩
theorem d_X4_isName_36 : x_dec m_X4_isName 36 (.iload_n 2) 1 37 := ⟨by decide +kernel, rfl⟩
theorem d_X4_isName_37 : x_dec m_X4_isName 37 (.if_icmp .ge 45) 3 40 := ⟨by decide +kernel, rfl⟩
theorem d_X4_isName_40 : x_dec m_X4_isName 40 (.iload_n 3) 1 41 := ⟨by decide +kernel, rfl⟩
theorem d_X4_isName_41 : x_dec m_X4_isName 41 (.ifCond .eq 41) 3 44 := ⟨by decide +kernel, rfl⟩
theorem d_X4_isName_44 : x_dec m_X4_isName 44 (.getstatic 187) 3 47 := ⟨by decide +kernel, rfl⟩
theorem d_X4_isName_47 : x_dec m_X4_isName 47 (.bipush 8) 2 49 := ⟨by decide +kernel, rfl⟩
theorem d_X4_isName_49 : x_dec m_X4_isName 49 (.iload_n 1) 1 50 := ⟨by decide +kernel, rfl⟩
theorem d_X4_isName_50 : x_dec m_X4_isName 50 (.imul) 1 51 := ⟨by decide +kernel, rfl⟩
theorem d_X4_isName_51 : x_dec m_X4_isName 51 (.iload 4) 2 53 := ⟨by decide +kernel, rfl⟩
theorem d_X4_isName_53 : x_dec m_X4_isName 53 (.iadd) 1 54 := ⟨by decide +kernel, rfl⟩
theorem d_X4_isName_54 : x_dec m_X4_isName 54 (.iaload) 1 55 := ⟨by decide +kernel, rfl⟩
theorem d_X4_isName_55 : x_dec m_X4_isName 55 (.aload_n 0) 1 56 := ⟨by decide +kernel, rfl⟩
theorem d_X4_isName_56 : x_dec m_X4_isName 56 (.getfield 37) 3 59 := ⟨by decide +kernel, rfl⟩
theorem d_X4_isName_59 : x_dec m_X4_isName 59 (.aload_n 0) 1 60 := ⟨by decide +kernel, rfl⟩
theorem d_X4_isName_60 : x_dec m_X4_isName 60 (.getfield 190) 3 63 := ⟨by decide +kernel, rfl⟩
theorem d_X4_isName_63 : x_dec m_X4_isName 63 (.iload 4) 2 65 := ⟨by decide +kernel, rfl⟩
theorem d_X4_isName_65 : x_dec m_X4_isName 65 (.iadd) 1 66 := ⟨by decide +kernel, rfl⟩
theorem d_X4_isName_66 : x_dec m_X4_isName 66 (.iaload) 1 67 := ⟨by decide +kernel, rfl⟩
theorem d_X4_isName_67 : x_dec m_X4_isName 67 (.if_icmp .ne 7) 3 70 := ⟨by decide +kernel, rfl⟩
theorem d_X4_isName_70 : x_dec m_X4_isName 70 (.iconst 1) 1 71 := ⟨by decide +kernel, rfl⟩
theorem d_X4_isName_71 : x_dec m_X4_isName 71 (.goto 4) 3 74 := ⟨by decide +kernel, rfl⟩
theorem d_X4_isName_74 : x_dec m_X4_isName 74 (.iconst 0) 1 75 := ⟨by decide +kernel, rfl⟩
theorem d_X4_isName_75 : x_dec m_X4_isName 75 (.istore_n 3) 1 76 := ⟨by decide +kernel, rfl⟩
theorem d_X4_isName_76 : x_dec m_X4_isName 76 (.iinc 4 1) 3 79 := ⟨by decide +kernel, rfl⟩
theorem d_X4_isName_79 : x_dec m_X4_isName 79 (.goto (-45)) 3 82 := ⟨by decide +kernel, rfl⟩
theorem d_X4_isName_82 : x_dec m_X4_isName 82 (.iload_n 3) 1 83 := ⟨by decide +kernel, rfl⟩
theorem d_X4_isName_83 : x_dec m_X4_isName 83 (.ireturn) 1 84 := ⟨by decide +kernel, rfl⟩
set_option maxHeartbeats 4000000 in
set_option maxRecDepth 100000 in
theorem c_X4_isName (l : Launch) (E : x_E) (μ : x_Mem) {S : Nat → Int32} {n : Nat} (hn : n ≤ 120) (hW : RW S n μ) {b z e w : Nat} (hez : e = b + z) (h13 : μ 41 13 = nI b) (hbz : b + z ≤ n) (hw : w < 15) (hl : ∀ k, k < z → isLe (S (b + k)) = true) : x_Met l m_X4_isName E [.ref (E.1 + 41), .int (nI w), .int (nI z)] μ (x_I (fun z m => z = x_b (nmB S b e w) ∧ m = μ)) := by
  refine x_enter (lv := [(0, .ref (E.1 + 41)), (1, .int (nI w)), (2, .int (nI z))]) (by decide +kernel) (Nat.le_of_ble_eq_true rfl) rfl ?_
  refine x_iload_n 2 d_X4_isName_0 rfl rfl ?_
  refine x_bipush (x := 8) d_X4_isName_1 (by decide) ?_
  refine x_icmp_gt 29 d_X4_isName_3 (by decide) (fun c1 => ?_) (fun c1 => ?_)
  · skip
    have hz8 : ¬ z ≤ 8 := by have := (nI_ltI (a := 8) (b := z) (by decide) (by omega)).mp c1; omega
    refine x_iconst (x := 0) d_X4_isName_29 (by decide) ?_
    refine x_istore_n [(3, .int 0), (0, .ref (E.1 + 41)), (1, .int (nI w)), (2, .int (nI z))] d_X4_isName_30 rfl (Nat.le_of_ble_eq_true rfl) rfl ?_
    refine x_iconst (x := 0) d_X4_isName_31 (by decide) ?_
    refine x_istore [(4, .int 0), (3, .int 0), (0, .ref (E.1 + 41)), (1, .int (nI w)), (2, .int (nI z))] d_X4_isName_32 (Nat.le_of_ble_eq_true rfl) rfl ?_
    have L2 : ∀ k : Nat, k ≤ z → ∀ r : Int32, (r = x_b (nmS S b w z k)) → x_G l E m_X4_isName (x_mv E m_X4_isName (x_I (fun z m => z = x_b (nmB S b e w) ∧ m = μ))) μ 34 [(4, .int (nI k)), (3, .int r), (0, .ref (E.1 + 41)), (1, .int (nI w)), (2, .int (nI z))] [] := by
      refine x_down _ z (fun k hi4 ih3 => ?_)
      intro r hr
      refine x_iload 0 d_X4_isName_34 rfl ?_
      refine x_iload_n 4 d_X4_isName_36 rfl rfl ?_
      refine x_icmp_ge 82 d_X4_isName_37 (by decide) (fun c5 => ?_) (fun c5 => ?_)
      · skip
        have hN := x_ge (N := z) c5 rfl rfl (by omega) (by omega)
        refine x_iload_n 1 d_X4_isName_82 rfl rfl ?_
        rw [nm_fin hw hl hr (by omega) (Or.inl hN), ← hez]
        refine x_zret rfl d_X4_isName_83 ?_
        exact ⟨rfl, rfl⟩
      · skip
        have hN := x_lt (N := z) c5 rfl rfl (by omega) (by omega)
        refine x_iload_n 1 d_X4_isName_40 rfl rfl ?_
        refine x_if_eq 82 d_X4_isName_41 (by decide) (fun c6 => ?_) (fun c6 => ?_)
        · skip
          refine x_iload_n 1 d_X4_isName_82 rfl rfl ?_
          rw [nm_fin hw hl hr (by omega) (Or.inr c6), ← hez]
          refine x_zret rfl d_X4_isName_83 ?_
          exact ⟨rfl, rfl⟩
        · skip
          have hz7 := nmS_8 hr c6
          refine x_getsN q1040 d_X4_isName_44 ?_
          refine x_bipush (x := 8) d_X4_isName_47 (by decide) ?_
          refine x_iload_n 3 d_X4_isName_49 rfl rfl ?_
          refine x_imul d_X4_isName_50 ?_
          rw [show (8 : Int32) * (nI w) = nI (8 * w) from nI_mulN 8 w]
          refine x_iload 0 d_X4_isName_51 rfl ?_
          refine x_iadd d_X4_isName_53 ?_
          rw [show (nI (8 * w)) + (nI k) = nI ((8 * w) + k) from nI_add (8 * w) k]
          refine x_ialdT (i := nI ((8 * w) + k)) (vp_in_nI (by omega) (by decide)) d_X4_isName_54 ?_
          rw [nI_clamp (by omega)]
          refine x_aload_n 2 d_X4_isName_55 rfl rfl ?_
          refine x_getr (j := 10) 51 x_c4 rfl (Nat.le_of_ble_eq_true rfl) q678 rfl d_X4_isName_56 ?_
          refine x_aload_n 2 d_X4_isName_59 rfl rfl ?_
          refine x_getiV (j := 13) (z := nI b) x_c4 rfl (Nat.le_of_ble_eq_true rfl) q681 rfl h13 d_X4_isName_60 ?_
          refine x_iload 0 d_X4_isName_63 rfl ?_
          refine x_iadd d_X4_isName_65 ?_
          rw [show (nI b) + (nI k) = nI (b + k) from nI_add b k]
          refine x_ialdN (z := μ 51 (b + k)) 120 (b + k) rfl rfl (by omega) (by decide) rfl d_X4_isName_66 ?_
          refine x_icmp_ne 74 d_X4_isName_67 (by decide) (fun c7 => ?_) (fun c7 => ?_)
          · skip
            refine x_iconst (x := 0) d_X4_isName_74 (by decide) ?_
            refine x_istore_n [(3, .int 0), (4, .int (nI k)), (0, .ref (E.1 + 41)), (1, .int (nI w)), (2, .int (nI z))] d_X4_isName_75 rfl (Nat.le_of_ble_eq_true rfl) rfl ?_
            refine x_iinc [(4, .int (nI (k + 1))), (3, .int 0), (0, .ref (E.1 + 41)), (1, .int (nI w)), (2, .int (nI z))] 1 d_X4_isName_76 rfl (x_inc _) (Nat.le_of_ble_eq_true rfl) rfl ?_
            refine x_goto 34 d_X4_isName_79 (by decide) ?_
            exact ih3 (k + 1) (by omega) (by omega) 0 (nmS_2 (hW.2 (b + k) (by omega)) (by omega) c7)
          · skip
            refine x_iconst (x := 1) d_X4_isName_70 (by decide) ?_
            refine x_goto 75 d_X4_isName_71 (by decide) ?_
            refine x_istore_n [(3, .int 1), (4, .int (nI k)), (0, .ref (E.1 + 41)), (1, .int (nI w)), (2, .int (nI z))] d_X4_isName_75 rfl (Nat.le_of_ble_eq_true rfl) rfl ?_
            refine x_iinc [(4, .int (nI (k + 1))), (3, .int 1), (0, .ref (E.1 + 41)), (1, .int (nI w)), (2, .int (nI z))] 1 d_X4_isName_76 rfl (x_inc _) (Nat.le_of_ble_eq_true rfl) rfl ?_
            refine x_goto 34 d_X4_isName_79 (by decide) ?_
            exact ih3 (k + 1) (by omega) (by omega) 1 (nmS_1 hr c6 (hW.2 (b + k) (by omega)) (by omega) c7)
    exact L2 0 (by omega) 0 (nm_i0 hz8)
  · skip
    have hz8 : z ≤ 8 := Nat.not_lt.mp (fun q => c1 (nI_lt (a := 8) (b := z) q (by omega)))
    refine x_iload_n 2 d_X4_isName_6 rfl rfl ?_
    refine x_bipush (x := 8) d_X4_isName_7 (by decide) ?_
    refine x_icmp_eq 25 d_X4_isName_9 (by decide) (fun c8 => ?_) (fun c8 => ?_)
    · skip
      have hz9 : z = 8 := (nI_eq (a := z) (b := 8) (by omega) (by decide)).mp c8
      refine x_iconst (x := 1) d_X4_isName_25 (by decide) ?_
      refine x_goto 30 d_X4_isName_26 (by decide) ?_
      refine x_istore_n [(3, .int 1), (0, .ref (E.1 + 41)), (1, .int (nI w)), (2, .int (nI z))] d_X4_isName_30 rfl (Nat.le_of_ble_eq_true rfl) rfl ?_
      refine x_iconst (x := 0) d_X4_isName_31 (by decide) ?_
      refine x_istore [(4, .int 0), (3, .int 1), (0, .ref (E.1 + 41)), (1, .int (nI w)), (2, .int (nI z))] d_X4_isName_32 (Nat.le_of_ble_eq_true rfl) rfl ?_
      have L9 : ∀ k : Nat, k ≤ z → ∀ r : Int32, (r = x_b (nmS S b w z k)) → x_G l E m_X4_isName (x_mv E m_X4_isName (x_I (fun z m => z = x_b (nmB S b e w) ∧ m = μ))) μ 34 [(4, .int (nI k)), (3, .int r), (0, .ref (E.1 + 41)), (1, .int (nI w)), (2, .int (nI z))] [] := by
        refine x_down _ z (fun k hi11 ih10 => ?_)
        intro r hr
        refine x_iload 0 d_X4_isName_34 rfl ?_
        refine x_iload_n 4 d_X4_isName_36 rfl rfl ?_
        refine x_icmp_ge 82 d_X4_isName_37 (by decide) (fun c12 => ?_) (fun c12 => ?_)
        · skip
          have hN := x_ge (N := z) c12 rfl rfl (by omega) (by omega)
          refine x_iload_n 1 d_X4_isName_82 rfl rfl ?_
          rw [nm_fin hw hl hr (by omega) (Or.inl hN), ← hez]
          refine x_zret rfl d_X4_isName_83 ?_
          exact ⟨rfl, rfl⟩
        · skip
          have hN := x_lt (N := z) c12 rfl rfl (by omega) (by omega)
          refine x_iload_n 1 d_X4_isName_40 rfl rfl ?_
          refine x_if_eq 82 d_X4_isName_41 (by decide) (fun c13 => ?_) (fun c13 => ?_)
          · skip
            refine x_iload_n 1 d_X4_isName_82 rfl rfl ?_
            rw [nm_fin hw hl hr (by omega) (Or.inr c13), ← hez]
            refine x_zret rfl d_X4_isName_83 ?_
            exact ⟨rfl, rfl⟩
          · skip
            have hz7 := nmS_8 hr c13
            refine x_getsN q1040 d_X4_isName_44 ?_
            refine x_bipush (x := 8) d_X4_isName_47 (by decide) ?_
            refine x_iload_n 3 d_X4_isName_49 rfl rfl ?_
            refine x_imul d_X4_isName_50 ?_
            rw [show (8 : Int32) * (nI w) = nI (8 * w) from nI_mulN 8 w]
            refine x_iload 0 d_X4_isName_51 rfl ?_
            refine x_iadd d_X4_isName_53 ?_
            rw [show (nI (8 * w)) + (nI k) = nI ((8 * w) + k) from nI_add (8 * w) k]
            refine x_ialdT (i := nI ((8 * w) + k)) (vp_in_nI (by omega) (by decide)) d_X4_isName_54 ?_
            rw [nI_clamp (by omega)]
            refine x_aload_n 2 d_X4_isName_55 rfl rfl ?_
            refine x_getr (j := 10) 51 x_c4 rfl (Nat.le_of_ble_eq_true rfl) q678 rfl d_X4_isName_56 ?_
            refine x_aload_n 2 d_X4_isName_59 rfl rfl ?_
            refine x_getiV (j := 13) (z := nI b) x_c4 rfl (Nat.le_of_ble_eq_true rfl) q681 rfl h13 d_X4_isName_60 ?_
            refine x_iload 0 d_X4_isName_63 rfl ?_
            refine x_iadd d_X4_isName_65 ?_
            rw [show (nI b) + (nI k) = nI (b + k) from nI_add b k]
            refine x_ialdN (z := μ 51 (b + k)) 120 (b + k) rfl rfl (by omega) (by decide) rfl d_X4_isName_66 ?_
            refine x_icmp_ne 74 d_X4_isName_67 (by decide) (fun c14 => ?_) (fun c14 => ?_)
            · skip
              refine x_iconst (x := 0) d_X4_isName_74 (by decide) ?_
              refine x_istore_n [(3, .int 0), (4, .int (nI k)), (0, .ref (E.1 + 41)), (1, .int (nI w)), (2, .int (nI z))] d_X4_isName_75 rfl (Nat.le_of_ble_eq_true rfl) rfl ?_
              refine x_iinc [(4, .int (nI (k + 1))), (3, .int 0), (0, .ref (E.1 + 41)), (1, .int (nI w)), (2, .int (nI z))] 1 d_X4_isName_76 rfl (x_inc _) (Nat.le_of_ble_eq_true rfl) rfl ?_
              refine x_goto 34 d_X4_isName_79 (by decide) ?_
              exact ih10 (k + 1) (by omega) (by omega) 0 (nmS_2 (hW.2 (b + k) (by omega)) (by omega) c14)
            · skip
              refine x_iconst (x := 1) d_X4_isName_70 (by decide) ?_
              refine x_goto 75 d_X4_isName_71 (by decide) ?_
              refine x_istore_n [(3, .int 1), (4, .int (nI k)), (0, .ref (E.1 + 41)), (1, .int (nI w)), (2, .int (nI z))] d_X4_isName_75 rfl (Nat.le_of_ble_eq_true rfl) rfl ?_
              refine x_iinc [(4, .int (nI (k + 1))), (3, .int 1), (0, .ref (E.1 + 41)), (1, .int (nI w)), (2, .int (nI z))] 1 d_X4_isName_76 rfl (x_inc _) (Nat.le_of_ble_eq_true rfl) rfl ?_
              refine x_goto 34 d_X4_isName_79 (by decide) ?_
              exact ih10 (k + 1) (by omega) (by omega) 1 (nmS_1 hr c13 (hW.2 (b + k) (by omega)) (by omega) c14)
      exact L9 0 (by omega) 1 (nm_i1 hz9)
    · skip
      have hz9 : ¬ z = 8 := fun q => c8 (by rw [q]; rfl)
      refine x_getsN q1040 d_X4_isName_12 ?_
      refine x_bipush (x := 8) d_X4_isName_15 (by decide) ?_
      refine x_iload_n 1 d_X4_isName_17 rfl rfl ?_
      refine x_imul d_X4_isName_18 ?_
      rw [show (8 : Int32) * (nI w) = nI (8 * w) from nI_mulN 8 w]
      refine x_iload_n 2 d_X4_isName_19 rfl rfl ?_
      refine x_iadd d_X4_isName_20 ?_
      rw [show (nI (8 * w)) + (nI z) = nI ((8 * w) + z) from nI_add (8 * w) z]
      refine x_ialdT (i := nI ((8 * w) + z)) (vp_in_nI (by omega) (by decide)) d_X4_isName_21 ?_
      rw [nI_clamp (by omega)]
      refine x_if_ne 29 d_X4_isName_22 (by decide) (fun c15 => ?_) (fun c15 => ?_)
      · skip
        refine x_iconst (x := 0) d_X4_isName_29 (by decide) ?_
        refine x_istore_n [(3, .int 0), (0, .ref (E.1 + 41)), (1, .int (nI w)), (2, .int (nI z))] d_X4_isName_30 rfl (Nat.le_of_ble_eq_true rfl) rfl ?_
        refine x_iconst (x := 0) d_X4_isName_31 (by decide) ?_
        refine x_istore [(4, .int 0), (3, .int 0), (0, .ref (E.1 + 41)), (1, .int (nI w)), (2, .int (nI z))] d_X4_isName_32 (Nat.le_of_ble_eq_true rfl) rfl ?_
        have L16 : ∀ k : Nat, k ≤ z → ∀ r : Int32, (r = x_b (nmS S b w z k)) → x_G l E m_X4_isName (x_mv E m_X4_isName (x_I (fun z m => z = x_b (nmB S b e w) ∧ m = μ))) μ 34 [(4, .int (nI k)), (3, .int r), (0, .ref (E.1 + 41)), (1, .int (nI w)), (2, .int (nI z))] [] := by
          refine x_down _ z (fun k hi18 ih17 => ?_)
          intro r hr
          refine x_iload 0 d_X4_isName_34 rfl ?_
          refine x_iload_n 4 d_X4_isName_36 rfl rfl ?_
          refine x_icmp_ge 82 d_X4_isName_37 (by decide) (fun c19 => ?_) (fun c19 => ?_)
          · skip
            have hN := x_ge (N := z) c19 rfl rfl (by omega) (by omega)
            refine x_iload_n 1 d_X4_isName_82 rfl rfl ?_
            rw [nm_fin hw hl hr (by omega) (Or.inl hN), ← hez]
            refine x_zret rfl d_X4_isName_83 ?_
            exact ⟨rfl, rfl⟩
          · skip
            have hN := x_lt (N := z) c19 rfl rfl (by omega) (by omega)
            refine x_iload_n 1 d_X4_isName_40 rfl rfl ?_
            refine x_if_eq 82 d_X4_isName_41 (by decide) (fun c20 => ?_) (fun c20 => ?_)
            · skip
              refine x_iload_n 1 d_X4_isName_82 rfl rfl ?_
              rw [nm_fin hw hl hr (by omega) (Or.inr c20), ← hez]
              refine x_zret rfl d_X4_isName_83 ?_
              exact ⟨rfl, rfl⟩
            · skip
              have hz7 := nmS_8 hr c20
              refine x_getsN q1040 d_X4_isName_44 ?_
              refine x_bipush (x := 8) d_X4_isName_47 (by decide) ?_
              refine x_iload_n 3 d_X4_isName_49 rfl rfl ?_
              refine x_imul d_X4_isName_50 ?_
              rw [show (8 : Int32) * (nI w) = nI (8 * w) from nI_mulN 8 w]
              refine x_iload 0 d_X4_isName_51 rfl ?_
              refine x_iadd d_X4_isName_53 ?_
              rw [show (nI (8 * w)) + (nI k) = nI ((8 * w) + k) from nI_add (8 * w) k]
              refine x_ialdT (i := nI ((8 * w) + k)) (vp_in_nI (by omega) (by decide)) d_X4_isName_54 ?_
              rw [nI_clamp (by omega)]
              refine x_aload_n 2 d_X4_isName_55 rfl rfl ?_
              refine x_getr (j := 10) 51 x_c4 rfl (Nat.le_of_ble_eq_true rfl) q678 rfl d_X4_isName_56 ?_
              refine x_aload_n 2 d_X4_isName_59 rfl rfl ?_
              refine x_getiV (j := 13) (z := nI b) x_c4 rfl (Nat.le_of_ble_eq_true rfl) q681 rfl h13 d_X4_isName_60 ?_
              refine x_iload 0 d_X4_isName_63 rfl ?_
              refine x_iadd d_X4_isName_65 ?_
              rw [show (nI b) + (nI k) = nI (b + k) from nI_add b k]
              refine x_ialdN (z := μ 51 (b + k)) 120 (b + k) rfl rfl (by omega) (by decide) rfl d_X4_isName_66 ?_
              refine x_icmp_ne 74 d_X4_isName_67 (by decide) (fun c21 => ?_) (fun c21 => ?_)
              · skip
                refine x_iconst (x := 0) d_X4_isName_74 (by decide) ?_
                refine x_istore_n [(3, .int 0), (4, .int (nI k)), (0, .ref (E.1 + 41)), (1, .int (nI w)), (2, .int (nI z))] d_X4_isName_75 rfl (Nat.le_of_ble_eq_true rfl) rfl ?_
                refine x_iinc [(4, .int (nI (k + 1))), (3, .int 0), (0, .ref (E.1 + 41)), (1, .int (nI w)), (2, .int (nI z))] 1 d_X4_isName_76 rfl (x_inc _) (Nat.le_of_ble_eq_true rfl) rfl ?_
                refine x_goto 34 d_X4_isName_79 (by decide) ?_
                exact ih17 (k + 1) (by omega) (by omega) 0 (nmS_2 (hW.2 (b + k) (by omega)) (by omega) c21)
              · skip
                refine x_iconst (x := 1) d_X4_isName_70 (by decide) ?_
                refine x_goto 75 d_X4_isName_71 (by decide) ?_
                refine x_istore_n [(3, .int 1), (4, .int (nI k)), (0, .ref (E.1 + 41)), (1, .int (nI w)), (2, .int (nI z))] d_X4_isName_75 rfl (Nat.le_of_ble_eq_true rfl) rfl ?_
                refine x_iinc [(4, .int (nI (k + 1))), (3, .int 1), (0, .ref (E.1 + 41)), (1, .int (nI w)), (2, .int (nI z))] 1 d_X4_isName_76 rfl (x_inc _) (Nat.le_of_ble_eq_true rfl) rfl ?_
                refine x_goto 34 d_X4_isName_79 (by decide) ?_
                exact ih17 (k + 1) (by omega) (by omega) 1 (nmS_1 hr c20 (hW.2 (b + k) (by omega)) (by omega) c21)
        exact L16 0 (by omega) 0 (nm_i2 hz9 c15)
      · skip
        refine x_iconst (x := 1) d_X4_isName_25 (by decide) ?_
        refine x_goto 30 d_X4_isName_26 (by decide) ?_
        refine x_istore_n [(3, .int 1), (0, .ref (E.1 + 41)), (1, .int (nI w)), (2, .int (nI z))] d_X4_isName_30 rfl (Nat.le_of_ble_eq_true rfl) rfl ?_
        refine x_iconst (x := 0) d_X4_isName_31 (by decide) ?_
        refine x_istore [(4, .int 0), (3, .int 1), (0, .ref (E.1 + 41)), (1, .int (nI w)), (2, .int (nI z))] d_X4_isName_32 (Nat.le_of_ble_eq_true rfl) rfl ?_
        have L22 : ∀ k : Nat, k ≤ z → ∀ r : Int32, (r = x_b (nmS S b w z k)) → x_G l E m_X4_isName (x_mv E m_X4_isName (x_I (fun z m => z = x_b (nmB S b e w) ∧ m = μ))) μ 34 [(4, .int (nI k)), (3, .int r), (0, .ref (E.1 + 41)), (1, .int (nI w)), (2, .int (nI z))] [] := by
          refine x_down _ z (fun k hi24 ih23 => ?_)
          intro r hr
          refine x_iload 0 d_X4_isName_34 rfl ?_
          refine x_iload_n 4 d_X4_isName_36 rfl rfl ?_
          refine x_icmp_ge 82 d_X4_isName_37 (by decide) (fun c25 => ?_) (fun c25 => ?_)
          · skip
            have hN := x_ge (N := z) c25 rfl rfl (by omega) (by omega)
            refine x_iload_n 1 d_X4_isName_82 rfl rfl ?_
            rw [nm_fin hw hl hr (by omega) (Or.inl hN), ← hez]
            refine x_zret rfl d_X4_isName_83 ?_
            exact ⟨rfl, rfl⟩
          · skip
            have hN := x_lt (N := z) c25 rfl rfl (by omega) (by omega)
            refine x_iload_n 1 d_X4_isName_40 rfl rfl ?_
            refine x_if_eq 82 d_X4_isName_41 (by decide) (fun c26 => ?_) (fun c26 => ?_)
            · skip
              refine x_iload_n 1 d_X4_isName_82 rfl rfl ?_
              rw [nm_fin hw hl hr (by omega) (Or.inr c26), ← hez]
              refine x_zret rfl d_X4_isName_83 ?_
              exact ⟨rfl, rfl⟩
            · skip
              have hz7 := nmS_8 hr c26
              refine x_getsN q1040 d_X4_isName_44 ?_
              refine x_bipush (x := 8) d_X4_isName_47 (by decide) ?_
              refine x_iload_n 3 d_X4_isName_49 rfl rfl ?_
              refine x_imul d_X4_isName_50 ?_
              rw [show (8 : Int32) * (nI w) = nI (8 * w) from nI_mulN 8 w]
              refine x_iload 0 d_X4_isName_51 rfl ?_
              refine x_iadd d_X4_isName_53 ?_
              rw [show (nI (8 * w)) + (nI k) = nI ((8 * w) + k) from nI_add (8 * w) k]
              refine x_ialdT (i := nI ((8 * w) + k)) (vp_in_nI (by omega) (by decide)) d_X4_isName_54 ?_
              rw [nI_clamp (by omega)]
              refine x_aload_n 2 d_X4_isName_55 rfl rfl ?_
              refine x_getr (j := 10) 51 x_c4 rfl (Nat.le_of_ble_eq_true rfl) q678 rfl d_X4_isName_56 ?_
              refine x_aload_n 2 d_X4_isName_59 rfl rfl ?_
              refine x_getiV (j := 13) (z := nI b) x_c4 rfl (Nat.le_of_ble_eq_true rfl) q681 rfl h13 d_X4_isName_60 ?_
              refine x_iload 0 d_X4_isName_63 rfl ?_
              refine x_iadd d_X4_isName_65 ?_
              rw [show (nI b) + (nI k) = nI (b + k) from nI_add b k]
              refine x_ialdN (z := μ 51 (b + k)) 120 (b + k) rfl rfl (by omega) (by decide) rfl d_X4_isName_66 ?_
              refine x_icmp_ne 74 d_X4_isName_67 (by decide) (fun c27 => ?_) (fun c27 => ?_)
              · skip
                refine x_iconst (x := 0) d_X4_isName_74 (by decide) ?_
                refine x_istore_n [(3, .int 0), (4, .int (nI k)), (0, .ref (E.1 + 41)), (1, .int (nI w)), (2, .int (nI z))] d_X4_isName_75 rfl (Nat.le_of_ble_eq_true rfl) rfl ?_
                refine x_iinc [(4, .int (nI (k + 1))), (3, .int 0), (0, .ref (E.1 + 41)), (1, .int (nI w)), (2, .int (nI z))] 1 d_X4_isName_76 rfl (x_inc _) (Nat.le_of_ble_eq_true rfl) rfl ?_
                refine x_goto 34 d_X4_isName_79 (by decide) ?_
                exact ih23 (k + 1) (by omega) (by omega) 0 (nmS_2 (hW.2 (b + k) (by omega)) (by omega) c27)
              · skip
                refine x_iconst (x := 1) d_X4_isName_70 (by decide) ?_
                refine x_goto 75 d_X4_isName_71 (by decide) ?_
                refine x_istore_n [(3, .int 1), (4, .int (nI k)), (0, .ref (E.1 + 41)), (1, .int (nI w)), (2, .int (nI z))] d_X4_isName_75 rfl (Nat.le_of_ble_eq_true rfl) rfl ?_
                refine x_iinc [(4, .int (nI (k + 1))), (3, .int 1), (0, .ref (E.1 + 41)), (1, .int (nI w)), (2, .int (nI z))] 1 d_X4_isName_76 rfl (x_inc _) (Nat.le_of_ble_eq_true rfl) rfl ?_
                refine x_goto 34 d_X4_isName_79 (by decide) ?_
                exact ih23 (k + 1) (by omega) (by omega) 1 (nmS_1 hr c26 (hW.2 (b + k) (by omega)) (by omega) c27)
        exact L22 0 (by omega) 1 (nm_i3 hz8 c15)
def m_X4_wordHere : x_M := (yX4_wordHere, prog_6_method_79_code, 2, (some FieldType.int), 1, 24)
theorem v_X4_wordHere : x_VM m_X4_wordHere 0 := ⟨q1035, q6, by decide +kernel, by decide +kernel, by decide +kernel⟩
theorem w_X4_wordHere : x_VI m_X4_wordHere := ⟨q1034, qs53⟩
theorem d_X4_wordHere_0 : x_dec m_X4_wordHere 0 (.iconst 0) 1 1 := ⟨by decide +kernel, rfl⟩
theorem d_X4_wordHere_1 : x_dec m_X4_wordHere 1 (.istore_n 1) 1 2 := ⟨by decide +kernel, rfl⟩
theorem d_X4_wordHere_2 : x_dec m_X4_wordHere 2 (.iload_n 1) 1 3 := ⟨by decide +kernel, rfl⟩
theorem d_X4_wordHere_3 : x_dec m_X4_wordHere 3 (.bipush 15) 2 5 := ⟨by decide +kernel, rfl⟩
theorem d_X4_wordHere_5 : x_dec m_X4_wordHere 5 (.if_icmp .ge 26) 3 8 := ⟨by decide +kernel, rfl⟩
theorem d_X4_wordHere_8 : x_dec m_X4_wordHere 8 (.aload_n 0) 1 9 := ⟨by decide +kernel, rfl⟩
theorem d_X4_wordHere_9 : x_dec m_X4_wordHere 9 (.iload_n 1) 1 10 := ⟨by decide +kernel, rfl⟩
theorem d_X4_wordHere_10 : x_dec m_X4_wordHere 10 (.aload_n 0) 1 11 := ⟨by decide +kernel, rfl⟩
theorem d_X4_wordHere_11 : x_dec m_X4_wordHere 11 (.getfield 193) 3 14 := ⟨by decide +kernel, rfl⟩
theorem d_X4_wordHere_14 : x_dec m_X4_wordHere 14 (.aload_n 0) 1 15 := ⟨by decide +kernel, rfl⟩
theorem d_X4_wordHere_15 : x_dec m_X4_wordHere 15 (.getfield 190) 3 18 := ⟨by decide +kernel, rfl⟩
theorem d_X4_wordHere_18 : x_dec m_X4_wordHere 18 (.isub) 1 19 := ⟨by decide +kernel, rfl⟩
theorem d_X4_wordHere_19 : x_dec m_X4_wordHere 19 (.invokevirtual 196) 3 22 := ⟨by decide +kernel, rfl⟩
theorem d_X4_wordHere_22 : x_dec m_X4_wordHere 22 (.ifCond .ne 9) 3 25 := ⟨by decide +kernel, rfl⟩
theorem d_X4_wordHere_25 : x_dec m_X4_wordHere 25 (.iinc 1 1) 3 28 := ⟨by decide +kernel, rfl⟩
theorem d_X4_wordHere_28 : x_dec m_X4_wordHere 28 (.goto (-26)) 3 31 := ⟨by decide +kernel, rfl⟩
theorem d_X4_wordHere_31 : x_dec m_X4_wordHere 31 (.iload_n 1) 1 32 := ⟨by decide +kernel, rfl⟩
theorem d_X4_wordHere_32 : x_dec m_X4_wordHere 32 (.bipush 15) 2 34 := ⟨by decide +kernel, rfl⟩
theorem d_X4_wordHere_34 : x_dec m_X4_wordHere 34 (.if_icmp .ge 7) 3 37 := ⟨by decide +kernel, rfl⟩
theorem d_X4_wordHere_37 : x_dec m_X4_wordHere 37 (.iload_n 1) 1 38 := ⟨by decide +kernel, rfl⟩
theorem d_X4_wordHere_38 : x_dec m_X4_wordHere 38 (.goto 5) 3 41 := ⟨by decide +kernel, rfl⟩
theorem d_X4_wordHere_41 : x_dec m_X4_wordHere 41 (.bipush 23) 2 43 := ⟨by decide +kernel, rfl⟩
theorem d_X4_wordHere_43 : x_dec m_X4_wordHere 43 (.ireturn) 1 44 := ⟨by decide +kernel, rfl⟩
set_option maxHeartbeats 4000000 in
set_option maxRecDepth 100000 in
theorem c_X4_wordHere (l : Launch) (E : x_E) (μ : x_Mem) {S : Nat → Int32} {n : Nat} (hn : n ≤ 120) (hW : RW S n μ) {b e : Nat} (h13 : μ 41 13 = nI b) (h14 : μ 41 14 = nI e) (hbe : b ≤ e) (hen : e ≤ n) (hl : ∀ k, k < e - b → isLe (S (b + k)) = true) : x_Met l m_X4_wordHere E [.ref (E.1 + 41)] μ (x_I (fun z m => z = nI (rT (codeOf S b e)) ∧ m = μ)) := by
  refine x_enter (lv := [(0, .ref (E.1 + 41))]) (by decide +kernel) (Nat.le_of_ble_eq_true rfl) rfl ?_
  refine x_iconst (x := 0) d_X4_wordHere_0 (by decide) ?_
  refine x_istore_n [(1, .int 0), (0, .ref (E.1 + 41))] d_X4_wordHere_1 rfl (Nat.le_of_ble_eq_true rfl) rfl ?_
  have L1 : ∀ w : Nat, w ≤ 15 → (∀ j, j < w → nmB S b e j = false) → x_G l E m_X4_wordHere (x_mv E m_X4_wordHere (x_I (fun z m => z = nI (rT (codeOf S b e)) ∧ m = μ))) μ 2 [(1, .int (nI w)), (0, .ref (E.1 + 41))] [] := by
    refine x_down _ 15 (fun w hi3 ih2 => ?_)
    intro hq
    refine x_iload_n 0 d_X4_wordHere_2 rfl rfl ?_
    refine x_bipush (x := 15) d_X4_wordHere_3 (by decide) ?_
    refine x_icmp_ge 31 d_X4_wordHere_5 (by decide) (fun c4 => ?_) (fun c4 => ?_)
    · skip
      have hN := x_ge (N := 15) c4 rfl rfl (by omega) (by omega)
      refine x_iload_n 0 d_X4_wordHere_31 rfl rfl ?_
      refine x_bipush (x := 15) d_X4_wordHere_32 (by decide) ?_
      refine x_icmp_ge 41 d_X4_wordHere_34 (by decide) (fun c5 => ?_) (fun c5 => ?_)
      · skip
        have hN2 := x_ge (N := 15) c5 rfl rfl (by omega) (by omega)
        refine x_bipush (x := 23) d_X4_wordHere_41 (by decide) ?_
        refine x_iret rfl d_X4_wordHere_43 ?_
        have e8 : codeOf S b e = 15 := firstN_none (f := fun w => nmB S b e w) (fun j hj => hq j (by omega))
        exact ⟨by rw [e8]; rfl, rfl⟩
      · skip
        have hN2 := x_lt (N := 15) c5 rfl rfl (by omega) (by omega)
        refine x_iload_n 0 d_X4_wordHere_37 rfl rfl ?_
        refine x_goto 43 d_X4_wordHere_38 (by decide) ?_
        refine x_iret rfl d_X4_wordHere_43 ?_
        exact absurd hN2 (by omega)
    · skip
      have hN := x_lt (N := 15) c4 rfl rfl (by omega) (by omega)
      refine x_aload_n 1 d_X4_wordHere_8 rfl rfl ?_
      refine x_iload_n 0 d_X4_wordHere_9 rfl rfl ?_
      refine x_aload_n 1 d_X4_wordHere_10 rfl rfl ?_
      refine x_getiV (j := 14) (z := nI e) x_c4 rfl (Nat.le_of_ble_eq_true rfl) q682 rfl h14 d_X4_wordHere_11 ?_
      refine x_aload_n 1 d_X4_wordHere_14 rfl rfl ?_
      refine x_getiV (j := 13) (z := nI b) x_c4 rfl (Nat.le_of_ble_eq_true rfl) q681 rfl h13 d_X4_wordHere_15 ?_
      refine x_isub d_X4_wordHere_18 ?_
      rw [show nI e - nI b = nI (e - b) from pk_sub (by omega)]
      refine x_cvip (k := 41) (as := [.int (nI w), .int (nI (e - b))]) (c_X4_isName l E μ hn hW (b := b) (z := e - b) (e := e) (w := w) (by omega) h13 (by omega) (by omega) hl) v_X4_isName w_X4_isName q1036 o_M rfl ⟨Nat.le_of_ble_eq_true rfl, Nat.le_of_ble_eq_true rfl⟩ rfl (Nat.le_of_ble_eq_true rfl) d_X4_wordHere_19 ?_
      refine x_ifb_ne 31 d_X4_wordHere_22 (by decide) (fun c6 => ?_) (fun c6 => ?_)
      · skip
        refine x_iload_n 0 d_X4_wordHere_31 rfl rfl ?_
        refine x_bipush (x := 15) d_X4_wordHere_32 (by decide) ?_
        refine x_icmp_ge 41 d_X4_wordHere_34 (by decide) (fun c7 => ?_) (fun c7 => ?_)
        · skip
          have hN2 := x_ge (N := 15) c7 rfl rfl (by omega) (by omega)
          refine x_bipush (x := 23) d_X4_wordHere_41 (by decide) ?_
          refine x_iret rfl d_X4_wordHere_43 ?_
          exact absurd hN2 (by omega)
        · skip
          have hN2 := x_lt (N := 15) c7 rfl rfl (by omega) (by omega)
          refine x_iload_n 0 d_X4_wordHere_37 rfl rfl ?_
          refine x_goto 43 d_X4_wordHere_38 (by decide) ?_
          refine x_iret rfl d_X4_wordHere_43 ?_
          have e8 : codeOf S b e = w := (code_iff (by omega)).mpr c6
          exact ⟨by rw [e8, code_r (by omega)], rfl⟩
      · skip
        refine x_iinc [(1, .int (nI (w + 1))), (0, .ref (E.1 + 41))] 0 d_X4_wordHere_25 rfl (x_inc _) (Nat.le_of_ble_eq_true rfl) rfl ?_
        refine x_goto 2 d_X4_wordHere_28 (by decide) ?_
        exact ih2 (w + 1) (by omega) (by omega) (lt_s hq c6)
  exact L1 0 (by omega) (fun _ h => absurd h (Nat.not_lt_zero _))
def m_X4_reads : x_M := (yX4_reads, prog_6_method_80_code, 1, none, 2, 45)
theorem v_X4_reads : x_VM m_X4_reads 0 := ⟨q1027, q6, by decide +kernel, by decide +kernel, by decide +kernel⟩
theorem w_X4_reads : x_VI m_X4_reads := ⟨q1026, qs51⟩
theorem d_X4_reads_0 : x_dec m_X4_reads 0 (.aload_n 0) 1 1 := ⟨by decide +kernel, rfl⟩
theorem d_X4_reads_1 : x_dec m_X4_reads 1 (.aload_n 0) 1 2 := ⟨by decide +kernel, rfl⟩
theorem d_X4_reads_2 : x_dec m_X4_reads 2 (.getfield 193) 3 5 := ⟨by decide +kernel, rfl⟩
theorem d_X4_reads_5 : x_dec m_X4_reads 5 (.bipush 32) 2 7 := ⟨by decide +kernel, rfl⟩
theorem d_X4_reads_7 : x_dec m_X4_reads 7 (.bipush 32) 2 9 := ⟨by decide +kernel, rfl⟩
theorem d_X4_reads_9 : x_dec m_X4_reads 9 (.invokevirtual 199) 3 12 := ⟨by decide +kernel, rfl⟩
theorem d_X4_reads_12 : x_dec m_X4_reads 12 (.ifCond .eq 16) 3 15 := ⟨by decide +kernel, rfl⟩
theorem d_X4_reads_15 : x_dec m_X4_reads 15 (.aload_n 0) 1 16 := ⟨by decide +kernel, rfl⟩
theorem d_X4_reads_16 : x_dec m_X4_reads 16 (.dup) 1 17 := ⟨by decide +kernel, rfl⟩
theorem d_X4_reads_17 : x_dec m_X4_reads 17 (.getfield 193) 3 20 := ⟨by decide +kernel, rfl⟩
theorem d_X4_reads_20 : x_dec m_X4_reads 20 (.iconst 1) 1 21 := ⟨by decide +kernel, rfl⟩
theorem d_X4_reads_21 : x_dec m_X4_reads 21 (.iadd) 1 22 := ⟨by decide +kernel, rfl⟩
theorem d_X4_reads_22 : x_dec m_X4_reads 22 (.putfield 193) 3 25 := ⟨by decide +kernel, rfl⟩
theorem d_X4_reads_25 : x_dec m_X4_reads 25 (.goto (-25)) 3 28 := ⟨by decide +kernel, rfl⟩
theorem d_X4_reads_28 : x_dec m_X4_reads 28 (.aload_n 0) 1 29 := ⟨by decide +kernel, rfl⟩
theorem d_X4_reads_29 : x_dec m_X4_reads 29 (.aload_n 0) 1 30 := ⟨by decide +kernel, rfl⟩
theorem d_X4_reads_30 : x_dec m_X4_reads 30 (.getfield 193) 3 33 := ⟨by decide +kernel, rfl⟩
theorem d_X4_reads_33 : x_dec m_X4_reads 33 (.putfield 190) 3 36 := ⟨by decide +kernel, rfl⟩
theorem d_X4_reads_36 : x_dec m_X4_reads 36 (.aload_n 0) 1 37 := ⟨by decide +kernel, rfl⟩
theorem d_X4_reads_37 : x_dec m_X4_reads 37 (.iconst 0) 1 38 := ⟨by decide +kernel, rfl⟩
theorem d_X4_reads_38 : x_dec m_X4_reads 38 (.putfield 202) 3 41 := ⟨by decide +kernel, rfl⟩
theorem d_X4_reads_41 : x_dec m_X4_reads 41 (.aload_n 0) 1 42 := ⟨by decide +kernel, rfl⟩
theorem d_X4_reads_42 : x_dec m_X4_reads 42 (.getfield 193) 3 45 := ⟨by decide +kernel, rfl⟩
theorem d_X4_reads_45 : x_dec m_X4_reads 45 (.aload_n 0) 1 46 := ⟨by decide +kernel, rfl⟩
theorem d_X4_reads_46 : x_dec m_X4_reads 46 (.getfield 183) 3 49 := ⟨by decide +kernel, rfl⟩
theorem d_X4_reads_49 : x_dec m_X4_reads 49 (.if_icmp .ne 12) 3 52 := ⟨by decide +kernel, rfl⟩
theorem d_X4_reads_52 : x_dec m_X4_reads 52 (.aload_n 0) 1 53 := ⟨by decide +kernel, rfl⟩
theorem d_X4_reads_53 : x_dec m_X4_reads 53 (.bipush 22) 2 55 := ⟨by decide +kernel, rfl⟩
theorem d_X4_reads_55 : x_dec m_X4_reads 55 (.putfield 205) 3 58 := ⟨by decide +kernel, rfl⟩
theorem d_X4_reads_58 : x_dec m_X4_reads 58 (.goto 186) 3 61 := ⟨by decide +kernel, rfl⟩
theorem d_X4_reads_61 : x_dec m_X4_reads 61 (.aload_n 0) 1 62 := ⟨by decide +kernel, rfl⟩
theorem d_X4_reads_62 : x_dec m_X4_reads 62 (.aload_n 0) 1 63 := ⟨by decide +kernel, rfl⟩
theorem d_X4_reads_63 : x_dec m_X4_reads 63 (.getfield 193) 3 66 := ⟨by decide +kernel, rfl⟩
theorem d_X4_reads_66 : x_dec m_X4_reads 66 (.bipush 97) 2 68 := ⟨by decide +kernel, rfl⟩
theorem d_X4_reads_68 : x_dec m_X4_reads 68 (.bipush 122) 2 70 := ⟨by decide +kernel, rfl⟩
theorem d_X4_reads_70 : x_dec m_X4_reads 70 (.invokevirtual 199) 3 73 := ⟨by decide +kernel, rfl⟩
theorem d_X4_reads_73 : x_dec m_X4_reads 73 (.ifCond .eq 42) 3 76 := ⟨by decide +kernel, rfl⟩
theorem d_X4_reads_76 : x_dec m_X4_reads 76 (.aload_n 0) 1 77 := ⟨by decide +kernel, rfl⟩
theorem d_X4_reads_77 : x_dec m_X4_reads 77 (.aload_n 0) 1 78 := ⟨by decide +kernel, rfl⟩
theorem d_X4_reads_78 : x_dec m_X4_reads 78 (.getfield 193) 3 81 := ⟨by decide +kernel, rfl⟩
theorem d_X4_reads_81 : x_dec m_X4_reads 81 (.bipush 97) 2 83 := ⟨by decide +kernel, rfl⟩
theorem d_X4_reads_83 : x_dec m_X4_reads 83 (.bipush 122) 2 85 := ⟨by decide +kernel, rfl⟩
theorem d_X4_reads_85 : x_dec m_X4_reads 85 (.invokevirtual 199) 3 88 := ⟨by decide +kernel, rfl⟩
theorem d_X4_reads_88 : x_dec m_X4_reads 88 (.ifCond .eq 16) 3 91 := ⟨by decide +kernel, rfl⟩
theorem d_X4_reads_91 : x_dec m_X4_reads 91 (.aload_n 0) 1 92 := ⟨by decide +kernel, rfl⟩
theorem d_X4_reads_92 : x_dec m_X4_reads 92 (.dup) 1 93 := ⟨by decide +kernel, rfl⟩
theorem d_X4_reads_93 : x_dec m_X4_reads 93 (.getfield 193) 3 96 := ⟨by decide +kernel, rfl⟩
theorem d_X4_reads_96 : x_dec m_X4_reads 96 (.iconst 1) 1 97 := ⟨by decide +kernel, rfl⟩
theorem d_X4_reads_97 : x_dec m_X4_reads 97 (.iadd) 1 98 := ⟨by decide +kernel, rfl⟩
theorem d_X4_reads_98 : x_dec m_X4_reads 98 (.putfield 193) 3 101 := ⟨by decide +kernel, rfl⟩
theorem d_X4_reads_101 : x_dec m_X4_reads 101 (.goto (-25)) 3 104 := ⟨by decide +kernel, rfl⟩
theorem d_X4_reads_104 : x_dec m_X4_reads 104 (.aload_n 0) 1 105 := ⟨by decide +kernel, rfl⟩
theorem d_X4_reads_105 : x_dec m_X4_reads 105 (.aload_n 0) 1 106 := ⟨by decide +kernel, rfl⟩
theorem d_X4_reads_106 : x_dec m_X4_reads 106 (.invokevirtual 208) 3 109 := ⟨by decide +kernel, rfl⟩
theorem d_X4_reads_109 : x_dec m_X4_reads 109 (.putfield 205) 3 112 := ⟨by decide +kernel, rfl⟩
theorem d_X4_reads_112 : x_dec m_X4_reads 112 (.goto 132) 3 115 := ⟨by decide +kernel, rfl⟩
theorem d_X4_reads_115 : x_dec m_X4_reads 115 (.aload_n 0) 1 116 := ⟨by decide +kernel, rfl⟩
theorem d_X4_reads_116 : x_dec m_X4_reads 116 (.aload_n 0) 1 117 := ⟨by decide +kernel, rfl⟩
theorem d_X4_reads_117 : x_dec m_X4_reads 117 (.getfield 193) 3 120 := ⟨by decide +kernel, rfl⟩
theorem d_X4_reads_120 : x_dec m_X4_reads 120 (.bipush 48) 2 122 := ⟨by decide +kernel, rfl⟩
theorem d_X4_reads_122 : x_dec m_X4_reads 122 (.bipush 57) 2 124 := ⟨by decide +kernel, rfl⟩
theorem d_X4_reads_124 : x_dec m_X4_reads 124 (.invokevirtual 199) 3 127 := ⟨by decide +kernel, rfl⟩
theorem d_X4_reads_127 : x_dec m_X4_reads 127 (.ifCond .eq 81) 3 130 := ⟨by decide +kernel, rfl⟩
theorem d_X4_reads_130 : x_dec m_X4_reads 130 (.aload_n 0) 1 131 := ⟨by decide +kernel, rfl⟩
theorem d_X4_reads_131 : x_dec m_X4_reads 131 (.aload_n 0) 1 132 := ⟨by decide +kernel, rfl⟩
theorem d_X4_reads_132 : x_dec m_X4_reads 132 (.getfield 193) 3 135 := ⟨by decide +kernel, rfl⟩
theorem d_X4_reads_135 : x_dec m_X4_reads 135 (.bipush 48) 2 137 := ⟨by decide +kernel, rfl⟩
theorem d_X4_reads_137 : x_dec m_X4_reads 137 (.bipush 57) 2 139 := ⟨by decide +kernel, rfl⟩
theorem d_X4_reads_139 : x_dec m_X4_reads 139 (.invokevirtual 199) 3 142 := ⟨by decide +kernel, rfl⟩
theorem d_X4_reads_142 : x_dec m_X4_reads 142 (.ifCond .eq 57) 3 145 := ⟨by decide +kernel, rfl⟩
theorem d_X4_reads_145 : x_dec m_X4_reads 145 (.aload_n 0) 1 146 := ⟨by decide +kernel, rfl⟩
theorem d_X4_reads_146 : x_dec m_X4_reads 146 (.aload_n 0) 1 147 := ⟨by decide +kernel, rfl⟩
theorem d_X4_reads_147 : x_dec m_X4_reads 147 (.getfield 202) 3 150 := ⟨by decide +kernel, rfl⟩
theorem d_X4_reads_150 : x_dec m_X4_reads 150 (.sipush 999) 3 153 := ⟨by decide +kernel, rfl⟩
theorem d_X4_reads_153 : x_dec m_X4_reads 153 (.if_icmp .le 10) 3 156 := ⟨by decide +kernel, rfl⟩
theorem d_X4_reads_156 : x_dec m_X4_reads 156 (.aload_n 0) 1 157 := ⟨by decide +kernel, rfl⟩
theorem d_X4_reads_157 : x_dec m_X4_reads 157 (.getfield 202) 3 160 := ⟨by decide +kernel, rfl⟩
theorem d_X4_reads_160 : x_dec m_X4_reads 160 (.goto 23) 3 163 := ⟨by decide +kernel, rfl⟩
theorem d_X4_reads_163 : x_dec m_X4_reads 163 (.bipush 10) 2 165 := ⟨by decide +kernel, rfl⟩
theorem d_X4_reads_165 : x_dec m_X4_reads 165 (.aload_n 0) 1 166 := ⟨by decide +kernel, rfl⟩
theorem d_X4_reads_166 : x_dec m_X4_reads 166 (.getfield 202) 3 169 := ⟨by decide +kernel, rfl⟩
theorem d_X4_reads_169 : x_dec m_X4_reads 169 (.imul) 1 170 := ⟨by decide +kernel, rfl⟩
theorem d_X4_reads_170 : x_dec m_X4_reads 170 (.aload_n 0) 1 171 := ⟨by decide +kernel, rfl⟩
theorem d_X4_reads_171 : x_dec m_X4_reads 171 (.getfield 37) 3 174 := ⟨by decide +kernel, rfl⟩
theorem d_X4_reads_174 : x_dec m_X4_reads 174 (.aload_n 0) 1 175 := ⟨by decide +kernel, rfl⟩
theorem d_X4_reads_175 : x_dec m_X4_reads 175 (.getfield 193) 3 178 := ⟨by decide +kernel, rfl⟩
theorem d_X4_reads_178 : x_dec m_X4_reads 178 (.iaload) 1 179 := ⟨by decide +kernel, rfl⟩
theorem d_X4_reads_179 : x_dec m_X4_reads 179 (.iadd) 1 180 := ⟨by decide +kernel, rfl⟩
theorem d_X4_reads_180 : x_dec m_X4_reads 180 (.bipush 48) 2 182 := ⟨by decide +kernel, rfl⟩
theorem d_X4_reads_182 : x_dec m_X4_reads 182 (.isub) 1 183 := ⟨by decide +kernel, rfl⟩
theorem d_X4_reads_183 : x_dec m_X4_reads 183 (.putfield 202) 3 186 := ⟨by decide +kernel, rfl⟩
theorem d_X4_reads_186 : x_dec m_X4_reads 186 (.aload_n 0) 1 187 := ⟨by decide +kernel, rfl⟩
theorem d_X4_reads_187 : x_dec m_X4_reads 187 (.dup) 1 188 := ⟨by decide +kernel, rfl⟩
theorem d_X4_reads_188 : x_dec m_X4_reads 188 (.getfield 193) 3 191 := ⟨by decide +kernel, rfl⟩
theorem d_X4_reads_191 : x_dec m_X4_reads 191 (.iconst 1) 1 192 := ⟨by decide +kernel, rfl⟩
theorem d_X4_reads_192 : x_dec m_X4_reads 192 (.iadd) 1 193 := ⟨by decide +kernel, rfl⟩
theorem d_X4_reads_193 : x_dec m_X4_reads 193 (.putfield 193) 3 196 := ⟨by decide +kernel, rfl⟩
theorem d_X4_reads_196 : x_dec m_X4_reads 196 (.goto (-66)) 3 199 := ⟨by decide +kernel, rfl⟩
theorem d_X4_reads_199 : x_dec m_X4_reads 199 (.aload_n 0) 1 200 := ⟨by decide +kernel, rfl⟩
theorem d_X4_reads_200 : x_dec m_X4_reads 200 (.bipush 20) 2 202 := ⟨by decide +kernel, rfl⟩
theorem d_X4_reads_202 : x_dec m_X4_reads 202 (.putfield 205) 3 205 := ⟨by decide +kernel, rfl⟩
theorem d_X4_reads_205 : x_dec m_X4_reads 205 (.goto 39) 3 208 := ⟨by decide +kernel, rfl⟩
theorem d_X4_reads_208 : x_dec m_X4_reads 208 (.aload_n 0) 1 209 := ⟨by decide +kernel, rfl⟩
theorem d_X4_reads_209 : x_dec m_X4_reads 209 (.aload_n 0) 1 210 := ⟨by decide +kernel, rfl⟩
theorem d_X4_reads_210 : x_dec m_X4_reads 210 (.aload_n 0) 1 211 := ⟨by decide +kernel, rfl⟩
theorem d_X4_reads_211 : x_dec m_X4_reads 211 (.getfield 193) 3 214 := ⟨by decide +kernel, rfl⟩
theorem d_X4_reads_214 : x_dec m_X4_reads 214 (.bipush 59) 2 216 := ⟨by decide +kernel, rfl⟩
theorem d_X4_reads_216 : x_dec m_X4_reads 216 (.bipush 59) 2 218 := ⟨by decide +kernel, rfl⟩
theorem d_X4_reads_218 : x_dec m_X4_reads 218 (.invokevirtual 199) 3 221 := ⟨by decide +kernel, rfl⟩
theorem d_X4_reads_221 : x_dec m_X4_reads 221 (.ifCond .eq 8) 3 224 := ⟨by decide +kernel, rfl⟩
theorem d_X4_reads_224 : x_dec m_X4_reads 224 (.bipush 21) 2 226 := ⟨by decide +kernel, rfl⟩
theorem d_X4_reads_226 : x_dec m_X4_reads 226 (.goto 5) 3 229 := ⟨by decide +kernel, rfl⟩
theorem d_X4_reads_229 : x_dec m_X4_reads 229 (.bipush 23) 2 231 := ⟨by decide +kernel, rfl⟩
theorem d_X4_reads_231 : x_dec m_X4_reads 231 (.putfield 205) 3 234 := ⟨by decide +kernel, rfl⟩
theorem d_X4_reads_234 : x_dec m_X4_reads 234 (.aload_n 0) 1 235 := ⟨by decide +kernel, rfl⟩
theorem d_X4_reads_235 : x_dec m_X4_reads 235 (.dup) 1 236 := ⟨by decide +kernel, rfl⟩
theorem d_X4_reads_236 : x_dec m_X4_reads 236 (.getfield 193) 3 239 := ⟨by decide +kernel, rfl⟩
theorem d_X4_reads_239 : x_dec m_X4_reads 239 (.iconst 1) 1 240 := ⟨by decide +kernel, rfl⟩
theorem d_X4_reads_240 : x_dec m_X4_reads 240 (.iadd) 1 241 := ⟨by decide +kernel, rfl⟩
theorem d_X4_reads_241 : x_dec m_X4_reads 241 (.putfield 193) 3 244 := ⟨by decide +kernel, rfl⟩
theorem d_X4_reads_244 : x_dec m_X4_reads 244 (.return_) 1 245 := ⟨by decide +kernel, rfl⟩
set_option maxHeartbeats 4000000 in
set_option maxRecDepth 100000 in
theorem c_X4_reads (l : Launch) (E : x_E) (μ : x_Mem) {S : Nat → Int32} {n : Nat} (hn : n ≤ 120) (hW : RW S n μ) {p : Nat} (hp : p ≤ n) (h14 : μ 41 14 = nI p) : x_Met l m_X4_reads E [.ref (E.1 + 41)] μ (x_J (fun m => RK (tokAt S n p) m ∧ (∀ j, (j < 12 ∨ j = 16) → m 41 j = μ 41 j) ∧ ∀ id, id ≠ 41 → m id = μ id)) := by
  have hF : ∀ id, id ≠ 41 → μ id = μ id := fun _ _ => rfl
  have hM : ∀ j, (j < 12 ∨ j = 16) → μ 41 j = μ 41 j := fun _ _ => rfl
  refine x_enter (lv := [(0, .ref (E.1 + 41))]) (by decide +kernel) (Nat.le_of_ble_eq_true rfl) rfl ?_
  have L1 : ∀ q : Nat, q ≤ n → ∀ μ4 : x_Mem, (RW S n μ4) → (∀ j, (j < 12 ∨ j = 16) → μ4 41 j = μ 41 j) → (∀ id, id ≠ 41 → μ4 id = μ id) → (μ4 41 14 = nI q) → (p ≤ q) → (∀ j, p ≤ j → j < q → (!decide (S j = 32)) = false) → x_G l E m_X4_reads (x_mv E m_X4_reads (x_J (fun m => RK (tokAt S n p) m ∧ (∀ j, (j < 12 ∨ j = 16) → m 41 j = μ 41 j) ∧ ∀ id, id ≠ 41 → m id = μ id))) μ4 0 [(0, .ref (E.1 + 41))] [] := by
    refine x_down _ n (fun q hi3 ih2 => ?_)
    intro μ4 hW1 hM1 hF1 h14l hpq hq
    refine x_aload_n 0 d_X4_reads_0 rfl rfl ?_
    refine x_aload_n 0 d_X4_reads_1 rfl rfl ?_
    refine x_getiV (j := 14) (z := nI q) x_c4 rfl (Nat.le_of_ble_eq_true rfl) q682 rfl h14l d_X4_reads_2 ?_
    refine x_bipush (x := 32) d_X4_reads_5 (by decide) ?_
    refine x_bipush (x := 32) d_X4_reads_7 (by decide) ?_
    refine x_cvip (k := 41) (as := [.int (nI q), .int 32, .int 32]) (c_X4_isByte l E μ4 hn hW1 (k := q) (lo := 32) (hi := 32) (by omega) (by decide) (by decide)) v_X4_isByte w_X4_isByte q1028 o_M rfl ⟨Nat.le_of_ble_eq_true rfl, Nat.le_of_ble_eq_true rfl⟩ rfl (Nat.le_of_ble_eq_true rfl) d_X4_reads_9 ?_
    refine x_ifb_eq 28 d_X4_reads_12 (by decide) (fun c5 => ?_) (fun c5 => ?_)
    · skip
      refine x_aload_n 0 d_X4_reads_28 rfl rfl ?_
      refine x_aload_n 0 d_X4_reads_29 rfl rfl ?_
      refine x_getiV (j := 14) (z := nI q) x_c4 rfl (Nat.le_of_ble_eq_true rfl) q682 rfl h14l d_X4_reads_30 ?_
      refine x_putiG (j := 13) x_c4 rfl (Nat.le_of_ble_eq_true rfl) q681 rfl rfl rfl d_X4_reads_33 (fun μ6 eμ6 => ?_)
      have hW7 := RW.cw hW1 eμ6 (by decide)
      have hM8 := FMM.cw hM1 eμ6 (by decide)
      have hf1410 : μ6 41 14 = nI q := by rw [eμ6, upd2_at, upd_n _ _ (by decide)]; exact h14l
      have hf13_11 : μ6 41 13 = nI q := by rw [eμ6, upd2_at, upd_s]
      have hF12 : ∀ id, id ≠ 41 → μ6 id = μ id := fun id hid => (show μ6 id = μ4 id from (by rw [eμ6, upd2_ne _ _ _ (by omega)])).trans (hF1 id hid)
      refine x_aload_n 0 d_X4_reads_36 rfl rfl ?_
      refine x_iconst (x := 0) d_X4_reads_37 (by decide) ?_
      refine x_putiG (j := 15) x_c4 rfl (Nat.le_of_ble_eq_true rfl) q683 rfl rfl rfl d_X4_reads_38 (fun μ13 eμ13 => ?_)
      have hW14 := RW.cw hW7 eμ13 (by decide)
      have hM15 := FMM.cw hM8 eμ13 (by decide)
      have hf1417 : μ13 41 14 = nI q := by rw [eμ13, upd2_at, upd_n _ _ (by decide)]; exact hf1410
      have hf1318 : μ13 41 13 = nI q := by rw [eμ13, upd2_at, upd_n _ _ (by decide)]; exact hf13_11
      have hf15_19 : μ13 41 15 = 0 := by rw [eμ13, upd2_at, upd_s]
      have hF20 : ∀ id, id ≠ 41 → μ13 id = μ id := fun id hid => (show μ13 id = μ6 id from (by rw [eμ13, upd2_ne _ _ _ (by omega)])).trans (hF12 id hid)
      refine x_aload_n 0 d_X4_reads_41 rfl rfl ?_
      refine x_getiV (j := 14) (z := nI q) x_c4 rfl (Nat.le_of_ble_eq_true rfl) q682 rfl hf1417 d_X4_reads_42 ?_
      refine x_aload_n 0 d_X4_reads_45 rfl rfl ?_
      refine x_getiV (j := 11) (z := nI n) x_c4 rfl (Nat.le_of_ble_eq_true rfl) q679 rfl (hW14.1) d_X4_reads_46 ?_
      refine x_icmp_ne 61 d_X4_reads_49 (by decide) (fun c21 => ?_) (fun c21 => ?_)
      · skip
        have hNq : q < n := by have z9 : q ≠ n := fun z => c21 (by rw [z]); omega
        refine x_aload_n 0 d_X4_reads_61 rfl rfl ?_
        refine x_aload_n 0 d_X4_reads_62 rfl rfl ?_
        refine x_getiV (j := 14) (z := nI q) x_c4 rfl (Nat.le_of_ble_eq_true rfl) q682 rfl hf1417 d_X4_reads_63 ?_
        refine x_bipush (x := 97) d_X4_reads_66 (by decide) ?_
        refine x_bipush (x := 122) d_X4_reads_68 (by decide) ?_
        refine x_cvip (k := 41) (as := [.int (nI q), .int 97, .int 122]) (c_X4_isByte l E μ13 hn hW14 (k := q) (lo := 97) (hi := 122) (by omega) (by decide) (by decide)) v_X4_isByte w_X4_isByte q1028 o_M rfl ⟨Nat.le_of_ble_eq_true rfl, Nat.le_of_ble_eq_true rfl⟩ rfl (Nat.le_of_ble_eq_true rfl) d_X4_reads_70 ?_
        refine x_ifb_eq 115 d_X4_reads_73 (by decide) (fun c22 => ?_) (fun c22 => ?_)
        · skip
          refine x_aload_n 0 d_X4_reads_115 rfl rfl ?_
          refine x_aload_n 0 d_X4_reads_116 rfl rfl ?_
          refine x_getiV (j := 14) (z := nI q) x_c4 rfl (Nat.le_of_ble_eq_true rfl) q682 rfl hf1417 d_X4_reads_117 ?_
          refine x_bipush (x := 48) d_X4_reads_120 (by decide) ?_
          refine x_bipush (x := 57) d_X4_reads_122 (by decide) ?_
          refine x_cvip (k := 41) (as := [.int (nI q), .int 48, .int 57]) (c_X4_isByte l E μ13 hn hW14 (k := q) (lo := 48) (hi := 57) (by omega) (by decide) (by decide)) v_X4_isByte w_X4_isByte q1028 o_M rfl ⟨Nat.le_of_ble_eq_true rfl, Nat.le_of_ble_eq_true rfl⟩ rfl (Nat.le_of_ble_eq_true rfl) d_X4_reads_124 ?_
          refine x_ifb_eq 208 d_X4_reads_127 (by decide) (fun c23 => ?_) (fun c23 => ?_)
          · skip
            refine x_aload_n 0 d_X4_reads_208 rfl rfl ?_
            refine x_aload_n 0 d_X4_reads_209 rfl rfl ?_
            refine x_aload_n 0 d_X4_reads_210 rfl rfl ?_
            refine x_getiV (j := 14) (z := nI q) x_c4 rfl (Nat.le_of_ble_eq_true rfl) q682 rfl hf1417 d_X4_reads_211 ?_
            refine x_bipush (x := 59) d_X4_reads_214 (by decide) ?_
            refine x_bipush (x := 59) d_X4_reads_216 (by decide) ?_
            refine x_cvip (k := 41) (as := [.int (nI q), .int 59, .int 59]) (c_X4_isByte l E μ13 hn hW14 (k := q) (lo := 59) (hi := 59) (by omega) (by decide) (by decide)) v_X4_isByte w_X4_isByte q1028 o_M rfl ⟨Nat.le_of_ble_eq_true rfl, Nat.le_of_ble_eq_true rfl⟩ rfl (Nat.le_of_ble_eq_true rfl) d_X4_reads_218 ?_
            refine x_ifb_eq 229 d_X4_reads_221 (by decide) (fun c24 => ?_) (fun c24 => ?_)
            · skip
              refine x_bipush (x := 23) d_X4_reads_229 (by decide) ?_
              refine x_putiG (j := 12) x_c4 rfl (Nat.le_of_ble_eq_true rfl) q680 rfl rfl rfl d_X4_reads_231 (fun μ25 eμ25 => ?_)
              have hW26 := RW.cw hW14 eμ25 (by decide)
              have hM27 := FMM.cw hM15 eμ25 (by decide)
              have hf1429 : μ25 41 14 = nI q := by rw [eμ25, upd2_at, upd_n _ _ (by decide)]; exact hf1417
              have hf1330 : μ25 41 13 = nI q := by rw [eμ25, upd2_at, upd_n _ _ (by decide)]; exact hf1318
              have hf1531 : μ25 41 15 = 0 := by rw [eμ25, upd2_at, upd_n _ _ (by decide)]; exact hf15_19
              have hf12_32 : μ25 41 12 = 23 := by rw [eμ25, upd2_at, upd_s]
              have hF33 : ∀ id, id ≠ 41 → μ25 id = μ id := fun id hid => (show μ25 id = μ13 id from (by rw [eμ25, upd2_ne _ _ _ (by omega)])).trans (hF20 id hid)
              refine x_aload_n 0 d_X4_reads_234 rfl rfl ?_
              refine x_dup d_X4_reads_235 rfl ?_
              refine x_getiV (j := 14) (z := nI q) x_c4 rfl (Nat.le_of_ble_eq_true rfl) q682 rfl hf1429 d_X4_reads_236 ?_
              refine x_iconst (x := 1) d_X4_reads_239 (by decide) ?_
              refine x_iadd d_X4_reads_240 ?_
              rw [show (nI q) + (1 : Int32) = nI (q + 1) from nI_add q 1]
              refine x_putiG (j := 14) x_c4 rfl (Nat.le_of_ble_eq_true rfl) q682 rfl rfl rfl d_X4_reads_241 (fun μ34 eμ34 => ?_)
              have hW35 := RW.cw hW26 eμ34 (by decide)
              have hM36 := FMM.cw hM27 eμ34 (by decide)
              have hf1339 : μ34 41 13 = nI q := by rw [eμ34, upd2_at, upd_n _ _ (by decide)]; exact hf1330
              have hf1540 : μ34 41 15 = 0 := by rw [eμ34, upd2_at, upd_n _ _ (by decide)]; exact hf1531
              have hf1241 : μ34 41 12 = 23 := by rw [eμ34, upd2_at, upd_n _ _ (by decide)]; exact hf12_32
              have hf14_42 : μ34 41 14 = nI (q + 1) := by rw [eμ34, upd2_at, upd_s]
              have hF43 : ∀ id, id ≠ 41 → μ34 id = μ id := fun id hid => (show μ34 id = μ25 id from (by rw [eμ34, upd2_ne _ _ _ (by omega)])).trans (hF33 id hid)
              refine x_vret rfl d_X4_reads_244 ?_
              have hsp : spE S n p = q := run_end (f := fun q => !decide (S q = 32)) hpq (by omega) hq (sp_f c5)
              rw [tok_oth hsp hNq (le_f c22 hNq) (di_f c23 hNq)]
              exact ⟨⟨hf1339, hf14_42, (by rw [show tkC (q, q + 1, if S q = 59 then 21 else 23, (0 : Int32)) = 23 from if_neg (fun z => by have h9 := and_q c24 hNq; rw [by59.mpr z] at h9; cases h9)]; exact hf1241), ⟨0, by decide, hf1540, rfl⟩⟩, hM36, hF43⟩
            · skip
              refine x_bipush (x := 21) d_X4_reads_224 (by decide) ?_
              refine x_goto 231 d_X4_reads_226 (by decide) ?_
              refine x_putiG (j := 12) x_c4 rfl (Nat.le_of_ble_eq_true rfl) q680 rfl rfl rfl d_X4_reads_231 (fun μ44 eμ44 => ?_)
              have hW45 := RW.cw hW14 eμ44 (by decide)
              have hM46 := FMM.cw hM15 eμ44 (by decide)
              have hf1448 : μ44 41 14 = nI q := by rw [eμ44, upd2_at, upd_n _ _ (by decide)]; exact hf1417
              have hf1349 : μ44 41 13 = nI q := by rw [eμ44, upd2_at, upd_n _ _ (by decide)]; exact hf1318
              have hf1550 : μ44 41 15 = 0 := by rw [eμ44, upd2_at, upd_n _ _ (by decide)]; exact hf15_19
              have hf12_51 : μ44 41 12 = 21 := by rw [eμ44, upd2_at, upd_s]
              have hF52 : ∀ id, id ≠ 41 → μ44 id = μ id := fun id hid => (show μ44 id = μ13 id from (by rw [eμ44, upd2_ne _ _ _ (by omega)])).trans (hF20 id hid)
              refine x_aload_n 0 d_X4_reads_234 rfl rfl ?_
              refine x_dup d_X4_reads_235 rfl ?_
              refine x_getiV (j := 14) (z := nI q) x_c4 rfl (Nat.le_of_ble_eq_true rfl) q682 rfl hf1448 d_X4_reads_236 ?_
              refine x_iconst (x := 1) d_X4_reads_239 (by decide) ?_
              refine x_iadd d_X4_reads_240 ?_
              rw [show (nI q) + (1 : Int32) = nI (q + 1) from nI_add q 1]
              refine x_putiG (j := 14) x_c4 rfl (Nat.le_of_ble_eq_true rfl) q682 rfl rfl rfl d_X4_reads_241 (fun μ53 eμ53 => ?_)
              have hW54 := RW.cw hW45 eμ53 (by decide)
              have hM55 := FMM.cw hM46 eμ53 (by decide)
              have hf1358 : μ53 41 13 = nI q := by rw [eμ53, upd2_at, upd_n _ _ (by decide)]; exact hf1349
              have hf1559 : μ53 41 15 = 0 := by rw [eμ53, upd2_at, upd_n _ _ (by decide)]; exact hf1550
              have hf1260 : μ53 41 12 = 21 := by rw [eμ53, upd2_at, upd_n _ _ (by decide)]; exact hf12_51
              have hf14_61 : μ53 41 14 = nI (q + 1) := by rw [eμ53, upd2_at, upd_s]
              have hF62 : ∀ id, id ≠ 41 → μ53 id = μ id := fun id hid => (show μ53 id = μ44 id from (by rw [eμ53, upd2_ne _ _ _ (by omega)])).trans (hF52 id hid)
              refine x_vret rfl d_X4_reads_244 ?_
              have hsp : spE S n p = q := run_end (f := fun q => !decide (S q = 32)) hpq (by omega) hq (sp_f c5)
              rw [tok_oth hsp hNq (le_f c22 hNq) (di_f c23 hNq)]
              exact ⟨⟨hf1358, hf14_61, (by rw [show tkC (q, q + 1, if S q = 59 then 21 else 23, (0 : Int32)) = 21 from if_pos (by59.mp (and_p c24).2)]; exact hf1260), ⟨0, by decide, hf1559, rfl⟩⟩, hM55, hF62⟩
          · skip
            have L63 : ∀ r : Nat, r ≤ n → ∀ v : Nat, ∀ μ66 : x_Mem, (RW S n μ66) → (∀ j, (j < 12 ∨ j = 16) → μ66 41 j = μ 41 j) → (∀ id, id ≠ 41 → μ66 id = μ id) → (μ66 41 14 = nI r) → (μ66 41 13 = nI q) → (μ66 41 15 = nI v) → (v ≤ 9999) → (valTo S q (r - q) = nI (min v 1000)) → (q ≤ r) → (∀ j, q ≤ j → j < r → (!isDi (S j)) = false) → x_G l E m_X4_reads (x_mv E m_X4_reads (x_J (fun m => RK (tokAt S n p) m ∧ (∀ j, (j < 12 ∨ j = 16) → m 41 j = μ 41 j) ∧ ∀ id, id ≠ 41 → m id = μ id))) μ66 130 [(0, .ref (E.1 + 41))] [] := by
              refine x_down _ n (fun r hi65 ih64 => ?_)
              intro v μ66 hW1 hM1 hF1 h14l h13l h15l hv9 hva hqr hq3
              refine x_aload_n 0 d_X4_reads_130 rfl rfl ?_
              refine x_aload_n 0 d_X4_reads_131 rfl rfl ?_
              refine x_getiV (j := 14) (z := nI r) x_c4 rfl (Nat.le_of_ble_eq_true rfl) q682 rfl h14l d_X4_reads_132 ?_
              refine x_bipush (x := 48) d_X4_reads_135 (by decide) ?_
              refine x_bipush (x := 57) d_X4_reads_137 (by decide) ?_
              refine x_cvip (k := 41) (as := [.int (nI r), .int 48, .int 57]) (c_X4_isByte l E μ66 hn hW1 (k := r) (lo := 48) (hi := 57) (by omega) (by decide) (by decide)) v_X4_isByte w_X4_isByte q1028 o_M rfl ⟨Nat.le_of_ble_eq_true rfl, Nat.le_of_ble_eq_true rfl⟩ rfl (Nat.le_of_ble_eq_true rfl) d_X4_reads_139 ?_
              refine x_ifb_eq 199 d_X4_reads_142 (by decide) (fun c67 => ?_) (fun c67 => ?_)
              · skip
                refine x_aload_n 0 d_X4_reads_199 rfl rfl ?_
                refine x_bipush (x := 20) d_X4_reads_200 (by decide) ?_
                refine x_putiG (j := 12) x_c4 rfl (Nat.le_of_ble_eq_true rfl) q680 rfl rfl rfl d_X4_reads_202 (fun μ68 eμ68 => ?_)
                have hW69 := RW.cw hW1 eμ68 (by decide)
                have hM70 := FMM.cw hM1 eμ68 (by decide)
                have hf1472 : μ68 41 14 = nI r := by rw [eμ68, upd2_at, upd_n _ _ (by decide)]; exact h14l
                have hf1373 : μ68 41 13 = nI q := by rw [eμ68, upd2_at, upd_n _ _ (by decide)]; exact h13l
                have hf1574 : μ68 41 15 = nI v := by rw [eμ68, upd2_at, upd_n _ _ (by decide)]; exact h15l
                have hf12_75 : μ68 41 12 = 20 := by rw [eμ68, upd2_at, upd_s]
                have hF76 : ∀ id, id ≠ 41 → μ68 id = μ id := fun id hid => (show μ68 id = μ66 id from (by rw [eμ68, upd2_ne _ _ _ (by omega)])).trans (hF1 id hid)
                refine x_goto 244 d_X4_reads_205 (by decide) ?_
                refine x_vret rfl d_X4_reads_244 ?_
                have hsp : spE S n p = q := run_end (f := fun q => !decide (S q = 32)) hpq (by omega) hq (sp_f c5)
                have hle : diE S n q = r := run_end (f := fun q => !isDi (S q)) hqr (by omega) hq3 (di_x c67)
                rw [tok_num hsp hNq (le_f c22 hNq) (di_t c23).2 hle]
                exact ⟨⟨hf1373, hf1472, hf12_75, ⟨v, by omega, hf1574, hva⟩⟩, hM70, hF76⟩
              · skip
                obtain ⟨b1, hb1, eb1, eb2⟩ := hW1.2 r (di_t c67).1
                have hdb := di_b hb1 eb2 (di_t c67).2
                have hNd := (di_t c67).1
                refine x_aload_n 0 d_X4_reads_145 rfl rfl ?_
                refine x_aload_n 0 d_X4_reads_146 rfl rfl ?_
                refine x_getiV (j := 15) (z := nI v) x_c4 rfl (Nat.le_of_ble_eq_true rfl) q683 rfl h15l d_X4_reads_147 ?_
                refine x_sipush (x := 999) d_X4_reads_150 (by decide) ?_
                refine x_icmp_le 163 d_X4_reads_153 (by decide) (fun c77 => ?_) (fun c77 => ?_)
                · skip
                  have hv10 : ¬ 999 < v := Nat.not_lt.mpr ((nI_leI (a := v) (b := 999) (by omega) (by decide)).mp c77)
                  refine x_bipush (x := 10) d_X4_reads_163 (by decide) ?_
                  refine x_aload_n 0 d_X4_reads_165 rfl rfl ?_
                  refine x_getiV (j := 15) (z := nI v) x_c4 rfl (Nat.le_of_ble_eq_true rfl) q683 rfl h15l d_X4_reads_166 ?_
                  refine x_imul d_X4_reads_169 ?_
                  rw [show (10 : Int32) * (nI v) = nI (10 * v) from nI_mulN 10 v]
                  refine x_aload_n 0 d_X4_reads_170 rfl rfl ?_
                  refine x_getr (j := 10) 51 x_c4 rfl (Nat.le_of_ble_eq_true rfl) q678 rfl d_X4_reads_171 ?_
                  refine x_aload_n 0 d_X4_reads_174 rfl rfl ?_
                  refine x_getiV (j := 14) (z := nI r) x_c4 rfl (Nat.le_of_ble_eq_true rfl) q682 rfl h14l d_X4_reads_175 ?_
                  refine x_ialdN (z := nI b1) 120 r rfl rfl (by omega) (by decide) eb1 d_X4_reads_178 ?_
                  refine x_iadd d_X4_reads_179 ?_
                  rw [show (nI (10 * v)) + (nI b1) = nI ((10 * v) + b1) from nI_add (10 * v) b1]
                  refine x_bipush (x := 48) d_X4_reads_180 (by decide) ?_
                  refine x_isub d_X4_reads_182 ?_
                  rw [show nI (10 * v + b1) - 48 = nI (10 * v + b1 - 48) from pk_sub (a := 10 * v + b1) (b := 48) (by omega)]
                  refine x_putiG (j := 15) x_c4 rfl (Nat.le_of_ble_eq_true rfl) q683 rfl rfl rfl d_X4_reads_183 (fun μ78 eμ78 => ?_)
                  have hW79 := RW.cw hW1 eμ78 (by decide)
                  have hM80 := FMM.cw hM1 eμ78 (by decide)
                  have hf1482 : μ78 41 14 = nI r := by rw [eμ78, upd2_at, upd_n _ _ (by decide)]; exact h14l
                  have hf1383 : μ78 41 13 = nI q := by rw [eμ78, upd2_at, upd_n _ _ (by decide)]; exact h13l
                  have hf15_85 : μ78 41 15 = nI (10 * v + b1 - 48) := by rw [eμ78, upd2_at, upd_s]
                  have hF86 : ∀ id, id ≠ 41 → μ78 id = μ id := fun id hid => (show μ78 id = μ66 id from (by rw [eμ78, upd2_ne _ _ _ (by omega)])).trans (hF1 id hid)
                  refine x_aload_n 0 d_X4_reads_186 rfl rfl ?_
                  refine x_dup d_X4_reads_187 rfl ?_
                  refine x_getiV (j := 14) (z := nI r) x_c4 rfl (Nat.le_of_ble_eq_true rfl) q682 rfl hf1482 d_X4_reads_188 ?_
                  refine x_iconst (x := 1) d_X4_reads_191 (by decide) ?_
                  refine x_iadd d_X4_reads_192 ?_
                  rw [show (nI r) + (1 : Int32) = nI (r + 1) from nI_add r 1]
                  refine x_putiG (j := 14) x_c4 rfl (Nat.le_of_ble_eq_true rfl) q682 rfl rfl rfl d_X4_reads_193 (fun μ87 eμ87 => ?_)
                  have hW88 := RW.cw hW79 eμ87 (by decide)
                  have hM89 := FMM.cw hM80 eμ87 (by decide)
                  have hf1392 : μ87 41 13 = nI q := by rw [eμ87, upd2_at, upd_n _ _ (by decide)]; exact hf1383
                  have hf1593 : μ87 41 15 = nI (10 * v + b1 - 48) := by rw [eμ87, upd2_at, upd_n _ _ (by decide)]; exact hf15_85
                  have hf14_94 : μ87 41 14 = nI (r + 1) := by rw [eμ87, upd2_at, upd_s]
                  have hF95 : ∀ id, id ≠ 41 → μ87 id = μ id := fun id hid => (show μ87 id = μ78 id from (by rw [eμ87, upd2_ne _ _ _ (by omega)])).trans (hF86 id hid)
                  refine x_goto 130 d_X4_reads_196 (by decide) ?_
                  exact ih64 (r + 1) (by omega) (by omega) (10 * v + b1 - 48) μ87 hW88 hM89 hF95 hf14_94 hf1392 hf1593 (by omega) (vt_up hqr hva hdb.2 hdb.1 hv10) (by omega) (lt_r hq3 (by rw [(di_t c67).2]; rfl))
                · skip
                  have hv10 : 999 < v := Nat.not_le.mp (fun z => c77 (nI_le (a := v) (b := 999) z (by decide)))
                  refine x_aload_n 0 d_X4_reads_156 rfl rfl ?_
                  refine x_getiV (j := 15) (z := nI v) x_c4 rfl (Nat.le_of_ble_eq_true rfl) q683 rfl h15l d_X4_reads_157 ?_
                  refine x_goto 183 d_X4_reads_160 (by decide) ?_
                  refine x_putiG (j := 15) x_c4 rfl (Nat.le_of_ble_eq_true rfl) q683 rfl rfl rfl d_X4_reads_183 (fun μ96 eμ96 => ?_)
                  have hW97 := RW.cw hW1 eμ96 (by decide)
                  have hM98 := FMM.cw hM1 eμ96 (by decide)
                  have hf14100 : μ96 41 14 = nI r := by rw [eμ96, upd2_at, upd_n _ _ (by decide)]; exact h14l
                  have hf13101 : μ96 41 13 = nI q := by rw [eμ96, upd2_at, upd_n _ _ (by decide)]; exact h13l
                  have hf15_103 : μ96 41 15 = nI v := by rw [eμ96, upd2_at, upd_s]
                  have hF104 : ∀ id, id ≠ 41 → μ96 id = μ id := fun id hid => (show μ96 id = μ66 id from (by rw [eμ96, upd2_ne _ _ _ (by omega)])).trans (hF1 id hid)
                  refine x_aload_n 0 d_X4_reads_186 rfl rfl ?_
                  refine x_dup d_X4_reads_187 rfl ?_
                  refine x_getiV (j := 14) (z := nI r) x_c4 rfl (Nat.le_of_ble_eq_true rfl) q682 rfl hf14100 d_X4_reads_188 ?_
                  refine x_iconst (x := 1) d_X4_reads_191 (by decide) ?_
                  refine x_iadd d_X4_reads_192 ?_
                  rw [show (nI r) + (1 : Int32) = nI (r + 1) from nI_add r 1]
                  refine x_putiG (j := 14) x_c4 rfl (Nat.le_of_ble_eq_true rfl) q682 rfl rfl rfl d_X4_reads_193 (fun μ105 eμ105 => ?_)
                  have hW106 := RW.cw hW97 eμ105 (by decide)
                  have hM107 := FMM.cw hM98 eμ105 (by decide)
                  have hf13110 : μ105 41 13 = nI q := by rw [eμ105, upd2_at, upd_n _ _ (by decide)]; exact hf13101
                  have hf15111 : μ105 41 15 = nI v := by rw [eμ105, upd2_at, upd_n _ _ (by decide)]; exact hf15_103
                  have hf14_112 : μ105 41 14 = nI (r + 1) := by rw [eμ105, upd2_at, upd_s]
                  have hF113 : ∀ id, id ≠ 41 → μ105 id = μ id := fun id hid => (show μ105 id = μ96 id from (by rw [eμ105, upd2_ne _ _ _ (by omega)])).trans (hF104 id hid)
                  refine x_goto 130 d_X4_reads_196 (by decide) ?_
                  exact ih64 (r + 1) (by omega) (by omega) v μ105 hW106 hM107 hF113 hf14_112 hf13110 hf15111 (by omega) (vt_st hqr hva hdb.2 hdb.1 hv10) (by omega) (lt_r hq3 (by rw [(di_t c67).2]; rfl))
            exact L63 q (by omega) 0 μ13 hW14 hM15 hF20 hf1417 hf1318 hf15_19 (by omega) (by rw [Nat.sub_self]; rfl) (Nat.le_refl q) (fun j h1 h2 => absurd h2 (by omega))
        · skip
          have L114 : ∀ r : Nat, r ≤ n → ∀ μ117 : x_Mem, (RW S n μ117) → (∀ j, (j < 12 ∨ j = 16) → μ117 41 j = μ 41 j) → (∀ id, id ≠ 41 → μ117 id = μ id) → (μ117 41 14 = nI r) → (μ117 41 13 = nI q) → (μ117 41 15 = 0) → (q ≤ r) → (∀ j, q ≤ j → j < r → (!isLe (S j)) = false) → x_G l E m_X4_reads (x_mv E m_X4_reads (x_J (fun m => RK (tokAt S n p) m ∧ (∀ j, (j < 12 ∨ j = 16) → m 41 j = μ 41 j) ∧ ∀ id, id ≠ 41 → m id = μ id))) μ117 76 [(0, .ref (E.1 + 41))] [] := by
            refine x_down _ n (fun r hi116 ih115 => ?_)
            intro μ117 hW1 hM1 hF1 h14l h13l h15l hqr hq2
            refine x_aload_n 0 d_X4_reads_76 rfl rfl ?_
            refine x_aload_n 0 d_X4_reads_77 rfl rfl ?_
            refine x_getiV (j := 14) (z := nI r) x_c4 rfl (Nat.le_of_ble_eq_true rfl) q682 rfl h14l d_X4_reads_78 ?_
            refine x_bipush (x := 97) d_X4_reads_81 (by decide) ?_
            refine x_bipush (x := 122) d_X4_reads_83 (by decide) ?_
            refine x_cvip (k := 41) (as := [.int (nI r), .int 97, .int 122]) (c_X4_isByte l E μ117 hn hW1 (k := r) (lo := 97) (hi := 122) (by omega) (by decide) (by decide)) v_X4_isByte w_X4_isByte q1028 o_M rfl ⟨Nat.le_of_ble_eq_true rfl, Nat.le_of_ble_eq_true rfl⟩ rfl (Nat.le_of_ble_eq_true rfl) d_X4_reads_85 ?_
            refine x_ifb_eq 104 d_X4_reads_88 (by decide) (fun c118 => ?_) (fun c118 => ?_)
            · skip
              refine x_aload_n 0 d_X4_reads_104 rfl rfl ?_
              refine x_aload_n 0 d_X4_reads_105 rfl rfl ?_
              refine x_cvip (k := 41) (as := []) (c_X4_wordHere l E μ117 hn hW1 h13l h14l (by omega) (by omega) (le_all hq2)) v_X4_wordHere w_X4_wordHere q1032 o_M rfl ⟨Nat.le_of_ble_eq_true rfl, Nat.le_of_ble_eq_true rfl⟩ rfl (Nat.le_of_ble_eq_true rfl) d_X4_reads_106 ?_
              refine x_putiG (j := 12) x_c4 rfl (Nat.le_of_ble_eq_true rfl) q680 rfl rfl rfl d_X4_reads_109 (fun μ119 eμ119 => ?_)
              have hW120 := RW.cw hW1 eμ119 (by decide)
              have hM121 := FMM.cw hM1 eμ119 (by decide)
              have hf14123 : μ119 41 14 = nI r := by rw [eμ119, upd2_at, upd_n _ _ (by decide)]; exact h14l
              have hf13124 : μ119 41 13 = nI q := by rw [eμ119, upd2_at, upd_n _ _ (by decide)]; exact h13l
              have hf15125 : μ119 41 15 = 0 := by rw [eμ119, upd2_at, upd_n _ _ (by decide)]; exact h15l
              have hf12_126 : μ119 41 12 = nI (rT (codeOf S q r)) := by rw [eμ119, upd2_at, upd_s]
              have hF127 : ∀ id, id ≠ 41 → μ119 id = μ id := fun id hid => (show μ119 id = μ117 id from (by rw [eμ119, upd2_ne _ _ _ (by omega)])).trans (hF1 id hid)
              refine x_goto 244 d_X4_reads_112 (by decide) ?_
              refine x_vret rfl d_X4_reads_244 ?_
              have hsp : spE S n p = q := run_end (f := fun q => !decide (S q = 32)) hpq (by omega) hq (sp_f c5)
              have hle : leE S n q = r := run_end (f := fun q => !isLe (S q)) hqr (by omega) hq2 (le_x c118)
              rw [tok_word hsp hNq (le_t c22).2 hle]
              exact ⟨⟨hf13124, hf14123, hf12_126, ⟨0, by decide, hf15125, rfl⟩⟩, hM121, hF127⟩
            · skip
              have hNl := (le_t c118).1
              refine x_aload_n 0 d_X4_reads_91 rfl rfl ?_
              refine x_dup d_X4_reads_92 rfl ?_
              refine x_getiV (j := 14) (z := nI r) x_c4 rfl (Nat.le_of_ble_eq_true rfl) q682 rfl h14l d_X4_reads_93 ?_
              refine x_iconst (x := 1) d_X4_reads_96 (by decide) ?_
              refine x_iadd d_X4_reads_97 ?_
              rw [show (nI r) + (1 : Int32) = nI (r + 1) from nI_add r 1]
              refine x_putiG (j := 14) x_c4 rfl (Nat.le_of_ble_eq_true rfl) q682 rfl rfl rfl d_X4_reads_98 (fun μ128 eμ128 => ?_)
              have hW129 := RW.cw hW1 eμ128 (by decide)
              have hM130 := FMM.cw hM1 eμ128 (by decide)
              have hf13133 : μ128 41 13 = nI q := by rw [eμ128, upd2_at, upd_n _ _ (by decide)]; exact h13l
              have hf15134 : μ128 41 15 = 0 := by rw [eμ128, upd2_at, upd_n _ _ (by decide)]; exact h15l
              have hf14_135 : μ128 41 14 = nI (r + 1) := by rw [eμ128, upd2_at, upd_s]
              have hF136 : ∀ id, id ≠ 41 → μ128 id = μ id := fun id hid => (show μ128 id = μ117 id from (by rw [eμ128, upd2_ne _ _ _ (by omega)])).trans (hF1 id hid)
              refine x_goto 76 d_X4_reads_101 (by decide) ?_
              exact ih115 (r + 1) (by omega) (by omega) μ128 hW129 hM130 hF136 hf14_135 hf13133 hf15134 (by omega) (lt_r hq2 (by rw [(le_t c118).2]; rfl))
          exact L114 q (by omega) μ13 hW14 hM15 hF20 hf1417 hf1318 hf15_19 (Nat.le_refl q) (fun j h1 h2 => absurd h2 (by omega))
      · skip
        have hNe : n ≤ q := Nat.le_of_eq ((nI_eq (by omega) (by omega)).mp c21).symm
        refine x_aload_n 0 d_X4_reads_52 rfl rfl ?_
        refine x_bipush (x := 22) d_X4_reads_53 (by decide) ?_
        refine x_putiG (j := 12) x_c4 rfl (Nat.le_of_ble_eq_true rfl) q680 rfl rfl rfl d_X4_reads_55 (fun μ137 eμ137 => ?_)
        have hW138 := RW.cw hW14 eμ137 (by decide)
        have hM139 := FMM.cw hM15 eμ137 (by decide)
        have hf14141 : μ137 41 14 = nI q := by rw [eμ137, upd2_at, upd_n _ _ (by decide)]; exact hf1417
        have hf13142 : μ137 41 13 = nI q := by rw [eμ137, upd2_at, upd_n _ _ (by decide)]; exact hf1318
        have hf15143 : μ137 41 15 = 0 := by rw [eμ137, upd2_at, upd_n _ _ (by decide)]; exact hf15_19
        have hf12_144 : μ137 41 12 = 22 := by rw [eμ137, upd2_at, upd_s]
        have hF145 : ∀ id, id ≠ 41 → μ137 id = μ id := fun id hid => (show μ137 id = μ13 id from (by rw [eμ137, upd2_ne _ _ _ (by omega)])).trans (hF20 id hid)
        refine x_goto 244 d_X4_reads_58 (by decide) ?_
        refine x_vret rfl d_X4_reads_244 ?_
        have hsp : spE S n p = q := run_end (f := fun q => !decide (S q = 32)) hpq (by omega) hq (sp_f c5)
        rw [tok_end hsp hNe]
        exact ⟨⟨hf13142, hf14141, hf12_144, ⟨0, by decide, hf15143, rfl⟩⟩, hM139, hF145⟩
    · skip
      have hNs := (sp_t c5).1
      refine x_aload_n 0 d_X4_reads_15 rfl rfl ?_
      refine x_dup d_X4_reads_16 rfl ?_
      refine x_getiV (j := 14) (z := nI q) x_c4 rfl (Nat.le_of_ble_eq_true rfl) q682 rfl h14l d_X4_reads_17 ?_
      refine x_iconst (x := 1) d_X4_reads_20 (by decide) ?_
      refine x_iadd d_X4_reads_21 ?_
      rw [show (nI q) + (1 : Int32) = nI (q + 1) from nI_add q 1]
      refine x_putiG (j := 14) x_c4 rfl (Nat.le_of_ble_eq_true rfl) q682 rfl rfl rfl d_X4_reads_22 (fun μ146 eμ146 => ?_)
      have hW147 := RW.cw hW1 eμ146 (by decide)
      have hM148 := FMM.cw hM1 eμ146 (by decide)
      have hf14_151 : μ146 41 14 = nI (q + 1) := by rw [eμ146, upd2_at, upd_s]
      have hF152 : ∀ id, id ≠ 41 → μ146 id = μ id := fun id hid => (show μ146 id = μ4 id from (by rw [eμ146, upd2_ne _ _ _ (by omega)])).trans (hF1 id hid)
      refine x_goto 0 d_X4_reads_25 (by decide) ?_
      exact ih2 (q + 1) (by omega) (by omega) μ146 hW147 hM148 hF152 hf14_151 (by omega) (lt_r hq (sp_t c5).2)
  exact L1 p (by omega) μ hW hM hF h14 (Nat.le_refl p) (fun j h1 h2 => absurd h2 (by omega))
def m_X4_takes : x_M := (yX4_takes, prog_6_method_81_code, 2, (some FieldType.boolean), 3, 65)
theorem v_X4_takes : x_VM m_X4_takes 1 := ⟨q1057, q6, by decide +kernel, by decide +kernel, by decide +kernel⟩
theorem w_X4_takes : x_VI m_X4_takes := ⟨q1056, qs58⟩
theorem d_X4_takes_0 : x_dec m_X4_takes 0 (.aload_n 0) 1 1 := ⟨by decide +kernel, rfl⟩
theorem d_X4_takes_1 : x_dec m_X4_takes 1 (.getfield 211) 3 4 := ⟨by decide +kernel, rfl⟩
theorem d_X4_takes_4 : x_dec m_X4_takes 4 (.ifCond .ne 11) 3 7 := ⟨by decide +kernel, rfl⟩
theorem d_X4_takes_7 : x_dec m_X4_takes 7 (.aload_n 0) 1 8 := ⟨by decide +kernel, rfl⟩
theorem d_X4_takes_8 : x_dec m_X4_takes 8 (.getfield 205) 3 11 := ⟨by decide +kernel, rfl⟩
theorem d_X4_takes_11 : x_dec m_X4_takes 11 (.iload_n 1) 1 12 := ⟨by decide +kernel, rfl⟩
theorem d_X4_takes_12 : x_dec m_X4_takes 12 (.if_icmp .eq 5) 3 15 := ⟨by decide +kernel, rfl⟩
theorem d_X4_takes_15 : x_dec m_X4_takes 15 (.iconst 0) 1 16 := ⟨by decide +kernel, rfl⟩
theorem d_X4_takes_16 : x_dec m_X4_takes 16 (.ireturn) 1 17 := ⟨by decide +kernel, rfl⟩
theorem d_X4_takes_17 : x_dec m_X4_takes 17 (.aload_n 0) 1 18 := ⟨by decide +kernel, rfl⟩
theorem d_X4_takes_18 : x_dec m_X4_takes 18 (.invokevirtual 215) 3 21 := ⟨by decide +kernel, rfl⟩
theorem d_X4_takes_21 : x_dec m_X4_takes 21 (.iconst 1) 1 22 := ⟨by decide +kernel, rfl⟩
theorem d_X4_takes_22 : x_dec m_X4_takes 22 (.ireturn) 1 23 := ⟨by decide +kernel, rfl⟩
set_option maxHeartbeats 4000000 in
set_option maxRecDepth 100000 in
theorem c_X4_takes (l : Launch) (E : x_E) (μ : x_Mem) {S : Nat → Int32} {n : Nat} (hn : n ≤ 120) (hW : RW S n μ) {t : x_Tk} (hK : RK t μ) (hO : TO S n t) (hc : tkC t < 30) {B : Bool} (hB : μ 41 16 = x_b B) {w : Nat} (hw : w < 15 ∨ w = 20 ∨ w = 21 ∨ w = 22) : x_Met l m_X4_takes E [.ref (E.1 + 41), .int (nI w)] μ (x_I (fun z m => z = x_b (takB B t w) ∧ RK (if takB B t w = true then tokAt S n (tkE t) else t) m ∧ (∀ j, (j < 12 ∨ j = 16) → m 41 j = μ 41 j) ∧ ∀ id, id ≠ 41 → m id = μ id)) := by
  have hF : ∀ id, id ≠ 41 → μ id = μ id := fun _ _ => rfl
  have hM : ∀ j, (j < 12 ∨ j = 16) → μ 41 j = μ 41 j := fun _ _ => rfl
  refine x_enter (lv := [(0, .ref (E.1 + 41)), (1, .int (nI w))]) (by decide +kernel) (Nat.le_of_ble_eq_true rfl) rfl ?_
  refine x_aload_n 0 d_X4_takes_0 rfl rfl ?_
  refine x_getiV (j := 16) (z := (x_b B)) x_c4 rfl (Nat.le_of_ble_eq_true rfl) q684 rfl hB d_X4_takes_1 ?_
  refine x_ifb_ne 15 d_X4_takes_4 (by decide) (fun c1 => ?_) (fun c1 => ?_)
  · skip
    refine x_iconst (x := 0) d_X4_takes_15 (by decide) ?_
    refine x_zret0 rfl d_X4_takes_16 ?_
    have hq : takB B t w = false := by rw [c1]; rfl
    exact ⟨by rw [hq], by rw [if_neg (by rw [hq]; decide)]; exact hK, hM, hF⟩
  · skip
    refine x_aload_n 0 d_X4_takes_7 rfl rfl ?_
    refine x_getiV (j := 12) (z := nI (rT (tkC t))) x_c4 rfl (Nat.le_of_ble_eq_true rfl) q680 rfl (hK.2.2.1) d_X4_takes_8 ?_
    refine x_iload_n 1 d_X4_takes_11 rfl rfl ?_
    refine x_icmp_eq 17 d_X4_takes_12 (by decide) (fun c2 => ?_) (fun c2 => ?_)
    · skip
      refine x_aload_n 0 d_X4_takes_17 rfl rfl ?_
      refine x_cvv (k := 41) (as := []) (c_X4_reads l E μ hn hW (p := tkE t) hO.2.1 hK.2.1) v_X4_reads w_X4_reads q1024 o_M rfl ⟨Nat.le_of_ble_eq_true rfl, Nat.le_of_ble_eq_true rfl⟩ rfl (Nat.le_of_ble_eq_true rfl) d_X4_takes_18 ?_
      rintro μ3 ⟨hK4, hm5, hF6⟩
      have hW7 : RW S n μ3 := RW.of hW (hm5 11 (by omega)) (hF6 51 (by omega))
      have hf169 : μ3 41 16 = x_b B := (hm5 16 (Or.inr rfl)).trans hB
      have hM11 : ∀ j, (j < 12 ∨ j = 16) → μ3 41 j = μ 41 j := fun j hj => (hm5 j hj).trans (hM j hj)
      have hF12 : ∀ id, id ≠ 41 → μ3 id = μ id := fun id hid => (show μ3 id = μ id from (hF6 _ (by omega))).trans (hF id hid)
      refine x_iconst (x := 1) d_X4_takes_21 (by decide) ?_
      refine x_zret1 rfl d_X4_takes_22 ?_
      have hq : takB B t w = true := by rw [c1]; exact tak_t ((rT_eq hw hc).mp c2)
      exact ⟨by rw [hq], by rw [if_pos hq]; exact hK4, hM11, hF12⟩
    · skip
      refine x_iconst (x := 0) d_X4_takes_15 (by decide) ?_
      refine x_zret0 rfl d_X4_takes_16 ?_
      have hq : takB B t w = false := tak_f (fun z => c2 ((rT_eq hw hc).mpr z))
      exact ⟨by rw [hq], by rw [if_neg (by rw [hq]; decide)]; exact hK, hM, hF⟩
def m_X4_number : x_M := (yX4_number, prog_6_method_82_code, 4, (some FieldType.int), 3, 65)
theorem v_X4_number : x_VM m_X4_number 2 := ⟨q1061, q6, by decide +kernel, by decide +kernel, by decide +kernel⟩
theorem w_X4_number : x_VI m_X4_number := ⟨q1060, qs59⟩
theorem d_X4_number_0 : x_dec m_X4_number 0 (.aload_n 0) 1 1 := ⟨by decide +kernel, rfl⟩
theorem d_X4_number_1 : x_dec m_X4_number 1 (.getfield 202) 3 4 := ⟨by decide +kernel, rfl⟩
theorem d_X4_number_4 : x_dec m_X4_number 4 (.istore_n 3) 1 5 := ⟨by decide +kernel, rfl⟩
theorem d_X4_number_5 : x_dec m_X4_number 5 (.aload_n 0) 1 6 := ⟨by decide +kernel, rfl⟩
theorem d_X4_number_6 : x_dec m_X4_number 6 (.aload_n 0) 1 7 := ⟨by decide +kernel, rfl⟩
theorem d_X4_number_7 : x_dec m_X4_number 7 (.getfield 211) 3 10 := ⟨by decide +kernel, rfl⟩
theorem d_X4_number_10 : x_dec m_X4_number 10 (.ifCond .ne 21) 3 13 := ⟨by decide +kernel, rfl⟩
theorem d_X4_number_13 : x_dec m_X4_number 13 (.aload_n 0) 1 14 := ⟨by decide +kernel, rfl⟩
theorem d_X4_number_14 : x_dec m_X4_number 14 (.getfield 205) 3 17 := ⟨by decide +kernel, rfl⟩
theorem d_X4_number_17 : x_dec m_X4_number 17 (.bipush 20) 2 19 := ⟨by decide +kernel, rfl⟩
theorem d_X4_number_19 : x_dec m_X4_number 19 (.if_icmp .ne 12) 3 22 := ⟨by decide +kernel, rfl⟩
theorem d_X4_number_22 : x_dec m_X4_number 22 (.iload_n 3) 1 23 := ⟨by decide +kernel, rfl⟩
theorem d_X4_number_23 : x_dec m_X4_number 23 (.iload_n 1) 1 24 := ⟨by decide +kernel, rfl⟩
theorem d_X4_number_24 : x_dec m_X4_number 24 (.iload_n 2) 1 25 := ⟨by decide +kernel, rfl⟩
theorem d_X4_number_25 : x_dec m_X4_number 25 (.invokestatic 46) 3 28 := ⟨by decide +kernel, rfl⟩
theorem d_X4_number_28 : x_dec m_X4_number 28 (.ifCond .ne 7) 3 31 := ⟨by decide +kernel, rfl⟩
theorem d_X4_number_31 : x_dec m_X4_number 31 (.iconst 1) 1 32 := ⟨by decide +kernel, rfl⟩
theorem d_X4_number_32 : x_dec m_X4_number 32 (.goto 4) 3 35 := ⟨by decide +kernel, rfl⟩
theorem d_X4_number_35 : x_dec m_X4_number 35 (.iconst 0) 1 36 := ⟨by decide +kernel, rfl⟩
theorem d_X4_number_36 : x_dec m_X4_number 36 (.putfield 211) 3 39 := ⟨by decide +kernel, rfl⟩
theorem d_X4_number_39 : x_dec m_X4_number 39 (.aload_n 0) 1 40 := ⟨by decide +kernel, rfl⟩
theorem d_X4_number_40 : x_dec m_X4_number 40 (.getfield 211) 3 43 := ⟨by decide +kernel, rfl⟩
theorem d_X4_number_43 : x_dec m_X4_number 43 (.ifCond .ne 7) 3 46 := ⟨by decide +kernel, rfl⟩
theorem d_X4_number_46 : x_dec m_X4_number 46 (.aload_n 0) 1 47 := ⟨by decide +kernel, rfl⟩
theorem d_X4_number_47 : x_dec m_X4_number 47 (.invokevirtual 215) 3 50 := ⟨by decide +kernel, rfl⟩
theorem d_X4_number_50 : x_dec m_X4_number 50 (.iload_n 3) 1 51 := ⟨by decide +kernel, rfl⟩
theorem d_X4_number_51 : x_dec m_X4_number 51 (.ireturn) 1 52 := ⟨by decide +kernel, rfl⟩
set_option maxHeartbeats 4000000 in
set_option maxRecDepth 100000 in
theorem c_X4_number (l : Launch) (E : x_E) (μ : x_Mem) {S : Nat → Int32} {n : Nat} (hn : n ≤ 120) (hW : RW S n μ) {t : x_Tk} (hK : RK t μ) (hO : TO S n t) (hc : tkC t < 30) {B : Bool} (hB : μ 41 16 = x_b B) {N : Nat} (hN9 : N ≤ 999) : x_Met l m_X4_number E [.ref (E.1 + 41), .int 0, .int (nI N)] μ (x_I (fun z m => (numOk t (nI N) = true → z = tkV t) ∧ m 41 16 = x_b (B || !numOk t (nI N)) ∧ RK (if (B || !numOk t (nI N)) = true then t else tokAt S n (tkE t)) m ∧ (∀ j, j < 12 → m 41 j = μ 41 j) ∧ ∀ id, id ≠ 41 → m id = μ id)) := by
  have hF : ∀ id, id ≠ 41 → μ id = μ id := fun _ _ => rfl
  have hM : ∀ j, j < 12 → μ 41 j = μ 41 j := fun _ _ => rfl
  obtain ⟨v, hv, h15, hvv⟩ := hK.2.2.2
  refine x_enter (lv := [(0, .ref (E.1 + 41)), (1, .int 0), (2, .int (nI N))]) (by decide +kernel) (Nat.le_of_ble_eq_true rfl) rfl ?_
  refine x_aload_n 0 d_X4_number_0 rfl rfl ?_
  refine x_getiV (j := 15) (z := nI v) x_c4 rfl (Nat.le_of_ble_eq_true rfl) q683 rfl h15 d_X4_number_1 ?_
  refine x_istore_n [(3, .int (nI v)), (0, .ref (E.1 + 41)), (1, .int 0), (2, .int (nI N))] d_X4_number_4 rfl (Nat.le_of_ble_eq_true rfl) rfl ?_
  refine x_aload_n 1 d_X4_number_5 rfl rfl ?_
  refine x_aload_n 1 d_X4_number_6 rfl rfl ?_
  refine x_getiV (j := 16) (z := (x_b B)) x_c4 rfl (Nat.le_of_ble_eq_true rfl) q684 rfl hB d_X4_number_7 ?_
  refine x_ifb_ne 31 d_X4_number_10 (by decide) (fun c1 => ?_) (fun c1 => ?_)
  · skip
    refine x_iconst (x := 1) d_X4_number_31 (by decide) ?_
    refine x_goto 36 d_X4_number_32 (by decide) ?_
    refine x_putzG (j := 16) (q := true) x_c4 rfl (Nat.le_of_ble_eq_true rfl) q684 rfl rfl rfl d_X4_number_36 (fun μ2 eμ2 => ?_)
    have hW3 := RW.cw hW eμ2 (by decide)
    have hK4 := RK.cw hK eμ2 (by decide)
    have hM7 := FM2.cw hM eμ2 (by decide)
    have hf16_8 : μ2 41 16 = (x_b true) := by rw [eμ2, upd2_at, upd_s]
    have hF9 : ∀ id, id ≠ 41 → μ2 id = μ id := fun id hid => (show μ2 id = μ id from (by rw [eμ2, upd2_ne _ _ _ (by omega)])).trans (hF id hid)
    refine x_aload_n 1 d_X4_number_39 rfl rfl ?_
    refine x_getiV (j := 16) (z := (x_b true)) x_c4 rfl (Nat.le_of_ble_eq_true rfl) q684 rfl hf16_8 d_X4_number_40 ?_
    refine x_ifb_ne 50 d_X4_number_43 (by decide) (fun c10 => ?_) (fun c10 => ?_)
    · skip
      refine x_iload_n 0 d_X4_number_50 rfl rfl ?_
      refine x_iret rfl d_X4_number_51 ?_
      have hq : (B || !numOk t (nI N)) = true := by rw [c1]; rfl
      exact ⟨num_v hv hvv hN9, by rw [hq]; exact hf16_8, by rw [if_pos hq]; exact hK4, hM7, hF9⟩
    · skip
      exact absurd ((rfl : true = true).symm.trans c10) (by decide)
  · skip
    refine x_aload_n 1 d_X4_number_13 rfl rfl ?_
    refine x_getiV (j := 12) (z := nI (rT (tkC t))) x_c4 rfl (Nat.le_of_ble_eq_true rfl) q680 rfl (hK.2.2.1) d_X4_number_14 ?_
    refine x_bipush (x := 20) d_X4_number_17 (by decide) ?_
    refine x_icmp_ne 31 d_X4_number_19 (by decide) (fun c11 => ?_) (fun c11 => ?_)
    · skip
      refine x_iconst (x := 1) d_X4_number_31 (by decide) ?_
      refine x_goto 36 d_X4_number_32 (by decide) ?_
      refine x_putzG (j := 16) (q := true) x_c4 rfl (Nat.le_of_ble_eq_true rfl) q684 rfl rfl rfl d_X4_number_36 (fun μ12 eμ12 => ?_)
      have hW13 := RW.cw hW eμ12 (by decide)
      have hK14 := RK.cw hK eμ12 (by decide)
      have hM17 := FM2.cw hM eμ12 (by decide)
      have hf16_18 : μ12 41 16 = (x_b true) := by rw [eμ12, upd2_at, upd_s]
      have hF19 : ∀ id, id ≠ 41 → μ12 id = μ id := fun id hid => (show μ12 id = μ id from (by rw [eμ12, upd2_ne _ _ _ (by omega)])).trans (hF id hid)
      refine x_aload_n 1 d_X4_number_39 rfl rfl ?_
      refine x_getiV (j := 16) (z := (x_b true)) x_c4 rfl (Nat.le_of_ble_eq_true rfl) q684 rfl hf16_18 d_X4_number_40 ?_
      refine x_ifb_ne 50 d_X4_number_43 (by decide) (fun c20 => ?_) (fun c20 => ?_)
      · skip
        refine x_iload_n 0 d_X4_number_50 rfl rfl ?_
        refine x_iret rfl d_X4_number_51 ?_
        have hq : (B || !numOk t (nI N)) = true := by rw [num_n20 (fun z => c11 ((rT_eq (w := 20) (by omega) hc).mpr z))]; simp
        exact ⟨num_v hv hvv hN9, by rw [hq]; exact hf16_18, by rw [if_pos hq]; exact hK14, hM17, hF19⟩
      · skip
        exact absurd ((rfl : true = true).symm.trans c20) (by decide)
    · skip
      refine x_iload_n 0 d_X4_number_22 rfl rfl ?_
      refine x_iload_n 2 d_X4_number_23 rfl rfl ?_
      refine x_iload_n 3 d_X4_number_24 rfl rfl ?_
      refine x_csip (as := [.int (nI v), .int 0, .int (nI N)]) (c_X4_in l E μ (nI v) 0 (nI N)) v_X4_in q728 q727 rfl ⟨Nat.le_of_ble_eq_true rfl, Nat.le_of_ble_eq_true rfl⟩ rfl (Nat.le_of_ble_eq_true rfl) d_X4_number_25 ?_
      refine x_ifb_ne 35 d_X4_number_28 (by decide) (fun c21 => ?_) (fun c21 => ?_)
      · skip
        refine x_iconst (x := 0) d_X4_number_35 (by decide) ?_
        refine x_putzG (j := 16) (q := false) x_c4 rfl (Nat.le_of_ble_eq_true rfl) q684 rfl rfl rfl d_X4_number_36 (fun μ22 eμ22 => ?_)
        have hW23 := RW.cw hW eμ22 (by decide)
        have hK24 := RK.cw hK eμ22 (by decide)
        have hM27 := FM2.cw hM eμ22 (by decide)
        have hf16_28 : μ22 41 16 = (x_b false) := by rw [eμ22, upd2_at, upd_s]
        have hF29 : ∀ id, id ≠ 41 → μ22 id = μ id := fun id hid => (show μ22 id = μ id from (by rw [eμ22, upd2_ne _ _ _ (by omega)])).trans (hF id hid)
        refine x_aload_n 1 d_X4_number_39 rfl rfl ?_
        refine x_getiV (j := 16) (z := (x_b false)) x_c4 rfl (Nat.le_of_ble_eq_true rfl) q684 rfl hf16_28 d_X4_number_40 ?_
        refine x_ifb_ne 50 d_X4_number_43 (by decide) (fun c30 => ?_) (fun c30 => ?_)
        · skip
          exact absurd ((rfl : false = false).symm.trans c30) (by decide)
        · skip
          refine x_aload_n 1 d_X4_number_46 rfl rfl ?_
          refine x_cvv (k := 41) (as := []) (c_X4_reads l E μ22 hn hW23 (p := tkE t) hO.2.1 hK24.2.1) v_X4_reads w_X4_reads q1024 o_M rfl ⟨Nat.le_of_ble_eq_true rfl, Nat.le_of_ble_eq_true rfl⟩ rfl (Nat.le_of_ble_eq_true rfl) d_X4_number_47 ?_
          rintro μ31 ⟨hK32, hm33, hF34⟩
          have hW35 : RW S n μ31 := RW.of hW23 (hm33 11 (by omega)) (hF34 51 (by omega))
          have hM38 : ∀ j, j < 12 → μ31 41 j = μ 41 j := fun j hj => (hm33 j (by omega)).trans (hM27 j hj)
          have hf1639 : μ31 41 16 = (x_b false) := (hm33 16 (Or.inr rfl)).trans hf16_28
          have hF40 : ∀ id, id ≠ 41 → μ31 id = μ id := fun id hid => (show μ31 id = μ22 id from (hF34 _ (by omega))).trans (hF29 id hid)
          refine x_iload_n 0 d_X4_number_50 rfl rfl ?_
          refine x_iret rfl d_X4_number_51 ?_
          have hq : (B || !numOk t (nI N)) = false := by rw [c1, ← num_in ((rT_eq (w := 20) (by omega) hc).mp c11) hv hvv hN9, c21]; rfl
          exact ⟨num_v hv hvv hN9, by rw [hq]; exact hf1639, by rw [if_neg (by rw [hq]; decide)]; exact hK32, hM38, hF40⟩
      · skip
        refine x_iconst (x := 1) d_X4_number_31 (by decide) ?_
        refine x_goto 36 d_X4_number_32 (by decide) ?_
        refine x_putzG (j := 16) (q := true) x_c4 rfl (Nat.le_of_ble_eq_true rfl) q684 rfl rfl rfl d_X4_number_36 (fun μ41 eμ41 => ?_)
        have hW42 := RW.cw hW eμ41 (by decide)
        have hK43 := RK.cw hK eμ41 (by decide)
        have hM46 := FM2.cw hM eμ41 (by decide)
        have hf16_47 : μ41 41 16 = (x_b true) := by rw [eμ41, upd2_at, upd_s]
        have hF48 : ∀ id, id ≠ 41 → μ41 id = μ id := fun id hid => (show μ41 id = μ id from (by rw [eμ41, upd2_ne _ _ _ (by omega)])).trans (hF id hid)
        refine x_aload_n 1 d_X4_number_39 rfl rfl ?_
        refine x_getiV (j := 16) (z := (x_b true)) x_c4 rfl (Nat.le_of_ble_eq_true rfl) q684 rfl hf16_47 d_X4_number_40 ?_
        refine x_ifb_ne 50 d_X4_number_43 (by decide) (fun c49 => ?_) (fun c49 => ?_)
        · skip
          refine x_iload_n 0 d_X4_number_50 rfl rfl ?_
          refine x_iret rfl d_X4_number_51 ?_
          have hq : (B || !numOk t (nI N)) = true := by rw [← num_in ((rT_eq (w := 20) (by omega) hc).mp c11) hv hvv hN9, c21]; simp
          exact ⟨num_v hv hvv hN9, by rw [hq]; exact hf16_47, by rw [if_pos hq]; exact hK43, hM46, hF48⟩
        · skip
          exact absurd ((rfl : true = true).symm.trans c49) (by decide)
def m_X4_perhaps : x_M := (yX4_perhaps, prog_6_method_83_code, 5, (some FieldType.int), 4, 88)
theorem v_X4_perhaps : x_VM m_X4_perhaps 4 := ⟨q1053, q6, by decide +kernel, by decide +kernel, by decide +kernel⟩
theorem w_X4_perhaps : x_VI m_X4_perhaps := ⟨q1052, qs57⟩
theorem d_X4_perhaps_0 : x_dec m_X4_perhaps 0 (.aload_n 0) 1 1 := ⟨by decide +kernel, rfl⟩
theorem d_X4_perhaps_1 : x_dec m_X4_perhaps 1 (.iload_n 1) 1 2 := ⟨by decide +kernel, rfl⟩
theorem d_X4_perhaps_2 : x_dec m_X4_perhaps 2 (.invokevirtual 218) 3 5 := ⟨by decide +kernel, rfl⟩
theorem d_X4_perhaps_5 : x_dec m_X4_perhaps 5 (.ifCond .eq 12) 3 8 := ⟨by decide +kernel, rfl⟩
theorem d_X4_perhaps_8 : x_dec m_X4_perhaps 8 (.aload_n 0) 1 9 := ⟨by decide +kernel, rfl⟩
theorem d_X4_perhaps_9 : x_dec m_X4_perhaps 9 (.iload_n 2) 1 10 := ⟨by decide +kernel, rfl⟩
theorem d_X4_perhaps_10 : x_dec m_X4_perhaps 10 (.iload_n 3) 1 11 := ⟨by decide +kernel, rfl⟩
theorem d_X4_perhaps_11 : x_dec m_X4_perhaps 11 (.invokevirtual 221) 3 14 := ⟨by decide +kernel, rfl⟩
theorem d_X4_perhaps_14 : x_dec m_X4_perhaps 14 (.goto 5) 3 17 := ⟨by decide +kernel, rfl⟩
theorem d_X4_perhaps_17 : x_dec m_X4_perhaps 17 (.iload 4) 2 19 := ⟨by decide +kernel, rfl⟩
theorem d_X4_perhaps_19 : x_dec m_X4_perhaps 19 (.ireturn) 1 20 := ⟨by decide +kernel, rfl⟩
set_option maxHeartbeats 4000000 in
set_option maxRecDepth 100000 in
theorem c_X4_perhaps (l : Launch) (E : x_E) (μ : x_Mem) {S : Nat → Int32} {n : Nat} (hn : n ≤ 120) (hW : RW S n μ) {t : x_Tk} (hK : RK t μ) (hO : TO S n t) (hc : tkC t < 30) {B : Bool} (hB : μ 41 16 = x_b B) {w N : Nat} (hw : w < 15 ∨ w = 20 ∨ w = 21 ∨ w = 22) (hN9 : N ≤ 999) (so : Int32) : x_Met l m_X4_perhaps E [.ref (E.1 + 41), .int (nI w), .int 0, .int (nI N), .int so] μ (x_I (fun z m => (takB B t w = true → (numOk (tokAt S n (tkE t)) (nI N) = true → z = tkV (tokAt S n (tkE t))) ∧ m 41 16 = x_b (!numOk (tokAt S n (tkE t)) (nI N)) ∧ RK (if numOk (tokAt S n (tkE t)) (nI N) = true then tokAt S n (tkE (tokAt S n (tkE t))) else (tokAt S n (tkE t))) m) ∧ (takB B t w = false → z = so ∧ m 41 16 = x_b B ∧ RK t m) ∧ (∀ j, j < 12 → m 41 j = μ 41 j) ∧ ∀ id, id ≠ 41 → m id = μ id)) := by
  have hF : ∀ id, id ≠ 41 → μ id = μ id := fun _ _ => rfl
  have hM : ∀ j, j < 12 → μ 41 j = μ 41 j := fun _ _ => rfl
  refine x_enter (lv := [(0, .ref (E.1 + 41)), (1, .int (nI w)), (2, .int 0), (3, .int (nI N)), (4, .int so)]) (by decide +kernel) (Nat.le_of_ble_eq_true rfl) rfl ?_
  refine x_aload_n 0 d_X4_perhaps_0 rfl rfl ?_
  refine x_iload_n 1 d_X4_perhaps_1 rfl rfl ?_
  refine x_cvi (k := 41) (as := [.int (nI w)]) (c_X4_takes l E μ hn hW hK hO hc hB (w := w) hw) v_X4_takes w_X4_takes q1054 o_M rfl ⟨Nat.le_of_ble_eq_true rfl, Nat.le_of_ble_eq_true rfl⟩ rfl (Nat.le_of_ble_eq_true rfl) d_X4_perhaps_2 ?_
  rintro _ μ1 ⟨rfl, hK2, hm3, hF4⟩
  obtain ⟨bb, hT5⟩ : ∃ bb, takB B t w = bb := ⟨_, rfl⟩
  cases bb
  · refine x_eqst (st' := [.int 0]) (by rw [hT5]; rfl) ?_
    rw [hT5, if_neg Bool.false_ne_true] at hK2
    have hW6 : RW S n μ1 := RW.of hW (hm3 11 (by omega)) (hF4 51 (by omega))
    have hf168 : μ1 41 16 = x_b B := (hm3 16 (Or.inr rfl)).trans hB
    have hM10 : ∀ j, j < 12 → μ1 41 j = μ 41 j := fun j hj => (hm3 j (by omega)).trans (hM j hj)
    have hF11 : ∀ id, id ≠ 41 → μ1 id = μ id := fun id hid => (show μ1 id = μ id from (hF4 _ (by omega))).trans (hF id hid)
    refine x_if_eq 17 d_X4_perhaps_5 (by decide) (fun c12 => ?_) (fun c12 => ?_)
    rotate_left
    · exact absurd c12 (by decide)
    refine x_iload 4 d_X4_perhaps_17 rfl ?_
    refine x_iret rfl d_X4_perhaps_19 ?_
    exact ⟨fun z => absurd (hT5.symm.trans z) (by decide), fun _ => ⟨rfl, hf168, hK2⟩, hM10, hF11⟩
  · refine x_eqst (st' := [.int 1]) (by rw [hT5]; rfl) ?_
    rw [hT5, if_pos rfl] at hK2
    have hW13 : RW S n μ1 := RW.of hW (hm3 11 (by omega)) (hF4 51 (by omega))
    have hf1615 : μ1 41 16 = x_b B := (hm3 16 (Or.inr rfl)).trans hB
    have hM17 : ∀ j, j < 12 → μ1 41 j = μ 41 j := fun j hj => (hm3 j (by omega)).trans (hM j hj)
    have hF18 : ∀ id, id ≠ 41 → μ1 id = μ id := fun id hid => (show μ1 id = μ id from (hF4 _ (by omega))).trans (hF id hid)
    refine x_if_eq 17 d_X4_perhaps_5 (by decide) (fun c19 => ?_) (fun c19 => ?_)
    · exact absurd c19 (by decide)
    have hBf : B = false := by cases hBc : B with | false => rfl | true => (rw [hBc] at hT5; cases hT5)
    refine x_aload_n 0 d_X4_perhaps_8 rfl rfl ?_
    refine x_iload_n 2 d_X4_perhaps_9 rfl rfl ?_
    refine x_iload_n 3 d_X4_perhaps_10 rfl rfl ?_
    refine x_cvi (k := 41) (as := [.int 0, .int (nI N)]) (c_X4_number l E μ1 hn hW13 hK2 (tok_TO S (hO.2.1)) (tok_c S n _) hf1615 (N := N) hN9) v_X4_number w_X4_number q1058 o_M rfl ⟨Nat.le_of_ble_eq_true rfl, Nat.le_of_ble_eq_true rfl⟩ rfl (Nat.le_of_ble_eq_true rfl) d_X4_perhaps_11 ?_
    rintro z27 μ20 ⟨hv25, hb26, hK21, hm22, hF23⟩
    rw [show (B || !numOk (tokAt S n (tkE t)) (nI N)) = !numOk (tokAt S n (tkE t)) (nI N) from by rw [hBf]; rfl] at hb26 hK21
    obtain ⟨bb, hT24⟩ : ∃ bb, numOk (tokAt S n (tkE t)) (nI N) = bb := ⟨_, rfl⟩
    cases bb
    · rw [hT24] at hb26 hK21
      rw [if_pos (show (!false) = true from rfl)] at hK21
      have hW28 : RW S n μ20 := RW.of hW13 (hm22 11 (by omega)) (hF23 51 (by omega))
      have hM31 : ∀ j, j < 12 → μ20 41 j = μ 41 j := fun j hj => (hm22 j (by omega)).trans (hM17 j hj)
      have hF33 : ∀ id, id ≠ 41 → μ20 id = μ id := fun id hid => (show μ20 id = μ1 id from (hF23 _ (by omega))).trans (hF18 id hid)
      replace hb26 : μ20 41 16 = x_b true := hb26
      refine x_goto 19 d_X4_perhaps_14 (by decide) ?_
      refine x_iret rfl d_X4_perhaps_19 ?_
      exact ⟨fun _ => ⟨fun z => absurd (hT24.symm.trans z) (by decide), by rw [hT24]; exact hb26, by rw [if_neg (by rw [hT24]; decide)]; exact hK21⟩, fun z => absurd (hT5.symm.trans z) (by decide), hM31, hF33⟩
    · rw [hT24] at hb26 hK21
      rw [if_neg (show ¬ (!true) = true by decide)] at hK21
      rw [hv25 hT24]
      have hW34 : RW S n μ20 := RW.of hW13 (hm22 11 (by omega)) (hF23 51 (by omega))
      have hM37 : ∀ j, j < 12 → μ20 41 j = μ 41 j := fun j hj => (hm22 j (by omega)).trans (hM17 j hj)
      have hF39 : ∀ id, id ≠ 41 → μ20 id = μ id := fun id hid => (show μ20 id = μ1 id from (hF23 _ (by omega))).trans (hF18 id hid)
      replace hb26 : μ20 41 16 = x_b false := hb26
      refine x_goto 19 d_X4_perhaps_14 (by decide) ?_
      refine x_iret rfl d_X4_perhaps_19 ?_
      exact ⟨fun _ => ⟨fun _ => rfl, by rw [hT24]; exact hb26, by rw [if_pos hT24]; exact hK21⟩, fun z => absurd (hT5.symm.trans z) (by decide), hM37, hF39⟩
def m_X4_oneItem : x_M := (yX4_oneItem, prog_6_method_84_code, 4, none, 5, 112)
theorem v_X4_oneItem : x_VM m_X4_oneItem 0 := ⟨q1049, q6, by decide +kernel, by decide +kernel, by decide +kernel⟩
theorem w_X4_oneItem : x_VI m_X4_oneItem := ⟨q1048, qs56⟩
theorem d_X4_oneItem_0 : x_dec m_X4_oneItem 0 (.aload_n 0) 1 1 := ⟨by decide +kernel, rfl⟩
theorem d_X4_oneItem_1 : x_dec m_X4_oneItem 1 (.getfield 205) 3 4 := ⟨by decide +kernel, rfl⟩
theorem d_X4_oneItem_4 : x_dec m_X4_oneItem 4 (.istore_n 1) 1 5 := ⟨by decide +kernel, rfl⟩
theorem d_X4_oneItem_5 : x_dec m_X4_oneItem 5 (.aload_n 0) 1 6 := ⟨by decide +kernel, rfl⟩
theorem d_X4_oneItem_6 : x_dec m_X4_oneItem 6 (.aload_n 0) 1 7 := ⟨by decide +kernel, rfl⟩
theorem d_X4_oneItem_7 : x_dec m_X4_oneItem 7 (.getfield 9) 3 10 := ⟨by decide +kernel, rfl⟩
theorem d_X4_oneItem_10 : x_dec m_X4_oneItem 10 (.bipush 7) 2 12 := ⟨by decide +kernel, rfl⟩
theorem d_X4_oneItem_12 : x_dec m_X4_oneItem 12 (.iaload) 1 13 := ⟨by decide +kernel, rfl⟩
theorem d_X4_oneItem_13 : x_dec m_X4_oneItem 13 (.bipush 8) 2 15 := ⟨by decide +kernel, rfl⟩
theorem d_X4_oneItem_15 : x_dec m_X4_oneItem 15 (.if_icmp .ne 7) 3 18 := ⟨by decide +kernel, rfl⟩
theorem d_X4_oneItem_18 : x_dec m_X4_oneItem 18 (.iconst 1) 1 19 := ⟨by decide +kernel, rfl⟩
theorem d_X4_oneItem_19 : x_dec m_X4_oneItem 19 (.goto 4) 3 22 := ⟨by decide +kernel, rfl⟩
theorem d_X4_oneItem_22 : x_dec m_X4_oneItem 22 (.iconst 0) 1 23 := ⟨by decide +kernel, rfl⟩
theorem d_X4_oneItem_23 : x_dec m_X4_oneItem 23 (.putfield 211) 3 26 := ⟨by decide +kernel, rfl⟩
theorem d_X4_oneItem_26 : x_dec m_X4_oneItem 26 (.aload_n 0) 1 27 := ⟨by decide +kernel, rfl⟩
theorem d_X4_oneItem_27 : x_dec m_X4_oneItem 27 (.getfield 211) 3 30 := ⟨by decide +kernel, rfl⟩
theorem d_X4_oneItem_30 : x_dec m_X4_oneItem 30 (.ifCond .eq 4) 3 33 := ⟨by decide +kernel, rfl⟩
theorem d_X4_oneItem_33 : x_dec m_X4_oneItem 33 (.return_) 1 34 := ⟨by decide +kernel, rfl⟩
theorem d_X4_oneItem_34 : x_dec m_X4_oneItem 34 (.aload_n 0) 1 35 := ⟨by decide +kernel, rfl⟩
theorem d_X4_oneItem_35 : x_dec m_X4_oneItem 35 (.invokevirtual 215) 3 38 := ⟨by decide +kernel, rfl⟩
theorem d_X4_oneItem_38 : x_dec m_X4_oneItem 38 (.aload_n 0) 1 39 := ⟨by decide +kernel, rfl⟩
theorem d_X4_oneItem_39 : x_dec m_X4_oneItem 39 (.bipush 7) 2 41 := ⟨by decide +kernel, rfl⟩
theorem d_X4_oneItem_41 : x_dec m_X4_oneItem 41 (.iconst 0) 1 42 := ⟨by decide +kernel, rfl⟩
theorem d_X4_oneItem_42 : x_dec m_X4_oneItem 42 (.bipush 16) 2 44 := ⟨by decide +kernel, rfl⟩
theorem d_X4_oneItem_44 : x_dec m_X4_oneItem 44 (.iconst (-1)) 1 45 := ⟨by decide +kernel, rfl⟩
theorem d_X4_oneItem_45 : x_dec m_X4_oneItem 45 (.invokevirtual 224) 3 48 := ⟨by decide +kernel, rfl⟩
theorem d_X4_oneItem_48 : x_dec m_X4_oneItem 48 (.istore_n 2) 1 49 := ⟨by decide +kernel, rfl⟩
theorem d_X4_oneItem_49 : x_dec m_X4_oneItem 49 (.aload_n 0) 1 50 := ⟨by decide +kernel, rfl⟩
theorem d_X4_oneItem_50 : x_dec m_X4_oneItem 50 (.bipush 8) 2 52 := ⟨by decide +kernel, rfl⟩
theorem d_X4_oneItem_52 : x_dec m_X4_oneItem 52 (.iconst 0) 1 53 := ⟨by decide +kernel, rfl⟩
theorem d_X4_oneItem_53 : x_dec m_X4_oneItem 53 (.bipush 99) 2 55 := ⟨by decide +kernel, rfl⟩
theorem d_X4_oneItem_55 : x_dec m_X4_oneItem 55 (.bipush 50) 2 57 := ⟨by decide +kernel, rfl⟩
theorem d_X4_oneItem_57 : x_dec m_X4_oneItem 57 (.invokevirtual 224) 3 60 := ⟨by decide +kernel, rfl⟩
theorem d_X4_oneItem_60 : x_dec m_X4_oneItem 60 (.istore_n 3) 1 61 := ⟨by decide +kernel, rfl⟩
theorem d_X4_oneItem_61 : x_dec m_X4_oneItem 61 (.aload_n 0) 1 62 := ⟨by decide +kernel, rfl⟩
theorem d_X4_oneItem_62 : x_dec m_X4_oneItem 62 (.getfield 211) 3 65 := ⟨by decide +kernel, rfl⟩
theorem d_X4_oneItem_65 : x_dec m_X4_oneItem 65 (.ifCond .ne 11) 3 68 := ⟨by decide +kernel, rfl⟩
theorem d_X4_oneItem_68 : x_dec m_X4_oneItem 68 (.aload_n 0) 1 69 := ⟨by decide +kernel, rfl⟩
theorem d_X4_oneItem_69 : x_dec m_X4_oneItem 69 (.iload_n 1) 1 70 := ⟨by decide +kernel, rfl⟩
theorem d_X4_oneItem_70 : x_dec m_X4_oneItem 70 (.iload_n 2) 1 71 := ⟨by decide +kernel, rfl⟩
theorem d_X4_oneItem_71 : x_dec m_X4_oneItem 71 (.iload_n 3) 1 72 := ⟨by decide +kernel, rfl⟩
theorem d_X4_oneItem_72 : x_dec m_X4_oneItem 72 (.invokevirtual 89) 3 75 := ⟨by decide +kernel, rfl⟩
theorem d_X4_oneItem_75 : x_dec m_X4_oneItem 75 (.pop) 1 76 := ⟨by decide +kernel, rfl⟩
theorem d_X4_oneItem_76 : x_dec m_X4_oneItem 76 (.return_) 1 77 := ⟨by decide +kernel, rfl⟩
set_option maxHeartbeats 4000000 in
set_option maxRecDepth 100000 in
theorem c_X4_oneItem (l : Launch) (E : x_E) (μ : x_Mem) {S : Nat → Int32} {n : Nat} (hn : n ≤ 120) (hW : RW S n μ) {t : x_Tk} (hK : RK t μ) (hO : TO S n t) (hc : tkC t < 30) (hB : μ 41 16 = x_b false) {a : x_St} (hR : MR a μ) (hI : WF a) (h6 : tkC t ≤ 6) : x_Met l m_X4_oneItem E [.ref (E.1 + 41)] μ (x_J (fun m => IT (newF S n a (tkC t) t) m ∧ (∀ j, j < 12 → m 41 j = μ 41 j) ∧ ∀ id, (id ≠ 41 ∧ id ≠ 42) → m id = μ id)) := by
  have hn7 := hI.2.1
  have hpn := hI.1
  have hF : ∀ id, (id ≠ 41 ∧ id ≠ 42) → μ id = μ id := fun _ _ => rfl
  have hM : ∀ j, j < 12 → μ 41 j = μ 41 j := fun _ _ => rfl
  refine x_enter (lv := [(0, .ref (E.1 + 41))]) (by decide +kernel) (Nat.le_of_ble_eq_true rfl) rfl ?_
  refine x_aload_n 0 d_X4_oneItem_0 rfl rfl ?_
  refine x_getiV (j := 12) (z := nI (rT (tkC t))) x_c4 rfl (Nat.le_of_ble_eq_true rfl) q680 rfl (hK.2.2.1) d_X4_oneItem_1 ?_
  rw [code_r (show tkC t < 15 by omega)]
  refine x_istore_n [(1, .int (nI (tkC t))), (0, .ref (E.1 + 41))] d_X4_oneItem_4 rfl (Nat.le_of_ble_eq_true rfl) rfl ?_
  refine x_aload_n 1 d_X4_oneItem_5 rfl rfl ?_
  refine x_aload_n 1 d_X4_oneItem_6 rfl rfl ?_
  refine x_getr (j := 0) 42 x_c4 rfl (Nat.le_of_ble_eq_true rfl) q668 rfl d_X4_oneItem_7 ?_
  refine x_bipush (x := 7) d_X4_oneItem_10 (by decide) ?_
  refine x_ialdN (z := nI (pn a)) 58 7 rfl rfl (by omega) (by decide) ((hR 7 (by decide)).trans hn7) d_X4_oneItem_12 ?_
  refine x_bipush (x := 8) d_X4_oneItem_13 (by decide) ?_
  refine x_icmp_ne 22 d_X4_oneItem_15 (by decide) (fun c1 => ?_) (fun c1 => ?_)
  · skip
    have hlt : pn a < 8 := by have z9 : pn a ≠ 8 := fun z => c1 (by rw [z]; rfl); omega
    refine x_iconst (x := 0) d_X4_oneItem_22 (by decide) ?_
    refine x_putzG (j := 16) (q := false) x_c4 rfl (Nat.le_of_ble_eq_true rfl) q684 rfl rfl rfl d_X4_oneItem_23 (fun μ2 eμ2 => ?_)
    have hW4 := RW.cw hW eμ2 (by decide)
    have hK5 := RK.cw hK eμ2 (by decide)
    have hM8 := FM2.cw hM eμ2 (by decide)
    have hf16_9 : μ2 41 16 = (x_b false) := by rw [eμ2, upd2_at, upd_s]
    have hR10 := MR.cg hR (μ' := μ2) (fun id hid => (by rw [eμ2, upd2_ne _ _ _ (by omega)]))
    have hF11 : ∀ id, (id ≠ 41 ∧ id ≠ 42) → μ2 id = μ id := fun id hid => (show μ2 id = μ id from (by rw [eμ2, upd2_ne _ _ _ (by omega)])).trans (hF id hid)
    refine x_aload_n 1 d_X4_oneItem_26 rfl rfl ?_
    refine x_getiV (j := 16) (z := (x_b false)) x_c4 rfl (Nat.le_of_ble_eq_true rfl) q684 rfl hf16_9 d_X4_oneItem_27 ?_
    refine x_ifb_eq 34 d_X4_oneItem_30 (by decide) (fun c12 => ?_) (fun c12 => ?_)
    · skip
      refine x_aload_n 1 d_X4_oneItem_34 rfl rfl ?_
      refine x_cvv (k := 41) (as := []) (c_X4_reads l E μ2 hn hW4 (p := tkE t) hO.2.1 hK5.2.1) v_X4_reads w_X4_reads q1024 o_M rfl ⟨Nat.le_of_ble_eq_true rfl, Nat.le_of_ble_eq_true rfl⟩ rfl (Nat.le_of_ble_eq_true rfl) d_X4_oneItem_35 ?_
      rintro μ13 ⟨hK14, hm15, hF16⟩
      have hW17 : RW S n μ13 := RW.of hW4 (hm15 11 (by omega)) (hF16 51 (by omega))
      have hM21 : ∀ j, j < 12 → μ13 41 j = μ 41 j := fun j hj => (hm15 j (by omega)).trans (hM8 j hj)
      have hf1622 : μ13 41 16 = (x_b false) := (hm15 16 (Or.inr rfl)).trans hf16_9
      have hR23 := MR.cg hR10 (μ' := μ13) (fun id hid => (hF16 _ (by omega)))
      have hF24 : ∀ id, (id ≠ 41 ∧ id ≠ 42) → μ13 id = μ id := fun id hid => (show μ13 id = μ2 id from (hF16 _ (by omega))).trans (hF11 id hid)
      refine x_aload_n 1 d_X4_oneItem_38 rfl rfl ?_
      refine x_bipush (x := 7) d_X4_oneItem_39 (by decide) ?_
      refine x_iconst (x := 0) d_X4_oneItem_41 (by decide) ?_
      refine x_bipush (x := 16) d_X4_oneItem_42 (by decide) ?_
      refine x_iconst (x := (-1)) d_X4_oneItem_44 (by decide) ?_
      refine x_cvi (k := 41) (as := [.int 7, .int 0, .int 16, .int (-1)]) (c_X4_perhaps l E μ13 hn hW17 hK14 (tok_TO S hO.2.1) (tok_c S n _) hf1622 (w := 7) (N := 16) (by omega) (by decide) (-1)) v_X4_perhaps w_X4_perhaps q1050 o_M rfl ⟨Nat.le_of_ble_eq_true rfl, Nat.le_of_ble_eq_true rfl⟩ rfl (Nat.le_of_ble_eq_true rfl) d_X4_oneItem_45 ?_
      rintro z32 μ25 ⟨hp26, hp27, hm28, hF29⟩
      obtain ⟨bb, hT30⟩ : ∃ bb, takB false (tokAt S n (tkE t)) 7 = bb := ⟨_, rfl⟩
      cases bb
      · skip
        obtain ⟨hz9, hb33, hK34⟩ := hp27 hT30
        rw [hz9]
        have hW36 : RW S n μ25 := RW.of hW17 (hm28 11 (by omega)) (hF29 51 (by omega))
        have hM39 : ∀ j, j < 12 → μ25 41 j = μ 41 j := fun j hj => (hm28 j (by omega)).trans (hM21 j hj)
        have hR42 := MR.cg hR23 (μ' := μ25) (fun id hid => (hF29 _ (by omega)))
        have hF43 : ∀ id, (id ≠ 41 ∧ id ≠ 42) → μ25 id = μ id := fun id hid => (show μ25 id = μ13 id from (hF29 _ (by omega))).trans (hF24 id hid)
        refine x_istore_n [(2, .int (-1)), (1, .int (nI (tkC t))), (0, .ref (E.1 + 41))] d_X4_oneItem_48 rfl (Nat.le_of_ble_eq_true rfl) rfl ?_
        refine x_aload_n 2 d_X4_oneItem_49 rfl rfl ?_
        refine x_bipush (x := 8) d_X4_oneItem_50 (by decide) ?_
        refine x_iconst (x := 0) d_X4_oneItem_52 (by decide) ?_
        refine x_bipush (x := 99) d_X4_oneItem_53 (by decide) ?_
        refine x_bipush (x := 50) d_X4_oneItem_55 (by decide) ?_
        refine x_cvi (k := 41) (as := [.int 8, .int 0, .int 99, .int 50]) (c_X4_perhaps l E μ25 hn hW36 hK34 (tok_TO S hO.2.1) (tok_c S n _) hb33 (w := 8) (N := 99) (by omega) (by decide) 50) v_X4_perhaps w_X4_perhaps q1050 o_M rfl ⟨Nat.le_of_ble_eq_true rfl, Nat.le_of_ble_eq_true rfl⟩ rfl (Nat.le_of_ble_eq_true rfl) d_X4_oneItem_57 ?_
        rintro z51 μ44 ⟨hp45, hp46, hm47, hF48⟩
        obtain ⟨bb, hT49⟩ : ∃ bb, takB false (tokAt S n (tkE t)) 8 = bb := ⟨_, rfl⟩
        cases bb
        · skip
          obtain ⟨hz9, hb52, hK53⟩ := hp46 hT49
          rw [hz9]
          have hW55 : RW S n μ44 := RW.of hW36 (hm47 11 (by omega)) (hF48 51 (by omega))
          have hM58 : ∀ j, j < 12 → μ44 41 j = μ 41 j := fun j hj => (hm47 j (by omega)).trans (hM39 j hj)
          have hR61 := MR.cg hR42 (μ' := μ44) (fun id hid => (hF48 _ (by omega)))
          have hF62 : ∀ id, (id ≠ 41 ∧ id ≠ 42) → μ44 id = μ id := fun id hid => (show μ44 id = μ25 id from (hF48 _ (by omega))).trans (hF43 id hid)
          refine x_istore_n [(3, .int 50), (2, .int (-1)), (1, .int (nI (tkC t))), (0, .ref (E.1 + 41))] d_X4_oneItem_60 rfl (Nat.le_of_ble_eq_true rfl) rfl ?_
          refine x_aload_n 3 d_X4_oneItem_61 rfl rfl ?_
          refine x_getiV (j := 16) (z := (x_b false)) x_c4 rfl (Nat.le_of_ble_eq_true rfl) q684 rfl hb52 d_X4_oneItem_62 ?_
          refine x_ifb_ne 76 d_X4_oneItem_65 (by decide) (fun c63 => ?_) (fun c63 => ?_)
          · skip
            exact absurd ((rfl : false = false).symm.trans c63) (by decide)
          · skip
            refine x_aload_n 3 d_X4_oneItem_68 rfl rfl ?_
            refine x_iload_n 2 d_X4_oneItem_69 rfl rfl ?_
            refine x_iload_n 1 d_X4_oneItem_70 rfl rfl ?_
            refine x_iload_n 0 d_X4_oneItem_71 rfl rfl ?_
            refine x_cvi (k := 41) (as := [.int (nI (tkC t)), .int (-1), .int 50]) (c_X4_comes l E μ44 hR61 hI hlt (nI (tkC t)) (-1) 50) v_X4_comes w_X4_comes q779 o_M rfl ⟨Nat.le_of_ble_eq_true rfl, Nat.le_of_ble_eq_true rfl⟩ rfl (Nat.le_of_ble_eq_true rfl) d_X4_oneItem_72 ?_
            rintro _ μ64 ⟨rfl, hR65, hF66⟩
            have hW67 := RW.cg hW55 (μ' := μ64) (fun id hid => (hF66 _ (by omega)))
            have hF68 : ∀ id, (id ≠ 41 ∧ id ≠ 42) → μ64 id = μ id := fun id hid => (show μ64 id = μ44 id from (hF66 _ (by omega))).trans (hF62 id hid)
            have hM69 := FM2.cg hM58 (μ' := μ64) (fun id hid => (hF66 _ (by omega)))
            have hK70 := RK.cg hK53 (μ' := μ64) (fun id hid => (hF66 _ (by omega)))
            have hf1671 := FLD.cg hb52 (μ' := μ64) (fun id hid => (hF66 _ (by omega)))
            refine x_pop d_X4_oneItem_75 rfl ?_
            refine x_vret rfl d_X4_oneItem_76 ?_
            have e9 : newF S n a (tkC t) t = (true, comeF a (nI (tkC t)) (-1) 50, (tokAt S n (tkE t))) := by unfold newF; rw [if_pos hlt, if_neg (tak_0 hT30)]; unfold newB; rw [if_neg (tak_0 hT49)]
            rw [e9]
            exact ⟨⟨hf1671, hK70, fun _ => hR65⟩, hM69, hF68⟩
        · obtain ⟨hv54, hb52, hK53⟩ := hp45 hT49
          obtain ⟨bb, hT50⟩ : ∃ bb, numOk (tokAt S n (tkE (tokAt S n (tkE t)))) (nI 99) = bb := ⟨_, rfl⟩
          cases bb
          · rw [hT50] at hb52 hK53
            rw [if_neg Bool.false_ne_true] at hK53
            replace hb52 : μ44 41 16 = x_b true := hb52
            have hW72 : RW S n μ44 := RW.of hW36 (hm47 11 (by omega)) (hF48 51 (by omega))
            have hM75 : ∀ j, j < 12 → μ44 41 j = μ 41 j := fun j hj => (hm47 j (by omega)).trans (hM39 j hj)
            have hR78 := MR.cg hR42 (μ' := μ44) (fun id hid => (hF48 _ (by omega)))
            have hF79 : ∀ id, (id ≠ 41 ∧ id ≠ 42) → μ44 id = μ id := fun id hid => (show μ44 id = μ25 id from (hF48 _ (by omega))).trans (hF43 id hid)
            refine x_istore_n [(3, .int z51), (2, .int (-1)), (1, .int (nI (tkC t))), (0, .ref (E.1 + 41))] d_X4_oneItem_60 rfl (Nat.le_of_ble_eq_true rfl) rfl ?_
            refine x_aload_n 3 d_X4_oneItem_61 rfl rfl ?_
            refine x_getiV (j := 16) (z := (x_b true)) x_c4 rfl (Nat.le_of_ble_eq_true rfl) q684 rfl hb52 d_X4_oneItem_62 ?_
            refine x_ifb_ne 76 d_X4_oneItem_65 (by decide) (fun c80 => ?_) (fun c80 => ?_)
            · skip
              refine x_vret rfl d_X4_oneItem_76 ?_
              have e9 : newF S n a (tkC t) t = (false, a, (tokAt S n (tkE (tokAt S n (tkE t))))) := by unfold newF; rw [if_pos hlt, if_neg (tak_0 hT30)]; unfold newB; rw [if_pos (tak_1 hT49), if_neg (by rw [show numOk (tokAt S n (tkE (tokAt S n (tkE t)))) 99 = false from hT50]; decide)]
              rw [e9]
              exact ⟨⟨hb52, hK53, fun z => Bool.noConfusion z⟩, hM75, hF79⟩
            · skip
              exact absurd ((rfl : true = true).symm.trans c80) (by decide)
          · rw [hT50] at hb52 hK53
            rw [if_pos rfl] at hK53
            replace hb52 : μ44 41 16 = x_b false := hb52
            rw [hv54 hT50]
            have hW81 : RW S n μ44 := RW.of hW36 (hm47 11 (by omega)) (hF48 51 (by omega))
            have hM84 : ∀ j, j < 12 → μ44 41 j = μ 41 j := fun j hj => (hm47 j (by omega)).trans (hM39 j hj)
            have hR87 := MR.cg hR42 (μ' := μ44) (fun id hid => (hF48 _ (by omega)))
            have hF88 : ∀ id, (id ≠ 41 ∧ id ≠ 42) → μ44 id = μ id := fun id hid => (show μ44 id = μ25 id from (hF48 _ (by omega))).trans (hF43 id hid)
            refine x_istore_n [(3, .int (tkV (tokAt S n (tkE (tokAt S n (tkE t)))))), (2, .int (-1)), (1, .int (nI (tkC t))), (0, .ref (E.1 + 41))] d_X4_oneItem_60 rfl (Nat.le_of_ble_eq_true rfl) rfl ?_
            refine x_aload_n 3 d_X4_oneItem_61 rfl rfl ?_
            refine x_getiV (j := 16) (z := (x_b false)) x_c4 rfl (Nat.le_of_ble_eq_true rfl) q684 rfl hb52 d_X4_oneItem_62 ?_
            refine x_ifb_ne 76 d_X4_oneItem_65 (by decide) (fun c89 => ?_) (fun c89 => ?_)
            · skip
              exact absurd ((rfl : false = false).symm.trans c89) (by decide)
            · skip
              refine x_aload_n 3 d_X4_oneItem_68 rfl rfl ?_
              refine x_iload_n 2 d_X4_oneItem_69 rfl rfl ?_
              refine x_iload_n 1 d_X4_oneItem_70 rfl rfl ?_
              refine x_iload_n 0 d_X4_oneItem_71 rfl rfl ?_
              refine x_cvi (k := 41) (as := [.int (nI (tkC t)), .int (-1), .int (tkV (tokAt S n (tkE (tokAt S n (tkE t)))))]) (c_X4_comes l E μ44 hR87 hI hlt (nI (tkC t)) (-1) (tkV (tokAt S n (tkE (tokAt S n (tkE t)))))) v_X4_comes w_X4_comes q779 o_M rfl ⟨Nat.le_of_ble_eq_true rfl, Nat.le_of_ble_eq_true rfl⟩ rfl (Nat.le_of_ble_eq_true rfl) d_X4_oneItem_72 ?_
              rintro _ μ90 ⟨rfl, hR91, hF92⟩
              have hW93 := RW.cg hW81 (μ' := μ90) (fun id hid => (hF92 _ (by omega)))
              have hF94 : ∀ id, (id ≠ 41 ∧ id ≠ 42) → μ90 id = μ id := fun id hid => (show μ90 id = μ44 id from (hF92 _ (by omega))).trans (hF88 id hid)
              have hM95 := FM2.cg hM84 (μ' := μ90) (fun id hid => (hF92 _ (by omega)))
              have hK96 := RK.cg hK53 (μ' := μ90) (fun id hid => (hF92 _ (by omega)))
              have hf1697 := FLD.cg hb52 (μ' := μ90) (fun id hid => (hF92 _ (by omega)))
              refine x_pop d_X4_oneItem_75 rfl ?_
              refine x_vret rfl d_X4_oneItem_76 ?_
              have e9 : newF S n a (tkC t) t = (true, comeF a (nI (tkC t)) (-1) (tkV (tokAt S n (tkE (tokAt S n (tkE t))))), (tokAt S n (tkE (tokAt S n (tkE (tokAt S n (tkE t))))))) := by unfold newF; rw [if_pos hlt, if_neg (tak_0 hT30)]; unfold newB; rw [if_pos (tak_1 hT49), if_pos (show numOk (tokAt S n (tkE (tokAt S n (tkE t)))) 99 = true from hT50)]
              rw [e9]
              exact ⟨⟨hf1697, hK96, fun _ => hR91⟩, hM95, hF94⟩
      · obtain ⟨hv35, hb33, hK34⟩ := hp26 hT30
        obtain ⟨bb, hT31⟩ : ∃ bb, numOk (tokAt S n (tkE (tokAt S n (tkE t)))) (nI 16) = bb := ⟨_, rfl⟩
        cases bb
        · rw [hT31] at hb33 hK34
          rw [if_neg Bool.false_ne_true] at hK34
          replace hb33 : μ25 41 16 = x_b true := hb33
          have hW98 : RW S n μ25 := RW.of hW17 (hm28 11 (by omega)) (hF29 51 (by omega))
          have hM101 : ∀ j, j < 12 → μ25 41 j = μ 41 j := fun j hj => (hm28 j (by omega)).trans (hM21 j hj)
          have hR104 := MR.cg hR23 (μ' := μ25) (fun id hid => (hF29 _ (by omega)))
          have hF105 : ∀ id, (id ≠ 41 ∧ id ≠ 42) → μ25 id = μ id := fun id hid => (show μ25 id = μ13 id from (hF29 _ (by omega))).trans (hF24 id hid)
          refine x_istore_n [(2, .int z32), (1, .int (nI (tkC t))), (0, .ref (E.1 + 41))] d_X4_oneItem_48 rfl (Nat.le_of_ble_eq_true rfl) rfl ?_
          refine x_aload_n 2 d_X4_oneItem_49 rfl rfl ?_
          refine x_bipush (x := 8) d_X4_oneItem_50 (by decide) ?_
          refine x_iconst (x := 0) d_X4_oneItem_52 (by decide) ?_
          refine x_bipush (x := 99) d_X4_oneItem_53 (by decide) ?_
          refine x_bipush (x := 50) d_X4_oneItem_55 (by decide) ?_
          refine x_cvi (k := 41) (as := [.int 8, .int 0, .int 99, .int 50]) (c_X4_perhaps l E μ25 hn hW98 hK34 (tok_TO S ((tok_TO S hO.2.1).2.1)) (tok_c S n _) hb33 (w := 8) (N := 99) (by omega) (by decide) 50) v_X4_perhaps w_X4_perhaps q1050 o_M rfl ⟨Nat.le_of_ble_eq_true rfl, Nat.le_of_ble_eq_true rfl⟩ rfl (Nat.le_of_ble_eq_true rfl) d_X4_oneItem_57 ?_
          rintro z113 μ106 ⟨hp107, hp108, hm109, hF110⟩
          have hT111 : takB true (tokAt S n (tkE (tokAt S n (tkE t)))) 8 = false := rfl
          obtain ⟨hz9, hb114, hK115⟩ := hp108 hT111
          rw [hz9]
          have hW117 : RW S n μ106 := RW.of hW98 (hm109 11 (by omega)) (hF110 51 (by omega))
          have hM120 : ∀ j, j < 12 → μ106 41 j = μ 41 j := fun j hj => (hm109 j (by omega)).trans (hM101 j hj)
          have hR123 := MR.cg hR104 (μ' := μ106) (fun id hid => (hF110 _ (by omega)))
          have hF124 : ∀ id, (id ≠ 41 ∧ id ≠ 42) → μ106 id = μ id := fun id hid => (show μ106 id = μ25 id from (hF110 _ (by omega))).trans (hF105 id hid)
          refine x_istore_n [(3, .int 50), (2, .int z32), (1, .int (nI (tkC t))), (0, .ref (E.1 + 41))] d_X4_oneItem_60 rfl (Nat.le_of_ble_eq_true rfl) rfl ?_
          refine x_aload_n 3 d_X4_oneItem_61 rfl rfl ?_
          refine x_getiV (j := 16) (z := (x_b true)) x_c4 rfl (Nat.le_of_ble_eq_true rfl) q684 rfl hb114 d_X4_oneItem_62 ?_
          refine x_ifb_ne 76 d_X4_oneItem_65 (by decide) (fun c125 => ?_) (fun c125 => ?_)
          · skip
            refine x_vret rfl d_X4_oneItem_76 ?_
            have e9 : newF S n a (tkC t) t = (false, a, (tokAt S n (tkE (tokAt S n (tkE t))))) := by unfold newF; rw [if_pos hlt, if_pos (tak_1 hT30), if_neg (by rw [show numOk (tokAt S n (tkE (tokAt S n (tkE t)))) 16 = false from hT31]; decide)]
            rw [e9]
            exact ⟨⟨hb114, hK115, fun z => Bool.noConfusion z⟩, hM120, hF124⟩
          · skip
            exact absurd ((rfl : true = true).symm.trans c125) (by decide)
        · rw [hT31] at hb33 hK34
          rw [if_pos rfl] at hK34
          replace hb33 : μ25 41 16 = x_b false := hb33
          rw [hv35 hT31]
          have hW126 : RW S n μ25 := RW.of hW17 (hm28 11 (by omega)) (hF29 51 (by omega))
          have hM129 : ∀ j, j < 12 → μ25 41 j = μ 41 j := fun j hj => (hm28 j (by omega)).trans (hM21 j hj)
          have hR132 := MR.cg hR23 (μ' := μ25) (fun id hid => (hF29 _ (by omega)))
          have hF133 : ∀ id, (id ≠ 41 ∧ id ≠ 42) → μ25 id = μ id := fun id hid => (show μ25 id = μ13 id from (hF29 _ (by omega))).trans (hF24 id hid)
          refine x_istore_n [(2, .int (tkV (tokAt S n (tkE (tokAt S n (tkE t)))))), (1, .int (nI (tkC t))), (0, .ref (E.1 + 41))] d_X4_oneItem_48 rfl (Nat.le_of_ble_eq_true rfl) rfl ?_
          refine x_aload_n 2 d_X4_oneItem_49 rfl rfl ?_
          refine x_bipush (x := 8) d_X4_oneItem_50 (by decide) ?_
          refine x_iconst (x := 0) d_X4_oneItem_52 (by decide) ?_
          refine x_bipush (x := 99) d_X4_oneItem_53 (by decide) ?_
          refine x_bipush (x := 50) d_X4_oneItem_55 (by decide) ?_
          refine x_cvi (k := 41) (as := [.int 8, .int 0, .int 99, .int 50]) (c_X4_perhaps l E μ25 hn hW126 hK34 (tok_TO S ((tok_TO S ((tok_TO S hO.2.1).2.1)).2.1)) (tok_c S n _) hb33 (w := 8) (N := 99) (by omega) (by decide) 50) v_X4_perhaps w_X4_perhaps q1050 o_M rfl ⟨Nat.le_of_ble_eq_true rfl, Nat.le_of_ble_eq_true rfl⟩ rfl (Nat.le_of_ble_eq_true rfl) d_X4_oneItem_57 ?_
          rintro z141 μ134 ⟨hp135, hp136, hm137, hF138⟩
          obtain ⟨bb, hT139⟩ : ∃ bb, takB false (tokAt S n (tkE (tokAt S n (tkE (tokAt S n (tkE t)))))) 8 = bb := ⟨_, rfl⟩
          cases bb
          · skip
            obtain ⟨hz9, hb142, hK143⟩ := hp136 hT139
            rw [hz9]
            have hW145 : RW S n μ134 := RW.of hW126 (hm137 11 (by omega)) (hF138 51 (by omega))
            have hM148 : ∀ j, j < 12 → μ134 41 j = μ 41 j := fun j hj => (hm137 j (by omega)).trans (hM129 j hj)
            have hR151 := MR.cg hR132 (μ' := μ134) (fun id hid => (hF138 _ (by omega)))
            have hF152 : ∀ id, (id ≠ 41 ∧ id ≠ 42) → μ134 id = μ id := fun id hid => (show μ134 id = μ25 id from (hF138 _ (by omega))).trans (hF133 id hid)
            refine x_istore_n [(3, .int 50), (2, .int (tkV (tokAt S n (tkE (tokAt S n (tkE t)))))), (1, .int (nI (tkC t))), (0, .ref (E.1 + 41))] d_X4_oneItem_60 rfl (Nat.le_of_ble_eq_true rfl) rfl ?_
            refine x_aload_n 3 d_X4_oneItem_61 rfl rfl ?_
            refine x_getiV (j := 16) (z := (x_b false)) x_c4 rfl (Nat.le_of_ble_eq_true rfl) q684 rfl hb142 d_X4_oneItem_62 ?_
            refine x_ifb_ne 76 d_X4_oneItem_65 (by decide) (fun c153 => ?_) (fun c153 => ?_)
            · skip
              exact absurd ((rfl : false = false).symm.trans c153) (by decide)
            · skip
              refine x_aload_n 3 d_X4_oneItem_68 rfl rfl ?_
              refine x_iload_n 2 d_X4_oneItem_69 rfl rfl ?_
              refine x_iload_n 1 d_X4_oneItem_70 rfl rfl ?_
              refine x_iload_n 0 d_X4_oneItem_71 rfl rfl ?_
              refine x_cvi (k := 41) (as := [.int (nI (tkC t)), .int (tkV (tokAt S n (tkE (tokAt S n (tkE t))))), .int 50]) (c_X4_comes l E μ134 hR151 hI hlt (nI (tkC t)) (tkV (tokAt S n (tkE (tokAt S n (tkE t))))) 50) v_X4_comes w_X4_comes q779 o_M rfl ⟨Nat.le_of_ble_eq_true rfl, Nat.le_of_ble_eq_true rfl⟩ rfl (Nat.le_of_ble_eq_true rfl) d_X4_oneItem_72 ?_
              rintro _ μ154 ⟨rfl, hR155, hF156⟩
              have hW157 := RW.cg hW145 (μ' := μ154) (fun id hid => (hF156 _ (by omega)))
              have hF158 : ∀ id, (id ≠ 41 ∧ id ≠ 42) → μ154 id = μ id := fun id hid => (show μ154 id = μ134 id from (hF156 _ (by omega))).trans (hF152 id hid)
              have hM159 := FM2.cg hM148 (μ' := μ154) (fun id hid => (hF156 _ (by omega)))
              have hK160 := RK.cg hK143 (μ' := μ154) (fun id hid => (hF156 _ (by omega)))
              have hf16161 := FLD.cg hb142 (μ' := μ154) (fun id hid => (hF156 _ (by omega)))
              refine x_pop d_X4_oneItem_75 rfl ?_
              refine x_vret rfl d_X4_oneItem_76 ?_
              have e9 : newF S n a (tkC t) t = (true, comeF a (nI (tkC t)) (tkV (tokAt S n (tkE (tokAt S n (tkE t))))) 50, (tokAt S n (tkE (tokAt S n (tkE (tokAt S n (tkE t))))))) := by unfold newF; rw [if_pos hlt, if_pos (tak_1 hT30), if_pos (show numOk (tokAt S n (tkE (tokAt S n (tkE t)))) 16 = true from hT31)]; unfold newB; rw [if_neg (tak_0 hT139)]
              rw [e9]
              exact ⟨⟨hf16161, hK160, fun _ => hR155⟩, hM159, hF158⟩
          · obtain ⟨hv144, hb142, hK143⟩ := hp135 hT139
            obtain ⟨bb, hT140⟩ : ∃ bb, numOk (tokAt S n (tkE (tokAt S n (tkE (tokAt S n (tkE (tokAt S n (tkE t)))))))) (nI 99) = bb := ⟨_, rfl⟩
            cases bb
            · rw [hT140] at hb142 hK143
              rw [if_neg Bool.false_ne_true] at hK143
              replace hb142 : μ134 41 16 = x_b true := hb142
              have hW162 : RW S n μ134 := RW.of hW126 (hm137 11 (by omega)) (hF138 51 (by omega))
              have hM165 : ∀ j, j < 12 → μ134 41 j = μ 41 j := fun j hj => (hm137 j (by omega)).trans (hM129 j hj)
              have hR168 := MR.cg hR132 (μ' := μ134) (fun id hid => (hF138 _ (by omega)))
              have hF169 : ∀ id, (id ≠ 41 ∧ id ≠ 42) → μ134 id = μ id := fun id hid => (show μ134 id = μ25 id from (hF138 _ (by omega))).trans (hF133 id hid)
              refine x_istore_n [(3, .int z141), (2, .int (tkV (tokAt S n (tkE (tokAt S n (tkE t)))))), (1, .int (nI (tkC t))), (0, .ref (E.1 + 41))] d_X4_oneItem_60 rfl (Nat.le_of_ble_eq_true rfl) rfl ?_
              refine x_aload_n 3 d_X4_oneItem_61 rfl rfl ?_
              refine x_getiV (j := 16) (z := (x_b true)) x_c4 rfl (Nat.le_of_ble_eq_true rfl) q684 rfl hb142 d_X4_oneItem_62 ?_
              refine x_ifb_ne 76 d_X4_oneItem_65 (by decide) (fun c170 => ?_) (fun c170 => ?_)
              · skip
                refine x_vret rfl d_X4_oneItem_76 ?_
                have e9 : newF S n a (tkC t) t = (false, a, (tokAt S n (tkE (tokAt S n (tkE (tokAt S n (tkE (tokAt S n (tkE t))))))))) := by unfold newF; rw [if_pos hlt, if_pos (tak_1 hT30), if_pos (show numOk (tokAt S n (tkE (tokAt S n (tkE t)))) 16 = true from hT31)]; unfold newB; rw [if_pos (tak_1 hT139), if_neg (by rw [show numOk (tokAt S n (tkE (tokAt S n (tkE (tokAt S n (tkE (tokAt S n (tkE t)))))))) 99 = false from hT140]; decide)]
                rw [e9]
                exact ⟨⟨hb142, hK143, fun z => Bool.noConfusion z⟩, hM165, hF169⟩
              · skip
                exact absurd ((rfl : true = true).symm.trans c170) (by decide)
            · rw [hT140] at hb142 hK143
              rw [if_pos rfl] at hK143
              replace hb142 : μ134 41 16 = x_b false := hb142
              rw [hv144 hT140]
              have hW171 : RW S n μ134 := RW.of hW126 (hm137 11 (by omega)) (hF138 51 (by omega))
              have hM174 : ∀ j, j < 12 → μ134 41 j = μ 41 j := fun j hj => (hm137 j (by omega)).trans (hM129 j hj)
              have hR177 := MR.cg hR132 (μ' := μ134) (fun id hid => (hF138 _ (by omega)))
              have hF178 : ∀ id, (id ≠ 41 ∧ id ≠ 42) → μ134 id = μ id := fun id hid => (show μ134 id = μ25 id from (hF138 _ (by omega))).trans (hF133 id hid)
              refine x_istore_n [(3, .int (tkV (tokAt S n (tkE (tokAt S n (tkE (tokAt S n (tkE (tokAt S n (tkE t)))))))))), (2, .int (tkV (tokAt S n (tkE (tokAt S n (tkE t)))))), (1, .int (nI (tkC t))), (0, .ref (E.1 + 41))] d_X4_oneItem_60 rfl (Nat.le_of_ble_eq_true rfl) rfl ?_
              refine x_aload_n 3 d_X4_oneItem_61 rfl rfl ?_
              refine x_getiV (j := 16) (z := (x_b false)) x_c4 rfl (Nat.le_of_ble_eq_true rfl) q684 rfl hb142 d_X4_oneItem_62 ?_
              refine x_ifb_ne 76 d_X4_oneItem_65 (by decide) (fun c179 => ?_) (fun c179 => ?_)
              · skip
                exact absurd ((rfl : false = false).symm.trans c179) (by decide)
              · skip
                refine x_aload_n 3 d_X4_oneItem_68 rfl rfl ?_
                refine x_iload_n 2 d_X4_oneItem_69 rfl rfl ?_
                refine x_iload_n 1 d_X4_oneItem_70 rfl rfl ?_
                refine x_iload_n 0 d_X4_oneItem_71 rfl rfl ?_
                refine x_cvi (k := 41) (as := [.int (nI (tkC t)), .int (tkV (tokAt S n (tkE (tokAt S n (tkE t))))), .int (tkV (tokAt S n (tkE (tokAt S n (tkE (tokAt S n (tkE (tokAt S n (tkE t)))))))))]) (c_X4_comes l E μ134 hR177 hI hlt (nI (tkC t)) (tkV (tokAt S n (tkE (tokAt S n (tkE t))))) (tkV (tokAt S n (tkE (tokAt S n (tkE (tokAt S n (tkE (tokAt S n (tkE t)))))))))) v_X4_comes w_X4_comes q779 o_M rfl ⟨Nat.le_of_ble_eq_true rfl, Nat.le_of_ble_eq_true rfl⟩ rfl (Nat.le_of_ble_eq_true rfl) d_X4_oneItem_72 ?_
                rintro _ μ180 ⟨rfl, hR181, hF182⟩
                have hW183 := RW.cg hW171 (μ' := μ180) (fun id hid => (hF182 _ (by omega)))
                have hF184 : ∀ id, (id ≠ 41 ∧ id ≠ 42) → μ180 id = μ id := fun id hid => (show μ180 id = μ134 id from (hF182 _ (by omega))).trans (hF178 id hid)
                have hM185 := FM2.cg hM174 (μ' := μ180) (fun id hid => (hF182 _ (by omega)))
                have hK186 := RK.cg hK143 (μ' := μ180) (fun id hid => (hF182 _ (by omega)))
                have hf16187 := FLD.cg hb142 (μ' := μ180) (fun id hid => (hF182 _ (by omega)))
                refine x_pop d_X4_oneItem_75 rfl ?_
                refine x_vret rfl d_X4_oneItem_76 ?_
                have e9 : newF S n a (tkC t) t = (true, comeF a (nI (tkC t)) (tkV (tokAt S n (tkE (tokAt S n (tkE t))))) (tkV (tokAt S n (tkE (tokAt S n (tkE (tokAt S n (tkE (tokAt S n (tkE t))))))))), (tokAt S n (tkE (tokAt S n (tkE (tokAt S n (tkE (tokAt S n (tkE (tokAt S n (tkE t))))))))))) := by unfold newF; rw [if_pos hlt, if_pos (tak_1 hT30), if_pos (show numOk (tokAt S n (tkE (tokAt S n (tkE t)))) 16 = true from hT31)]; unfold newB; rw [if_pos (tak_1 hT139), if_pos (show numOk (tokAt S n (tkE (tokAt S n (tkE (tokAt S n (tkE (tokAt S n (tkE t)))))))) 99 = true from hT140)]
                rw [e9]
                exact ⟨⟨hf16187, hK186, fun _ => hR181⟩, hM185, hF184⟩
    · skip
      exact absurd ((rfl : false = false).symm.trans c12) (by decide)
  · skip
    have hge : pn a = 8 := (nI_eq (a := pn a) (b := 8) (by omega) (by decide)).mp c1
    refine x_iconst (x := 1) d_X4_oneItem_18 (by decide) ?_
    refine x_goto 23 d_X4_oneItem_19 (by decide) ?_
    refine x_putzG (j := 16) (q := true) x_c4 rfl (Nat.le_of_ble_eq_true rfl) q684 rfl rfl rfl d_X4_oneItem_23 (fun μ188 eμ188 => ?_)
    have hW190 := RW.cw hW eμ188 (by decide)
    have hK191 := RK.cw hK eμ188 (by decide)
    have hM194 := FM2.cw hM eμ188 (by decide)
    have hf16_195 : μ188 41 16 = (x_b true) := by rw [eμ188, upd2_at, upd_s]
    have hR196 := MR.cg hR (μ' := μ188) (fun id hid => (by rw [eμ188, upd2_ne _ _ _ (by omega)]))
    have hF197 : ∀ id, (id ≠ 41 ∧ id ≠ 42) → μ188 id = μ id := fun id hid => (show μ188 id = μ id from (by rw [eμ188, upd2_ne _ _ _ (by omega)])).trans (hF id hid)
    refine x_aload_n 1 d_X4_oneItem_26 rfl rfl ?_
    refine x_getiV (j := 16) (z := (x_b true)) x_c4 rfl (Nat.le_of_ble_eq_true rfl) q684 rfl hf16_195 d_X4_oneItem_27 ?_
    refine x_ifb_eq 34 d_X4_oneItem_30 (by decide) (fun c198 => ?_) (fun c198 => ?_)
    · skip
      exact absurd ((rfl : true = true).symm.trans c198) (by decide)
    · skip
      refine x_vret rfl d_X4_oneItem_33 ?_
      have e9 : newF S n a (tkC t) t = (false, a, t) := by unfold newF; rw [if_neg (by omega)]
      rw [e9]
      exact ⟨⟨hf16_195, hK191, fun z => Bool.noConfusion z⟩, hM194, hF197⟩
def m_X4_needItem : x_M := (yX4_needItem, prog_6_method_85_code, 3, none, 4, 88)
theorem v_X4_needItem : x_VM m_X4_needItem 0 := ⟨q1065, q6, by decide +kernel, by decide +kernel, by decide +kernel⟩
theorem w_X4_needItem : x_VI m_X4_needItem := ⟨q1064, qs60⟩
theorem d_X4_needItem_0 : x_dec m_X4_needItem 0 (.aload_n 0) 1 1 := ⟨by decide +kernel, rfl⟩
theorem d_X4_needItem_1 : x_dec m_X4_needItem 1 (.iconst 0) 1 2 := ⟨by decide +kernel, rfl⟩
theorem d_X4_needItem_2 : x_dec m_X4_needItem 2 (.bipush 15) 2 4 := ⟨by decide +kernel, rfl⟩
theorem d_X4_needItem_4 : x_dec m_X4_needItem 4 (.invokevirtual 221) 3 7 := ⟨by decide +kernel, rfl⟩
theorem d_X4_needItem_7 : x_dec m_X4_needItem 7 (.istore_n 1) 1 8 := ⟨by decide +kernel, rfl⟩
theorem d_X4_needItem_8 : x_dec m_X4_needItem 8 (.aload_n 0) 1 9 := ⟨by decide +kernel, rfl⟩
theorem d_X4_needItem_9 : x_dec m_X4_needItem 9 (.iconst 0) 1 10 := ⟨by decide +kernel, rfl⟩
theorem d_X4_needItem_10 : x_dec m_X4_needItem 10 (.sipush 999) 3 13 := ⟨by decide +kernel, rfl⟩
theorem d_X4_needItem_13 : x_dec m_X4_needItem 13 (.invokevirtual 221) 3 16 := ⟨by decide +kernel, rfl⟩
theorem d_X4_needItem_16 : x_dec m_X4_needItem 16 (.istore_n 2) 1 17 := ⟨by decide +kernel, rfl⟩
theorem d_X4_needItem_17 : x_dec m_X4_needItem 17 (.aload_n 0) 1 18 := ⟨by decide +kernel, rfl⟩
theorem d_X4_needItem_18 : x_dec m_X4_needItem 18 (.getfield 211) 3 21 := ⟨by decide +kernel, rfl⟩
theorem d_X4_needItem_21 : x_dec m_X4_needItem 21 (.ifCond .ne 13) 3 24 := ⟨by decide +kernel, rfl⟩
theorem d_X4_needItem_24 : x_dec m_X4_needItem 24 (.aload_n 0) 1 25 := ⟨by decide +kernel, rfl⟩
theorem d_X4_needItem_25 : x_dec m_X4_needItem 25 (.getfield 9) 3 28 := ⟨by decide +kernel, rfl⟩
theorem d_X4_needItem_28 : x_dec m_X4_needItem 28 (.bipush 8) 2 30 := ⟨by decide +kernel, rfl⟩
theorem d_X4_needItem_30 : x_dec m_X4_needItem 30 (.iload_n 1) 1 31 := ⟨by decide +kernel, rfl⟩
theorem d_X4_needItem_31 : x_dec m_X4_needItem 31 (.iadd) 1 32 := ⟨by decide +kernel, rfl⟩
theorem d_X4_needItem_32 : x_dec m_X4_needItem 32 (.iload_n 2) 1 33 := ⟨by decide +kernel, rfl⟩
theorem d_X4_needItem_33 : x_dec m_X4_needItem 33 (.iastore) 1 34 := ⟨by decide +kernel, rfl⟩
theorem d_X4_needItem_34 : x_dec m_X4_needItem 34 (.return_) 1 35 := ⟨by decide +kernel, rfl⟩
set_option maxHeartbeats 4000000 in
set_option maxRecDepth 100000 in
theorem c_X4_needItem (l : Launch) (E : x_E) (μ : x_Mem) {S : Nat → Int32} {n : Nat} (hn : n ≤ 120) (hW : RW S n μ) {t0 : x_Tk} (hO0 : TO S n t0) (hK : RK (tokAt S n (tkE t0)) μ) (hB : μ 41 16 = x_b false) {a : x_St} (hR : MR a μ) (hI : WF a)  : x_Met l m_X4_needItem E [.ref (E.1 + 41)] μ (x_J (fun m => IT (needF S n a t0) m ∧ (∀ j, j < 12 → m 41 j = μ 41 j) ∧ ∀ id, (id ≠ 41 ∧ id ≠ 42) → m id = μ id)) := by
  have hn7 := hI.2.1
  have hpn := hI.1
  have hF : ∀ id, (id ≠ 41 ∧ id ≠ 42) → μ id = μ id := fun _ _ => rfl
  have hM : ∀ j, j < 12 → μ 41 j = μ 41 j := fun _ _ => rfl
  refine x_enter (lv := [(0, .ref (E.1 + 41))]) (by decide +kernel) (Nat.le_of_ble_eq_true rfl) rfl ?_
  refine x_aload_n 0 d_X4_needItem_0 rfl rfl ?_
  refine x_iconst (x := 0) d_X4_needItem_1 (by decide) ?_
  refine x_bipush (x := 15) d_X4_needItem_2 (by decide) ?_
  refine x_cvi (k := 41) (as := [.int 0, .int 15]) (c_X4_number l E μ hn hW hK (tok_TO S hO0.2.1) (tok_c S n _) hB (N := 15) (by decide)) v_X4_number w_X4_number q1058 o_M rfl ⟨Nat.le_of_ble_eq_true rfl, Nat.le_of_ble_eq_true rfl⟩ rfl (Nat.le_of_ble_eq_true rfl) d_X4_needItem_4 ?_
  rintro z8 μ1 ⟨hv6, hb7, hK2, hm3, hF4⟩
  rw [show (false || !numOk (tokAt S n (tkE t0)) (nI 15)) = !numOk (tokAt S n (tkE t0)) (nI 15) from by rfl] at hb7 hK2
  obtain ⟨bb, hT5⟩ : ∃ bb, numOk (tokAt S n (tkE t0)) (nI 15) = bb := ⟨_, rfl⟩
  cases bb
  · rw [hT5] at hb7 hK2
    rw [if_pos (show (!false) = true from rfl)] at hK2
    have hW9 : RW S n μ1 := RW.of hW (hm3 11 (by omega)) (hF4 51 (by omega))
    have hM14 : ∀ j, j < 12 → μ1 41 j = μ 41 j := fun j hj => (hm3 j (by omega)).trans (hM j hj)
    have hR15 := MR.cg hR (μ' := μ1) (fun id hid => (hF4 _ (by omega)))
    have hF16 : ∀ id, (id ≠ 41 ∧ id ≠ 42) → μ1 id = μ id := fun id hid => (show μ1 id = μ id from (hF4 _ (by omega))).trans (hF id hid)
    replace hb7 : μ1 41 16 = x_b true := hb7
    refine x_istore_n [(1, .int z8), (0, .ref (E.1 + 41))] d_X4_needItem_7 rfl (Nat.le_of_ble_eq_true rfl) rfl ?_
    refine x_aload_n 1 d_X4_needItem_8 rfl rfl ?_
    refine x_iconst (x := 0) d_X4_needItem_9 (by decide) ?_
    refine x_sipush (x := 999) d_X4_needItem_10 (by decide) ?_
    refine x_cvi (k := 41) (as := [.int 0, .int 999]) (c_X4_number l E μ1 hn hW9 hK2 (tok_TO S hO0.2.1) (tok_c S n _) hb7 (N := 999) (by decide)) v_X4_number w_X4_number q1058 o_M rfl ⟨Nat.le_of_ble_eq_true rfl, Nat.le_of_ble_eq_true rfl⟩ rfl (Nat.le_of_ble_eq_true rfl) d_X4_needItem_13 ?_
    rintro z24 μ17 ⟨hv22, hb23, hK18, hm19, hF20⟩
    rw [Bool.true_or] at hb23 hK18
    rw [if_pos rfl] at hK18
    have hW25 : RW S n μ17 := RW.of hW9 (hm19 11 (by omega)) (hF20 51 (by omega))
    have hM28 : ∀ j, j < 12 → μ17 41 j = μ 41 j := fun j hj => (hm19 j (by omega)).trans (hM14 j hj)
    have hR31 := MR.cg hR15 (μ' := μ17) (fun id hid => (hF20 _ (by omega)))
    have hF32 : ∀ id, (id ≠ 41 ∧ id ≠ 42) → μ17 id = μ id := fun id hid => (show μ17 id = μ1 id from (hF20 _ (by omega))).trans (hF16 id hid)
    refine x_istore_n [(2, .int z24), (1, .int z8), (0, .ref (E.1 + 41))] d_X4_needItem_16 rfl (Nat.le_of_ble_eq_true rfl) rfl ?_
    refine x_aload_n 2 d_X4_needItem_17 rfl rfl ?_
    refine x_getiV (j := 16) (z := (x_b true)) x_c4 rfl (Nat.le_of_ble_eq_true rfl) q684 rfl hb23 d_X4_needItem_18 ?_
    refine x_ifb_ne 34 d_X4_needItem_21 (by decide) (fun c33 => ?_) (fun c33 => ?_)
    · skip
      refine x_vret rfl d_X4_needItem_34 ?_
      have e9 : needF S n a t0 = (false, a, (tokAt S n (tkE t0))) := by unfold needF; rw [if_neg (by rw [show numOk (tokAt S n (tkE t0)) 15 = false from hT5]; decide)]
      rw [e9]
      exact ⟨⟨hb23, hK18, fun z => Bool.noConfusion z⟩, hM28, hF32⟩
    · skip
      exact absurd ((rfl : true = true).symm.trans c33) (by decide)
  · rw [hT5] at hb7 hK2
    rw [if_neg (show ¬ (!true) = true by decide)] at hK2
    rw [hv6 hT5]
    have hW34 : RW S n μ1 := RW.of hW (hm3 11 (by omega)) (hF4 51 (by omega))
    have hM39 : ∀ j, j < 12 → μ1 41 j = μ 41 j := fun j hj => (hm3 j (by omega)).trans (hM j hj)
    have hR40 := MR.cg hR (μ' := μ1) (fun id hid => (hF4 _ (by omega)))
    have hF41 : ∀ id, (id ≠ 41 ∧ id ≠ 42) → μ1 id = μ id := fun id hid => (show μ1 id = μ id from (hF4 _ (by omega))).trans (hF id hid)
    replace hb7 : μ1 41 16 = x_b false := hb7
    obtain ⟨k, hk, ek⟩ := num_nat (N := 15) hO0 hT5 (by decide)
    rw [ek]
    refine x_istore_n [(1, .int (nI k)), (0, .ref (E.1 + 41))] d_X4_needItem_7 rfl (Nat.le_of_ble_eq_true rfl) rfl ?_
    refine x_aload_n 1 d_X4_needItem_8 rfl rfl ?_
    refine x_iconst (x := 0) d_X4_needItem_9 (by decide) ?_
    refine x_sipush (x := 999) d_X4_needItem_10 (by decide) ?_
    refine x_cvi (k := 41) (as := [.int 0, .int 999]) (c_X4_number l E μ1 hn hW34 hK2 (tok_TO S ((tok_TO S hO0.2.1).2.1)) (tok_c S n _) hb7 (N := 999) (by decide)) v_X4_number w_X4_number q1058 o_M rfl ⟨Nat.le_of_ble_eq_true rfl, Nat.le_of_ble_eq_true rfl⟩ rfl (Nat.le_of_ble_eq_true rfl) d_X4_needItem_13 ?_
    rintro z49 μ42 ⟨hv47, hb48, hK43, hm44, hF45⟩
    rw [show (false || !numOk (tokAt S n (tkE (tokAt S n (tkE t0)))) (nI 999)) = !numOk (tokAt S n (tkE (tokAt S n (tkE t0)))) (nI 999) from by rfl] at hb48 hK43
    obtain ⟨bb, hT46⟩ : ∃ bb, numOk (tokAt S n (tkE (tokAt S n (tkE t0)))) (nI 999) = bb := ⟨_, rfl⟩
    cases bb
    · rw [hT46] at hb48 hK43
      rw [if_pos (show (!false) = true from rfl)] at hK43
      have hW50 : RW S n μ42 := RW.of hW34 (hm44 11 (by omega)) (hF45 51 (by omega))
      have hM53 : ∀ j, j < 12 → μ42 41 j = μ 41 j := fun j hj => (hm44 j (by omega)).trans (hM39 j hj)
      have hR56 := MR.cg hR40 (μ' := μ42) (fun id hid => (hF45 _ (by omega)))
      have hF57 : ∀ id, (id ≠ 41 ∧ id ≠ 42) → μ42 id = μ id := fun id hid => (show μ42 id = μ1 id from (hF45 _ (by omega))).trans (hF41 id hid)
      replace hb48 : μ42 41 16 = x_b true := hb48
      refine x_istore_n [(2, .int z49), (1, .int (nI k)), (0, .ref (E.1 + 41))] d_X4_needItem_16 rfl (Nat.le_of_ble_eq_true rfl) rfl ?_
      refine x_aload_n 2 d_X4_needItem_17 rfl rfl ?_
      refine x_getiV (j := 16) (z := (x_b true)) x_c4 rfl (Nat.le_of_ble_eq_true rfl) q684 rfl hb48 d_X4_needItem_18 ?_
      refine x_ifb_ne 34 d_X4_needItem_21 (by decide) (fun c58 => ?_) (fun c58 => ?_)
      · skip
        refine x_vret rfl d_X4_needItem_34 ?_
        have e9 : needF S n a t0 = (false, a, (tokAt S n (tkE (tokAt S n (tkE t0))))) := by unfold needF; rw [if_pos (show numOk (tokAt S n (tkE t0)) 15 = true from hT5), if_neg (by rw [show numOk (tokAt S n (tkE (tokAt S n (tkE t0)))) 999 = false from hT46]; decide)]
        rw [e9]
        exact ⟨⟨hb48, hK43, fun z => Bool.noConfusion z⟩, hM53, hF57⟩
      · skip
        exact absurd ((rfl : true = true).symm.trans c58) (by decide)
    · rw [hT46] at hb48 hK43
      rw [if_neg (show ¬ (!true) = true by decide)] at hK43
      rw [hv47 hT46]
      have hW59 : RW S n μ42 := RW.of hW34 (hm44 11 (by omega)) (hF45 51 (by omega))
      have hM62 : ∀ j, j < 12 → μ42 41 j = μ 41 j := fun j hj => (hm44 j (by omega)).trans (hM39 j hj)
      have hR65 := MR.cg hR40 (μ' := μ42) (fun id hid => (hF45 _ (by omega)))
      have hF66 : ∀ id, (id ≠ 41 ∧ id ≠ 42) → μ42 id = μ id := fun id hid => (show μ42 id = μ1 id from (hF45 _ (by omega))).trans (hF41 id hid)
      replace hb48 : μ42 41 16 = x_b false := hb48
      refine x_istore_n [(2, .int (tkV (tokAt S n (tkE (tokAt S n (tkE t0)))))), (1, .int (nI k)), (0, .ref (E.1 + 41))] d_X4_needItem_16 rfl (Nat.le_of_ble_eq_true rfl) rfl ?_
      refine x_aload_n 2 d_X4_needItem_17 rfl rfl ?_
      refine x_getiV (j := 16) (z := (x_b false)) x_c4 rfl (Nat.le_of_ble_eq_true rfl) q684 rfl hb48 d_X4_needItem_18 ?_
      refine x_ifb_ne 34 d_X4_needItem_21 (by decide) (fun c67 => ?_) (fun c67 => ?_)
      · skip
        exact absurd ((rfl : false = false).symm.trans c67) (by decide)
      · skip
        refine x_aload_n 2 d_X4_needItem_24 rfl rfl ?_
        refine x_getr (j := 0) 42 x_c4 rfl (Nat.le_of_ble_eq_true rfl) q668 rfl d_X4_needItem_25 ?_
        refine x_bipush (x := 8) d_X4_needItem_28 (by decide) ?_
        refine x_iload_n 1 d_X4_needItem_30 rfl rfl ?_
        refine x_iadd d_X4_needItem_31 ?_
        rw [show (8 : Int32) + (nI k) = nI (8 + k) from nI_add 8 k]
        refine x_iload_n 0 d_X4_needItem_32 rfl rfl ?_
        refine x_iastNG 58 (8 + k) rfl rfl (by omega) (by decide) d_X4_needItem_33 (fun μ68 eμ68 => ?_)
        have hR69 : MR (upd a ((8 + k)) (tkV (tokAt S n (tkE (tokAt S n (tkE t0)))))) μ68 := MR.w hR65 eμ68
        have hW70 := RW.cg hW59 (μ' := μ68) (fun id hid => (by rw [eμ68, upd2_ne _ _ _ (by omega)]))
        have hF71 : ∀ id, (id ≠ 41 ∧ id ≠ 42) → μ68 id = μ id := fun id hid => (show μ68 id = μ42 id from (by rw [eμ68, upd2_ne _ _ _ (by omega)])).trans (hF66 id hid)
        have hM72 := FM2.cg hM62 (μ' := μ68) (fun id hid => (by rw [eμ68, upd2_ne _ _ _ (by omega)]))
        have hK73 := RK.cg hK43 (μ' := μ68) (fun id hid => (by rw [eμ68, upd2_ne _ _ _ (by omega)]))
        have hf1674 := FLD.cg hb48 (μ' := μ68) (fun id hid => (by rw [eμ68, upd2_ne _ _ _ (by omega)]))
        refine x_vret rfl d_X4_needItem_34 ?_
        have e9 : needF S n a t0 = (true, upd a (8 + k) (tkV (tokAt S n (tkE (tokAt S n (tkE t0))))), (tokAt S n (tkE (tokAt S n (tkE (tokAt S n (tkE t0))))))) := by unfold needF; rw [if_pos (show numOk (tokAt S n (tkE t0)) 15 = true from hT5), if_pos (show numOk (tokAt S n (tkE (tokAt S n (tkE t0)))) 999 = true from hT46), ek, nI_clamp (by omega)]
        rw [e9]
        exact ⟨⟨hf1674, hK73, fun _ => hR69⟩, hM72, hF71⟩
def m_X4_item : x_M := (yX4_item, prog_6_method_86_code, 1, none, 6, 135)
theorem v_X4_item : x_VM m_X4_item 0 := ⟨q1045, q6, by decide +kernel, by decide +kernel, by decide +kernel⟩
theorem w_X4_item : x_VI m_X4_item := ⟨q1044, qs55⟩
theorem d_X4_item_0 : x_dec m_X4_item 0 (.aload_n 0) 1 1 := ⟨by decide +kernel, rfl⟩
theorem d_X4_item_1 : x_dec m_X4_item 1 (.getfield 205) 3 4 := ⟨by decide +kernel, rfl⟩
theorem d_X4_item_4 : x_dec m_X4_item 4 (.bipush 6) 2 6 := ⟨by decide +kernel, rfl⟩
theorem d_X4_item_6 : x_dec m_X4_item 6 (.if_icmp .gt 10) 3 9 := ⟨by decide +kernel, rfl⟩
theorem d_X4_item_9 : x_dec m_X4_item 9 (.aload_n 0) 1 10 := ⟨by decide +kernel, rfl⟩
theorem d_X4_item_10 : x_dec m_X4_item 10 (.invokevirtual 228) 3 13 := ⟨by decide +kernel, rfl⟩
theorem d_X4_item_13 : x_dec m_X4_item 13 (.goto 137) 3 16 := ⟨by decide +kernel, rfl⟩
theorem d_X4_item_16 : x_dec m_X4_item 16 (.aload_n 0) 1 17 := ⟨by decide +kernel, rfl⟩
theorem d_X4_item_17 : x_dec m_X4_item 17 (.bipush 9) 2 19 := ⟨by decide +kernel, rfl⟩
theorem d_X4_item_19 : x_dec m_X4_item 19 (.invokevirtual 218) 3 22 := ⟨by decide +kernel, rfl⟩
theorem d_X4_item_22 : x_dec m_X4_item 22 (.ifCond .eq 10) 3 25 := ⟨by decide +kernel, rfl⟩
theorem d_X4_item_25 : x_dec m_X4_item 25 (.aload_n 0) 1 26 := ⟨by decide +kernel, rfl⟩
theorem d_X4_item_26 : x_dec m_X4_item 26 (.invokevirtual 231) 3 29 := ⟨by decide +kernel, rfl⟩
theorem d_X4_item_29 : x_dec m_X4_item 29 (.goto 121) 3 32 := ⟨by decide +kernel, rfl⟩
theorem d_X4_item_32 : x_dec m_X4_item 32 (.aload_n 0) 1 33 := ⟨by decide +kernel, rfl⟩
theorem d_X4_item_33 : x_dec m_X4_item 33 (.bipush 10) 2 35 := ⟨by decide +kernel, rfl⟩
theorem d_X4_item_35 : x_dec m_X4_item 35 (.invokevirtual 218) 3 38 := ⟨by decide +kernel, rfl⟩
theorem d_X4_item_38 : x_dec m_X4_item 38 (.ifCond .eq 19) 3 41 := ⟨by decide +kernel, rfl⟩
theorem d_X4_item_41 : x_dec m_X4_item 41 (.aload_n 0) 1 42 := ⟨by decide +kernel, rfl⟩
theorem d_X4_item_42 : x_dec m_X4_item 42 (.getfield 9) 3 45 := ⟨by decide +kernel, rfl⟩
theorem d_X4_item_45 : x_dec m_X4_item 45 (.iconst 1) 1 46 := ⟨by decide +kernel, rfl⟩
theorem d_X4_item_46 : x_dec m_X4_item 46 (.aload_n 0) 1 47 := ⟨by decide +kernel, rfl⟩
theorem d_X4_item_47 : x_dec m_X4_item 47 (.iconst 0) 1 48 := ⟨by decide +kernel, rfl⟩
theorem d_X4_item_48 : x_dec m_X4_item 48 (.bipush 16) 2 50 := ⟨by decide +kernel, rfl⟩
theorem d_X4_item_50 : x_dec m_X4_item 50 (.invokevirtual 221) 3 53 := ⟨by decide +kernel, rfl⟩
theorem d_X4_item_53 : x_dec m_X4_item 53 (.iastore) 1 54 := ⟨by decide +kernel, rfl⟩
theorem d_X4_item_54 : x_dec m_X4_item 54 (.goto 96) 3 57 := ⟨by decide +kernel, rfl⟩
theorem d_X4_item_57 : x_dec m_X4_item 57 (.aload_n 0) 1 58 := ⟨by decide +kernel, rfl⟩
theorem d_X4_item_58 : x_dec m_X4_item 58 (.bipush 11) 2 60 := ⟨by decide +kernel, rfl⟩
theorem d_X4_item_60 : x_dec m_X4_item 60 (.invokevirtual 218) 3 63 := ⟨by decide +kernel, rfl⟩
theorem d_X4_item_63 : x_dec m_X4_item 63 (.ifCond .eq 19) 3 66 := ⟨by decide +kernel, rfl⟩
theorem d_X4_item_66 : x_dec m_X4_item 66 (.aload_n 0) 1 67 := ⟨by decide +kernel, rfl⟩
theorem d_X4_item_67 : x_dec m_X4_item 67 (.getfield 9) 3 70 := ⟨by decide +kernel, rfl⟩
theorem d_X4_item_70 : x_dec m_X4_item 70 (.iconst 3) 1 71 := ⟨by decide +kernel, rfl⟩
theorem d_X4_item_71 : x_dec m_X4_item 71 (.aload_n 0) 1 72 := ⟨by decide +kernel, rfl⟩
theorem d_X4_item_72 : x_dec m_X4_item 72 (.iconst 0) 1 73 := ⟨by decide +kernel, rfl⟩
theorem d_X4_item_73 : x_dec m_X4_item 73 (.bipush 20) 2 75 := ⟨by decide +kernel, rfl⟩
theorem d_X4_item_75 : x_dec m_X4_item 75 (.invokevirtual 221) 3 78 := ⟨by decide +kernel, rfl⟩
theorem d_X4_item_78 : x_dec m_X4_item 78 (.iastore) 1 79 := ⟨by decide +kernel, rfl⟩
theorem d_X4_item_79 : x_dec m_X4_item 79 (.goto 71) 3 82 := ⟨by decide +kernel, rfl⟩
theorem d_X4_item_82 : x_dec m_X4_item 82 (.aload_n 0) 1 83 := ⟨by decide +kernel, rfl⟩
theorem d_X4_item_83 : x_dec m_X4_item 83 (.bipush 12) 2 85 := ⟨by decide +kernel, rfl⟩
theorem d_X4_item_85 : x_dec m_X4_item 85 (.invokevirtual 218) 3 88 := ⟨by decide +kernel, rfl⟩
theorem d_X4_item_88 : x_dec m_X4_item 88 (.ifCond .eq 19) 3 91 := ⟨by decide +kernel, rfl⟩
theorem d_X4_item_91 : x_dec m_X4_item 91 (.aload_n 0) 1 92 := ⟨by decide +kernel, rfl⟩
theorem d_X4_item_92 : x_dec m_X4_item 92 (.getfield 9) 3 95 := ⟨by decide +kernel, rfl⟩
theorem d_X4_item_95 : x_dec m_X4_item 95 (.iconst 4) 1 96 := ⟨by decide +kernel, rfl⟩
theorem d_X4_item_96 : x_dec m_X4_item 96 (.aload_n 0) 1 97 := ⟨by decide +kernel, rfl⟩
theorem d_X4_item_97 : x_dec m_X4_item 97 (.iconst 0) 1 98 := ⟨by decide +kernel, rfl⟩
theorem d_X4_item_98 : x_dec m_X4_item 98 (.bipush 20) 2 100 := ⟨by decide +kernel, rfl⟩
theorem d_X4_item_100 : x_dec m_X4_item 100 (.invokevirtual 221) 3 103 := ⟨by decide +kernel, rfl⟩
theorem d_X4_item_103 : x_dec m_X4_item 103 (.iastore) 1 104 := ⟨by decide +kernel, rfl⟩
theorem d_X4_item_104 : x_dec m_X4_item 104 (.goto 46) 3 107 := ⟨by decide +kernel, rfl⟩
theorem d_X4_item_107 : x_dec m_X4_item 107 (.aload_n 0) 1 108 := ⟨by decide +kernel, rfl⟩
theorem d_X4_item_108 : x_dec m_X4_item 108 (.bipush 13) 2 110 := ⟨by decide +kernel, rfl⟩
theorem d_X4_item_110 : x_dec m_X4_item 110 (.invokevirtual 218) 3 113 := ⟨by decide +kernel, rfl⟩
theorem d_X4_item_113 : x_dec m_X4_item 113 (.ifCond .eq 13) 3 116 := ⟨by decide +kernel, rfl⟩
theorem d_X4_item_116 : x_dec m_X4_item 116 (.aload_n 0) 1 117 := ⟨by decide +kernel, rfl⟩
theorem d_X4_item_117 : x_dec m_X4_item 117 (.getfield 9) 3 120 := ⟨by decide +kernel, rfl⟩
theorem d_X4_item_120 : x_dec m_X4_item 120 (.iconst 2) 1 121 := ⟨by decide +kernel, rfl⟩
theorem d_X4_item_121 : x_dec m_X4_item 121 (.iconst 1) 1 122 := ⟨by decide +kernel, rfl⟩
theorem d_X4_item_122 : x_dec m_X4_item 122 (.iastore) 1 123 := ⟨by decide +kernel, rfl⟩
theorem d_X4_item_123 : x_dec m_X4_item 123 (.goto 27) 3 126 := ⟨by decide +kernel, rfl⟩
theorem d_X4_item_126 : x_dec m_X4_item 126 (.aload_n 0) 1 127 := ⟨by decide +kernel, rfl⟩
theorem d_X4_item_127 : x_dec m_X4_item 127 (.bipush 14) 2 129 := ⟨by decide +kernel, rfl⟩
theorem d_X4_item_129 : x_dec m_X4_item 129 (.invokevirtual 218) 3 132 := ⟨by decide +kernel, rfl⟩
theorem d_X4_item_132 : x_dec m_X4_item 132 (.ifCond .eq 13) 3 135 := ⟨by decide +kernel, rfl⟩
theorem d_X4_item_135 : x_dec m_X4_item 135 (.aload_n 0) 1 136 := ⟨by decide +kernel, rfl⟩
theorem d_X4_item_136 : x_dec m_X4_item 136 (.getfield 9) 3 139 := ⟨by decide +kernel, rfl⟩
theorem d_X4_item_139 : x_dec m_X4_item 139 (.iconst 2) 1 140 := ⟨by decide +kernel, rfl⟩
theorem d_X4_item_140 : x_dec m_X4_item 140 (.iconst 0) 1 141 := ⟨by decide +kernel, rfl⟩
theorem d_X4_item_141 : x_dec m_X4_item 141 (.iastore) 1 142 := ⟨by decide +kernel, rfl⟩
theorem d_X4_item_142 : x_dec m_X4_item 142 (.goto 8) 3 145 := ⟨by decide +kernel, rfl⟩
theorem d_X4_item_145 : x_dec m_X4_item 145 (.aload_n 0) 1 146 := ⟨by decide +kernel, rfl⟩
theorem d_X4_item_146 : x_dec m_X4_item 146 (.iconst 1) 1 147 := ⟨by decide +kernel, rfl⟩
theorem d_X4_item_147 : x_dec m_X4_item 147 (.putfield 211) 3 150 := ⟨by decide +kernel, rfl⟩
theorem d_X4_item_150 : x_dec m_X4_item 150 (.return_) 1 151 := ⟨by decide +kernel, rfl⟩
set_option maxHeartbeats 4000000 in
set_option maxRecDepth 100000 in
theorem c_X4_item (l : Launch) (E : x_E) (μ : x_Mem) {S : Nat → Int32} {n : Nat} (hn : n ≤ 120) (hW : RW S n μ) {t : x_Tk} (hK : RK t μ) (hO : TO S n t) (hc : tkC t < 30) (hB : μ 41 16 = x_b false) {a : x_St} (hR : MR a μ) (hI : WF a)  : x_Met l m_X4_item E [.ref (E.1 + 41)] μ (x_J (fun m => IT (itemF S n a t) m ∧ (∀ j, j < 12 → m 41 j = μ 41 j) ∧ ∀ id, (id ≠ 41 ∧ id ≠ 42) → m id = μ id)) := by
  have hn7 := hI.2.1
  have hpn := hI.1
  have hF : ∀ id, (id ≠ 41 ∧ id ≠ 42) → μ id = μ id := fun _ _ => rfl
  have hM : ∀ j, j < 12 → μ 41 j = μ 41 j := fun _ _ => rfl
  refine x_enter (lv := [(0, .ref (E.1 + 41))]) (by decide +kernel) (Nat.le_of_ble_eq_true rfl) rfl ?_
  refine x_aload_n 0 d_X4_item_0 rfl rfl ?_
  refine x_getiV (j := 12) (z := nI (rT (tkC t))) x_c4 rfl (Nat.le_of_ble_eq_true rfl) q680 rfl (hK.2.2.1) d_X4_item_1 ?_
  refine x_bipush (x := 6) d_X4_item_4 (by decide) ?_
  refine x_icmp_gt 16 d_X4_item_6 (by decide) (fun c1 => ?_) (fun c1 => ?_)
  · skip
    have h6 := rT_7 hc c1
    refine x_aload_n 0 d_X4_item_16 rfl rfl ?_
    refine x_bipush (x := 9) d_X4_item_17 (by decide) ?_
    refine x_cvi (k := 41) (as := [.int 9]) (c_X4_takes l E μ hn hW hK hO hc hB (w := 9) (by omega)) v_X4_takes w_X4_takes q1054 o_M rfl ⟨Nat.le_of_ble_eq_true rfl, Nat.le_of_ble_eq_true rfl⟩ rfl (Nat.le_of_ble_eq_true rfl) d_X4_item_19 ?_
    rintro _ μ2 ⟨rfl, hK3, hm4, hF5⟩
    obtain ⟨bb, hT6⟩ : ∃ bb, takB false t 9 = bb := ⟨_, rfl⟩
    cases bb
    · refine x_eqst (st' := [.int 0]) (by rw [hT6]; rfl) ?_
      rw [hT6, if_neg Bool.false_ne_true] at hK3
      have hW7 : RW S n μ2 := RW.of hW (hm4 11 (by omega)) (hF5 51 (by omega))
      have hf1610 : μ2 41 16 = x_b false := (hm4 16 (Or.inr rfl)).trans hB
      have hM12 : ∀ j, j < 12 → μ2 41 j = μ 41 j := fun j hj => (hm4 j (by omega)).trans (hM j hj)
      have hR13 := MR.cg hR (μ' := μ2) (fun id hid => (hF5 _ (by omega)))
      have hF14 : ∀ id, (id ≠ 41 ∧ id ≠ 42) → μ2 id = μ id := fun id hid => (show μ2 id = μ id from (hF5 _ (by omega))).trans (hF id hid)
      refine x_if_eq 32 d_X4_item_22 (by decide) (fun c15 => ?_) (fun c15 => ?_)
      rotate_left
      · exact absurd c15 (by decide)
      refine x_aload_n 0 d_X4_item_32 rfl rfl ?_
      refine x_bipush (x := 10) d_X4_item_33 (by decide) ?_
      refine x_cvi (k := 41) (as := [.int 10]) (c_X4_takes l E μ2 hn hW7 hK3 hO hc hf1610 (w := 10) (by omega)) v_X4_takes w_X4_takes q1054 o_M rfl ⟨Nat.le_of_ble_eq_true rfl, Nat.le_of_ble_eq_true rfl⟩ rfl (Nat.le_of_ble_eq_true rfl) d_X4_item_35 ?_
      rintro _ μ16 ⟨rfl, hK17, hm18, hF19⟩
      obtain ⟨bb, hT20⟩ : ∃ bb, takB false t 10 = bb := ⟨_, rfl⟩
      cases bb
      · refine x_eqst (st' := [.int 0]) (by rw [hT20]; rfl) ?_
        rw [hT20, if_neg Bool.false_ne_true] at hK17
        have hW21 : RW S n μ16 := RW.of hW7 (hm18 11 (by omega)) (hF19 51 (by omega))
        have hf1623 : μ16 41 16 = x_b false := (hm18 16 (Or.inr rfl)).trans hf1610
        have hM25 : ∀ j, j < 12 → μ16 41 j = μ 41 j := fun j hj => (hm18 j (by omega)).trans (hM12 j hj)
        have hR27 := MR.cg hR13 (μ' := μ16) (fun id hid => (hF19 _ (by omega)))
        have hF28 : ∀ id, (id ≠ 41 ∧ id ≠ 42) → μ16 id = μ id := fun id hid => (show μ16 id = μ2 id from (hF19 _ (by omega))).trans (hF14 id hid)
        refine x_if_eq 57 d_X4_item_38 (by decide) (fun c29 => ?_) (fun c29 => ?_)
        rotate_left
        · exact absurd c29 (by decide)
        refine x_aload_n 0 d_X4_item_57 rfl rfl ?_
        refine x_bipush (x := 11) d_X4_item_58 (by decide) ?_
        refine x_cvi (k := 41) (as := [.int 11]) (c_X4_takes l E μ16 hn hW21 hK17 hO hc hf1623 (w := 11) (by omega)) v_X4_takes w_X4_takes q1054 o_M rfl ⟨Nat.le_of_ble_eq_true rfl, Nat.le_of_ble_eq_true rfl⟩ rfl (Nat.le_of_ble_eq_true rfl) d_X4_item_60 ?_
        rintro _ μ30 ⟨rfl, hK31, hm32, hF33⟩
        obtain ⟨bb, hT34⟩ : ∃ bb, takB false t 11 = bb := ⟨_, rfl⟩
        cases bb
        · refine x_eqst (st' := [.int 0]) (by rw [hT34]; rfl) ?_
          rw [hT34, if_neg Bool.false_ne_true] at hK31
          have hW35 : RW S n μ30 := RW.of hW21 (hm32 11 (by omega)) (hF33 51 (by omega))
          have hf1637 : μ30 41 16 = x_b false := (hm32 16 (Or.inr rfl)).trans hf1623
          have hM39 : ∀ j, j < 12 → μ30 41 j = μ 41 j := fun j hj => (hm32 j (by omega)).trans (hM25 j hj)
          have hR41 := MR.cg hR27 (μ' := μ30) (fun id hid => (hF33 _ (by omega)))
          have hF42 : ∀ id, (id ≠ 41 ∧ id ≠ 42) → μ30 id = μ id := fun id hid => (show μ30 id = μ16 id from (hF33 _ (by omega))).trans (hF28 id hid)
          refine x_if_eq 82 d_X4_item_63 (by decide) (fun c43 => ?_) (fun c43 => ?_)
          rotate_left
          · exact absurd c43 (by decide)
          refine x_aload_n 0 d_X4_item_82 rfl rfl ?_
          refine x_bipush (x := 12) d_X4_item_83 (by decide) ?_
          refine x_cvi (k := 41) (as := [.int 12]) (c_X4_takes l E μ30 hn hW35 hK31 hO hc hf1637 (w := 12) (by omega)) v_X4_takes w_X4_takes q1054 o_M rfl ⟨Nat.le_of_ble_eq_true rfl, Nat.le_of_ble_eq_true rfl⟩ rfl (Nat.le_of_ble_eq_true rfl) d_X4_item_85 ?_
          rintro _ μ44 ⟨rfl, hK45, hm46, hF47⟩
          obtain ⟨bb, hT48⟩ : ∃ bb, takB false t 12 = bb := ⟨_, rfl⟩
          cases bb
          · refine x_eqst (st' := [.int 0]) (by rw [hT48]; rfl) ?_
            rw [hT48, if_neg Bool.false_ne_true] at hK45
            have hW49 : RW S n μ44 := RW.of hW35 (hm46 11 (by omega)) (hF47 51 (by omega))
            have hf1651 : μ44 41 16 = x_b false := (hm46 16 (Or.inr rfl)).trans hf1637
            have hM53 : ∀ j, j < 12 → μ44 41 j = μ 41 j := fun j hj => (hm46 j (by omega)).trans (hM39 j hj)
            have hR55 := MR.cg hR41 (μ' := μ44) (fun id hid => (hF47 _ (by omega)))
            have hF56 : ∀ id, (id ≠ 41 ∧ id ≠ 42) → μ44 id = μ id := fun id hid => (show μ44 id = μ30 id from (hF47 _ (by omega))).trans (hF42 id hid)
            refine x_if_eq 107 d_X4_item_88 (by decide) (fun c57 => ?_) (fun c57 => ?_)
            rotate_left
            · exact absurd c57 (by decide)
            refine x_aload_n 0 d_X4_item_107 rfl rfl ?_
            refine x_bipush (x := 13) d_X4_item_108 (by decide) ?_
            refine x_cvi (k := 41) (as := [.int 13]) (c_X4_takes l E μ44 hn hW49 hK45 hO hc hf1651 (w := 13) (by omega)) v_X4_takes w_X4_takes q1054 o_M rfl ⟨Nat.le_of_ble_eq_true rfl, Nat.le_of_ble_eq_true rfl⟩ rfl (Nat.le_of_ble_eq_true rfl) d_X4_item_110 ?_
            rintro _ μ58 ⟨rfl, hK59, hm60, hF61⟩
            obtain ⟨bb, hT62⟩ : ∃ bb, takB false t 13 = bb := ⟨_, rfl⟩
            cases bb
            · refine x_eqst (st' := [.int 0]) (by rw [hT62]; rfl) ?_
              rw [hT62, if_neg Bool.false_ne_true] at hK59
              have hW63 : RW S n μ58 := RW.of hW49 (hm60 11 (by omega)) (hF61 51 (by omega))
              have hf1665 : μ58 41 16 = x_b false := (hm60 16 (Or.inr rfl)).trans hf1651
              have hM67 : ∀ j, j < 12 → μ58 41 j = μ 41 j := fun j hj => (hm60 j (by omega)).trans (hM53 j hj)
              have hR69 := MR.cg hR55 (μ' := μ58) (fun id hid => (hF61 _ (by omega)))
              have hF70 : ∀ id, (id ≠ 41 ∧ id ≠ 42) → μ58 id = μ id := fun id hid => (show μ58 id = μ44 id from (hF61 _ (by omega))).trans (hF56 id hid)
              refine x_if_eq 126 d_X4_item_113 (by decide) (fun c71 => ?_) (fun c71 => ?_)
              rotate_left
              · exact absurd c71 (by decide)
              refine x_aload_n 0 d_X4_item_126 rfl rfl ?_
              refine x_bipush (x := 14) d_X4_item_127 (by decide) ?_
              refine x_cvi (k := 41) (as := [.int 14]) (c_X4_takes l E μ58 hn hW63 hK59 hO hc hf1665 (w := 14) (by omega)) v_X4_takes w_X4_takes q1054 o_M rfl ⟨Nat.le_of_ble_eq_true rfl, Nat.le_of_ble_eq_true rfl⟩ rfl (Nat.le_of_ble_eq_true rfl) d_X4_item_129 ?_
              rintro _ μ72 ⟨rfl, hK73, hm74, hF75⟩
              obtain ⟨bb, hT76⟩ : ∃ bb, takB false t 14 = bb := ⟨_, rfl⟩
              cases bb
              · refine x_eqst (st' := [.int 0]) (by rw [hT76]; rfl) ?_
                rw [hT76, if_neg Bool.false_ne_true] at hK73
                have hW77 : RW S n μ72 := RW.of hW63 (hm74 11 (by omega)) (hF75 51 (by omega))
                have hf1679 : μ72 41 16 = x_b false := (hm74 16 (Or.inr rfl)).trans hf1665
                have hM81 : ∀ j, j < 12 → μ72 41 j = μ 41 j := fun j hj => (hm74 j (by omega)).trans (hM67 j hj)
                have hR83 := MR.cg hR69 (μ' := μ72) (fun id hid => (hF75 _ (by omega)))
                have hF84 : ∀ id, (id ≠ 41 ∧ id ≠ 42) → μ72 id = μ id := fun id hid => (show μ72 id = μ58 id from (hF75 _ (by omega))).trans (hF70 id hid)
                refine x_if_eq 145 d_X4_item_132 (by decide) (fun c85 => ?_) (fun c85 => ?_)
                rotate_left
                · exact absurd c85 (by decide)
                refine x_aload_n 0 d_X4_item_145 rfl rfl ?_
                refine x_iconst (x := 1) d_X4_item_146 (by decide) ?_
                refine x_putzG (j := 16) (q := true) x_c4 rfl (Nat.le_of_ble_eq_true rfl) q684 rfl rfl rfl d_X4_item_147 (fun μ86 eμ86 => ?_)
                have hW88 := RW.cw hW77 eμ86 (by decide)
                have hM91 := FM2.cw hM81 eμ86 (by decide)
                have hK92 := RK.cw hK73 eμ86 (by decide)
                have hf16_93 : μ86 41 16 = (x_b true) := by rw [eμ86, upd2_at, upd_s]
                have hR94 := MR.cg hR83 (μ' := μ86) (fun id hid => (by rw [eμ86, upd2_ne _ _ _ (by omega)]))
                have hF95 : ∀ id, (id ≠ 41 ∧ id ≠ 42) → μ86 id = μ id := fun id hid => (show μ86 id = μ72 id from (by rw [eμ86, upd2_ne _ _ _ (by omega)])).trans (hF84 id hid)
                refine x_vret rfl d_X4_item_150 ?_
                have e9 : itemF S n a t = (false, a, t) := by unfold itemF; rw [if_neg h6, if_neg (tak_0 hT6), if_neg (tak_0 hT20), if_neg (tak_0 hT34), if_neg (tak_0 hT48), if_neg (tak_0 hT62), if_neg (tak_0 hT76)]
                rw [e9]
                exact ⟨⟨hf16_93, hK92, fun z => Bool.noConfusion z⟩, hM91, hF95⟩
              · refine x_eqst (st' := [.int 1]) (by rw [hT76]; rfl) ?_
                rw [hT76, if_pos rfl] at hK73
                have hW96 : RW S n μ72 := RW.of hW63 (hm74 11 (by omega)) (hF75 51 (by omega))
                have hf1698 : μ72 41 16 = x_b false := (hm74 16 (Or.inr rfl)).trans hf1665
                have hM100 : ∀ j, j < 12 → μ72 41 j = μ 41 j := fun j hj => (hm74 j (by omega)).trans (hM67 j hj)
                have hR102 := MR.cg hR69 (μ' := μ72) (fun id hid => (hF75 _ (by omega)))
                have hF103 : ∀ id, (id ≠ 41 ∧ id ≠ 42) → μ72 id = μ id := fun id hid => (show μ72 id = μ58 id from (hF75 _ (by omega))).trans (hF70 id hid)
                refine x_if_eq 145 d_X4_item_132 (by decide) (fun c104 => ?_) (fun c104 => ?_)
                · exact absurd c104 (by decide)
                refine x_aload_n 0 d_X4_item_135 rfl rfl ?_
                refine x_getr (j := 0) 42 x_c4 rfl (Nat.le_of_ble_eq_true rfl) q668 rfl d_X4_item_136 ?_
                refine x_iconst (x := 2) d_X4_item_139 (by decide) ?_
                refine x_iconst (x := 0) d_X4_item_140 (by decide) ?_
                refine x_iastNG 58 2 rfl rfl (by omega) (by decide) d_X4_item_141 (fun μ105 eμ105 => ?_)
                have hR106 : MR (upd a (2) 0) μ105 := MR.w hR102 eμ105
                have hW107 := RW.cg hW96 (μ' := μ105) (fun id hid => (by rw [eμ105, upd2_ne _ _ _ (by omega)]))
                have hf16108 := FLD.cg hf1698 (μ' := μ105) (fun id hid => (by rw [eμ105, upd2_ne _ _ _ (by omega)]))
                have hF109 : ∀ id, (id ≠ 41 ∧ id ≠ 42) → μ105 id = μ id := fun id hid => (show μ105 id = μ72 id from (by rw [eμ105, upd2_ne _ _ _ (by omega)])).trans (hF103 id hid)
                have hM110 := FM2.cg hM100 (μ' := μ105) (fun id hid => (by rw [eμ105, upd2_ne _ _ _ (by omega)]))
                have hK111 := RK.cg hK73 (μ' := μ105) (fun id hid => (by rw [eμ105, upd2_ne _ _ _ (by omega)]))
                refine x_goto 150 d_X4_item_142 (by decide) ?_
                refine x_vret rfl d_X4_item_150 ?_
                have e9 : itemF S n a t = (true, upd a 2 0, tokAt S n (tkE t)) := by unfold itemF; rw [if_neg h6, if_neg (tak_0 hT6), if_neg (tak_0 hT20), if_neg (tak_0 hT34), if_neg (tak_0 hT48), if_neg (tak_0 hT62), if_pos (tak_1 hT76)]
                rw [e9]
                exact ⟨⟨hf16108, hK111, fun _ => hR106⟩, hM110, hF109⟩
            · refine x_eqst (st' := [.int 1]) (by rw [hT62]; rfl) ?_
              rw [hT62, if_pos rfl] at hK59
              have hW112 : RW S n μ58 := RW.of hW49 (hm60 11 (by omega)) (hF61 51 (by omega))
              have hf16114 : μ58 41 16 = x_b false := (hm60 16 (Or.inr rfl)).trans hf1651
              have hM116 : ∀ j, j < 12 → μ58 41 j = μ 41 j := fun j hj => (hm60 j (by omega)).trans (hM53 j hj)
              have hR118 := MR.cg hR55 (μ' := μ58) (fun id hid => (hF61 _ (by omega)))
              have hF119 : ∀ id, (id ≠ 41 ∧ id ≠ 42) → μ58 id = μ id := fun id hid => (show μ58 id = μ44 id from (hF61 _ (by omega))).trans (hF56 id hid)
              refine x_if_eq 126 d_X4_item_113 (by decide) (fun c120 => ?_) (fun c120 => ?_)
              · exact absurd c120 (by decide)
              refine x_aload_n 0 d_X4_item_116 rfl rfl ?_
              refine x_getr (j := 0) 42 x_c4 rfl (Nat.le_of_ble_eq_true rfl) q668 rfl d_X4_item_117 ?_
              refine x_iconst (x := 2) d_X4_item_120 (by decide) ?_
              refine x_iconst (x := 1) d_X4_item_121 (by decide) ?_
              refine x_iastNG 58 2 rfl rfl (by omega) (by decide) d_X4_item_122 (fun μ121 eμ121 => ?_)
              have hR122 : MR (upd a (2) 1) μ121 := MR.w hR118 eμ121
              have hW123 := RW.cg hW112 (μ' := μ121) (fun id hid => (by rw [eμ121, upd2_ne _ _ _ (by omega)]))
              have hf16124 := FLD.cg hf16114 (μ' := μ121) (fun id hid => (by rw [eμ121, upd2_ne _ _ _ (by omega)]))
              have hF125 : ∀ id, (id ≠ 41 ∧ id ≠ 42) → μ121 id = μ id := fun id hid => (show μ121 id = μ58 id from (by rw [eμ121, upd2_ne _ _ _ (by omega)])).trans (hF119 id hid)
              have hM126 := FM2.cg hM116 (μ' := μ121) (fun id hid => (by rw [eμ121, upd2_ne _ _ _ (by omega)]))
              have hK127 := RK.cg hK59 (μ' := μ121) (fun id hid => (by rw [eμ121, upd2_ne _ _ _ (by omega)]))
              refine x_goto 150 d_X4_item_123 (by decide) ?_
              refine x_vret rfl d_X4_item_150 ?_
              have e9 : itemF S n a t = (true, upd a 2 1, tokAt S n (tkE t)) := by unfold itemF; rw [if_neg h6, if_neg (tak_0 hT6), if_neg (tak_0 hT20), if_neg (tak_0 hT34), if_neg (tak_0 hT48), if_pos (tak_1 hT62)]
              rw [e9]
              exact ⟨⟨hf16124, hK127, fun _ => hR122⟩, hM126, hF125⟩
          · refine x_eqst (st' := [.int 1]) (by rw [hT48]; rfl) ?_
            rw [hT48, if_pos rfl] at hK45
            have hW128 : RW S n μ44 := RW.of hW35 (hm46 11 (by omega)) (hF47 51 (by omega))
            have hf16130 : μ44 41 16 = x_b false := (hm46 16 (Or.inr rfl)).trans hf1637
            have hM132 : ∀ j, j < 12 → μ44 41 j = μ 41 j := fun j hj => (hm46 j (by omega)).trans (hM39 j hj)
            have hR134 := MR.cg hR41 (μ' := μ44) (fun id hid => (hF47 _ (by omega)))
            have hF135 : ∀ id, (id ≠ 41 ∧ id ≠ 42) → μ44 id = μ id := fun id hid => (show μ44 id = μ30 id from (hF47 _ (by omega))).trans (hF42 id hid)
            refine x_if_eq 107 d_X4_item_88 (by decide) (fun c136 => ?_) (fun c136 => ?_)
            · exact absurd c136 (by decide)
            refine x_aload_n 0 d_X4_item_91 rfl rfl ?_
            refine x_getr (j := 0) 42 x_c4 rfl (Nat.le_of_ble_eq_true rfl) q668 rfl d_X4_item_92 ?_
            refine x_iconst (x := 4) d_X4_item_95 (by decide) ?_
            refine x_aload_n 0 d_X4_item_96 rfl rfl ?_
            refine x_iconst (x := 0) d_X4_item_97 (by decide) ?_
            refine x_bipush (x := 20) d_X4_item_98 (by decide) ?_
            refine x_cvi (k := 41) (as := [.int 0, .int 20]) (c_X4_number l E μ44 hn hW128 hK45 (tok_TO S (hO.2.1)) (tok_c S n _) hf16130 (N := 20) (by decide)) v_X4_number w_X4_number q1058 o_M rfl ⟨Nat.le_of_ble_eq_true rfl, Nat.le_of_ble_eq_true rfl⟩ rfl (Nat.le_of_ble_eq_true rfl) d_X4_item_100 ?_
            rintro z144 μ137 ⟨hv142, hb143, hK138, hm139, hF140⟩
            rw [show (false || !numOk (tokAt S n (tkE t)) (nI 20)) = !numOk (tokAt S n (tkE t)) (nI 20) from by rfl] at hb143 hK138
            obtain ⟨bb, hT141⟩ : ∃ bb, numOk (tokAt S n (tkE t)) (nI 20) = bb := ⟨_, rfl⟩
            cases bb
            · rw [hT141] at hb143 hK138
              rw [if_pos (show (!false) = true from rfl)] at hK138
              have hW145 : RW S n μ137 := RW.of hW128 (hm139 11 (by omega)) (hF140 51 (by omega))
              have hM149 : ∀ j, j < 12 → μ137 41 j = μ 41 j := fun j hj => (hm139 j (by omega)).trans (hM132 j hj)
              have hR151 := MR.cg hR134 (μ' := μ137) (fun id hid => (hF140 _ (by omega)))
              have hF152 : ∀ id, (id ≠ 41 ∧ id ≠ 42) → μ137 id = μ id := fun id hid => (show μ137 id = μ44 id from (hF140 _ (by omega))).trans (hF135 id hid)
              replace hb143 : μ137 41 16 = x_b true := hb143
              refine x_iastNG 58 4 rfl rfl (by omega) (by decide) d_X4_item_103 (fun μ153 eμ153 => ?_)
              have hR154 : MR (upd a (4) z144) μ153 := MR.w hR151 eμ153
              have hW155 := RW.cg hW145 (μ' := μ153) (fun id hid => (by rw [eμ153, upd2_ne _ _ _ (by omega)]))
              have hF156 : ∀ id, (id ≠ 41 ∧ id ≠ 42) → μ153 id = μ id := fun id hid => (show μ153 id = μ137 id from (by rw [eμ153, upd2_ne _ _ _ (by omega)])).trans (hF152 id hid)
              have hM157 := FM2.cg hM149 (μ' := μ153) (fun id hid => (by rw [eμ153, upd2_ne _ _ _ (by omega)]))
              have hK158 := RK.cg hK138 (μ' := μ153) (fun id hid => (by rw [eμ153, upd2_ne _ _ _ (by omega)]))
              have hf16159 := FLD.cg hb143 (μ' := μ153) (fun id hid => (by rw [eμ153, upd2_ne _ _ _ (by omega)]))
              refine x_goto 150 d_X4_item_104 (by decide) ?_
              refine x_vret rfl d_X4_item_150 ?_
              have e9 : itemF S n a t = (false, a, (tokAt S n (tkE t))) := by unfold itemF; rw [if_neg h6, if_neg (tak_0 hT6), if_neg (tak_0 hT20), if_neg (tak_0 hT34), if_pos (tak_1 hT48)]; unfold putF; rw [if_neg (by rw [show numOk (tokAt S n (tkE t)) 20 = false from hT141]; decide)]
              rw [e9]
              exact ⟨⟨hf16159, hK158, fun z => Bool.noConfusion z⟩, hM157, hF156⟩
            · rw [hT141] at hb143 hK138
              rw [if_neg (show ¬ (!true) = true by decide)] at hK138
              rw [hv142 hT141]
              have hW160 : RW S n μ137 := RW.of hW128 (hm139 11 (by omega)) (hF140 51 (by omega))
              have hM164 : ∀ j, j < 12 → μ137 41 j = μ 41 j := fun j hj => (hm139 j (by omega)).trans (hM132 j hj)
              have hR166 := MR.cg hR134 (μ' := μ137) (fun id hid => (hF140 _ (by omega)))
              have hF167 : ∀ id, (id ≠ 41 ∧ id ≠ 42) → μ137 id = μ id := fun id hid => (show μ137 id = μ44 id from (hF140 _ (by omega))).trans (hF135 id hid)
              replace hb143 : μ137 41 16 = x_b false := hb143
              refine x_iastNG 58 4 rfl rfl (by omega) (by decide) d_X4_item_103 (fun μ168 eμ168 => ?_)
              have hR169 : MR (upd a (4) (tkV (tokAt S n (tkE t)))) μ168 := MR.w hR166 eμ168
              have hW170 := RW.cg hW160 (μ' := μ168) (fun id hid => (by rw [eμ168, upd2_ne _ _ _ (by omega)]))
              have hF171 : ∀ id, (id ≠ 41 ∧ id ≠ 42) → μ168 id = μ id := fun id hid => (show μ168 id = μ137 id from (by rw [eμ168, upd2_ne _ _ _ (by omega)])).trans (hF167 id hid)
              have hM172 := FM2.cg hM164 (μ' := μ168) (fun id hid => (by rw [eμ168, upd2_ne _ _ _ (by omega)]))
              have hK173 := RK.cg hK138 (μ' := μ168) (fun id hid => (by rw [eμ168, upd2_ne _ _ _ (by omega)]))
              have hf16174 := FLD.cg hb143 (μ' := μ168) (fun id hid => (by rw [eμ168, upd2_ne _ _ _ (by omega)]))
              refine x_goto 150 d_X4_item_104 (by decide) ?_
              refine x_vret rfl d_X4_item_150 ?_
              have e9 : itemF S n a t = (true, upd a 4 (tkV (tokAt S n (tkE t))), tokAt S n (tkE (tokAt S n (tkE t)))) := by unfold itemF; rw [if_neg h6, if_neg (tak_0 hT6), if_neg (tak_0 hT20), if_neg (tak_0 hT34), if_pos (tak_1 hT48)]; unfold putF; rw [if_pos (show numOk (tokAt S n (tkE t)) 20 = true from hT141)]
              rw [e9]
              exact ⟨⟨hf16174, hK173, fun _ => hR169⟩, hM172, hF171⟩
        · refine x_eqst (st' := [.int 1]) (by rw [hT34]; rfl) ?_
          rw [hT34, if_pos rfl] at hK31
          have hW175 : RW S n μ30 := RW.of hW21 (hm32 11 (by omega)) (hF33 51 (by omega))
          have hf16177 : μ30 41 16 = x_b false := (hm32 16 (Or.inr rfl)).trans hf1623
          have hM179 : ∀ j, j < 12 → μ30 41 j = μ 41 j := fun j hj => (hm32 j (by omega)).trans (hM25 j hj)
          have hR181 := MR.cg hR27 (μ' := μ30) (fun id hid => (hF33 _ (by omega)))
          have hF182 : ∀ id, (id ≠ 41 ∧ id ≠ 42) → μ30 id = μ id := fun id hid => (show μ30 id = μ16 id from (hF33 _ (by omega))).trans (hF28 id hid)
          refine x_if_eq 82 d_X4_item_63 (by decide) (fun c183 => ?_) (fun c183 => ?_)
          · exact absurd c183 (by decide)
          refine x_aload_n 0 d_X4_item_66 rfl rfl ?_
          refine x_getr (j := 0) 42 x_c4 rfl (Nat.le_of_ble_eq_true rfl) q668 rfl d_X4_item_67 ?_
          refine x_iconst (x := 3) d_X4_item_70 (by decide) ?_
          refine x_aload_n 0 d_X4_item_71 rfl rfl ?_
          refine x_iconst (x := 0) d_X4_item_72 (by decide) ?_
          refine x_bipush (x := 20) d_X4_item_73 (by decide) ?_
          refine x_cvi (k := 41) (as := [.int 0, .int 20]) (c_X4_number l E μ30 hn hW175 hK31 (tok_TO S (hO.2.1)) (tok_c S n _) hf16177 (N := 20) (by decide)) v_X4_number w_X4_number q1058 o_M rfl ⟨Nat.le_of_ble_eq_true rfl, Nat.le_of_ble_eq_true rfl⟩ rfl (Nat.le_of_ble_eq_true rfl) d_X4_item_75 ?_
          rintro z191 μ184 ⟨hv189, hb190, hK185, hm186, hF187⟩
          rw [show (false || !numOk (tokAt S n (tkE t)) (nI 20)) = !numOk (tokAt S n (tkE t)) (nI 20) from by rfl] at hb190 hK185
          obtain ⟨bb, hT188⟩ : ∃ bb, numOk (tokAt S n (tkE t)) (nI 20) = bb := ⟨_, rfl⟩
          cases bb
          · rw [hT188] at hb190 hK185
            rw [if_pos (show (!false) = true from rfl)] at hK185
            have hW192 : RW S n μ184 := RW.of hW175 (hm186 11 (by omega)) (hF187 51 (by omega))
            have hM196 : ∀ j, j < 12 → μ184 41 j = μ 41 j := fun j hj => (hm186 j (by omega)).trans (hM179 j hj)
            have hR198 := MR.cg hR181 (μ' := μ184) (fun id hid => (hF187 _ (by omega)))
            have hF199 : ∀ id, (id ≠ 41 ∧ id ≠ 42) → μ184 id = μ id := fun id hid => (show μ184 id = μ30 id from (hF187 _ (by omega))).trans (hF182 id hid)
            replace hb190 : μ184 41 16 = x_b true := hb190
            refine x_iastNG 58 3 rfl rfl (by omega) (by decide) d_X4_item_78 (fun μ200 eμ200 => ?_)
            have hR201 : MR (upd a (3) z191) μ200 := MR.w hR198 eμ200
            have hW202 := RW.cg hW192 (μ' := μ200) (fun id hid => (by rw [eμ200, upd2_ne _ _ _ (by omega)]))
            have hF203 : ∀ id, (id ≠ 41 ∧ id ≠ 42) → μ200 id = μ id := fun id hid => (show μ200 id = μ184 id from (by rw [eμ200, upd2_ne _ _ _ (by omega)])).trans (hF199 id hid)
            have hM204 := FM2.cg hM196 (μ' := μ200) (fun id hid => (by rw [eμ200, upd2_ne _ _ _ (by omega)]))
            have hK205 := RK.cg hK185 (μ' := μ200) (fun id hid => (by rw [eμ200, upd2_ne _ _ _ (by omega)]))
            have hf16206 := FLD.cg hb190 (μ' := μ200) (fun id hid => (by rw [eμ200, upd2_ne _ _ _ (by omega)]))
            refine x_goto 150 d_X4_item_79 (by decide) ?_
            refine x_vret rfl d_X4_item_150 ?_
            have e9 : itemF S n a t = (false, a, (tokAt S n (tkE t))) := by unfold itemF; rw [if_neg h6, if_neg (tak_0 hT6), if_neg (tak_0 hT20), if_pos (tak_1 hT34)]; unfold putF; rw [if_neg (by rw [show numOk (tokAt S n (tkE t)) 20 = false from hT188]; decide)]
            rw [e9]
            exact ⟨⟨hf16206, hK205, fun z => Bool.noConfusion z⟩, hM204, hF203⟩
          · rw [hT188] at hb190 hK185
            rw [if_neg (show ¬ (!true) = true by decide)] at hK185
            rw [hv189 hT188]
            have hW207 : RW S n μ184 := RW.of hW175 (hm186 11 (by omega)) (hF187 51 (by omega))
            have hM211 : ∀ j, j < 12 → μ184 41 j = μ 41 j := fun j hj => (hm186 j (by omega)).trans (hM179 j hj)
            have hR213 := MR.cg hR181 (μ' := μ184) (fun id hid => (hF187 _ (by omega)))
            have hF214 : ∀ id, (id ≠ 41 ∧ id ≠ 42) → μ184 id = μ id := fun id hid => (show μ184 id = μ30 id from (hF187 _ (by omega))).trans (hF182 id hid)
            replace hb190 : μ184 41 16 = x_b false := hb190
            refine x_iastNG 58 3 rfl rfl (by omega) (by decide) d_X4_item_78 (fun μ215 eμ215 => ?_)
            have hR216 : MR (upd a (3) (tkV (tokAt S n (tkE t)))) μ215 := MR.w hR213 eμ215
            have hW217 := RW.cg hW207 (μ' := μ215) (fun id hid => (by rw [eμ215, upd2_ne _ _ _ (by omega)]))
            have hF218 : ∀ id, (id ≠ 41 ∧ id ≠ 42) → μ215 id = μ id := fun id hid => (show μ215 id = μ184 id from (by rw [eμ215, upd2_ne _ _ _ (by omega)])).trans (hF214 id hid)
            have hM219 := FM2.cg hM211 (μ' := μ215) (fun id hid => (by rw [eμ215, upd2_ne _ _ _ (by omega)]))
            have hK220 := RK.cg hK185 (μ' := μ215) (fun id hid => (by rw [eμ215, upd2_ne _ _ _ (by omega)]))
            have hf16221 := FLD.cg hb190 (μ' := μ215) (fun id hid => (by rw [eμ215, upd2_ne _ _ _ (by omega)]))
            refine x_goto 150 d_X4_item_79 (by decide) ?_
            refine x_vret rfl d_X4_item_150 ?_
            have e9 : itemF S n a t = (true, upd a 3 (tkV (tokAt S n (tkE t))), tokAt S n (tkE (tokAt S n (tkE t)))) := by unfold itemF; rw [if_neg h6, if_neg (tak_0 hT6), if_neg (tak_0 hT20), if_pos (tak_1 hT34)]; unfold putF; rw [if_pos (show numOk (tokAt S n (tkE t)) 20 = true from hT188)]
            rw [e9]
            exact ⟨⟨hf16221, hK220, fun _ => hR216⟩, hM219, hF218⟩
      · refine x_eqst (st' := [.int 1]) (by rw [hT20]; rfl) ?_
        rw [hT20, if_pos rfl] at hK17
        have hW222 : RW S n μ16 := RW.of hW7 (hm18 11 (by omega)) (hF19 51 (by omega))
        have hf16224 : μ16 41 16 = x_b false := (hm18 16 (Or.inr rfl)).trans hf1610
        have hM226 : ∀ j, j < 12 → μ16 41 j = μ 41 j := fun j hj => (hm18 j (by omega)).trans (hM12 j hj)
        have hR228 := MR.cg hR13 (μ' := μ16) (fun id hid => (hF19 _ (by omega)))
        have hF229 : ∀ id, (id ≠ 41 ∧ id ≠ 42) → μ16 id = μ id := fun id hid => (show μ16 id = μ2 id from (hF19 _ (by omega))).trans (hF14 id hid)
        refine x_if_eq 57 d_X4_item_38 (by decide) (fun c230 => ?_) (fun c230 => ?_)
        · exact absurd c230 (by decide)
        refine x_aload_n 0 d_X4_item_41 rfl rfl ?_
        refine x_getr (j := 0) 42 x_c4 rfl (Nat.le_of_ble_eq_true rfl) q668 rfl d_X4_item_42 ?_
        refine x_iconst (x := 1) d_X4_item_45 (by decide) ?_
        refine x_aload_n 0 d_X4_item_46 rfl rfl ?_
        refine x_iconst (x := 0) d_X4_item_47 (by decide) ?_
        refine x_bipush (x := 16) d_X4_item_48 (by decide) ?_
        refine x_cvi (k := 41) (as := [.int 0, .int 16]) (c_X4_number l E μ16 hn hW222 hK17 (tok_TO S (hO.2.1)) (tok_c S n _) hf16224 (N := 16) (by decide)) v_X4_number w_X4_number q1058 o_M rfl ⟨Nat.le_of_ble_eq_true rfl, Nat.le_of_ble_eq_true rfl⟩ rfl (Nat.le_of_ble_eq_true rfl) d_X4_item_50 ?_
        rintro z238 μ231 ⟨hv236, hb237, hK232, hm233, hF234⟩
        rw [show (false || !numOk (tokAt S n (tkE t)) (nI 16)) = !numOk (tokAt S n (tkE t)) (nI 16) from by rfl] at hb237 hK232
        obtain ⟨bb, hT235⟩ : ∃ bb, numOk (tokAt S n (tkE t)) (nI 16) = bb := ⟨_, rfl⟩
        cases bb
        · rw [hT235] at hb237 hK232
          rw [if_pos (show (!false) = true from rfl)] at hK232
          have hW239 : RW S n μ231 := RW.of hW222 (hm233 11 (by omega)) (hF234 51 (by omega))
          have hM243 : ∀ j, j < 12 → μ231 41 j = μ 41 j := fun j hj => (hm233 j (by omega)).trans (hM226 j hj)
          have hR245 := MR.cg hR228 (μ' := μ231) (fun id hid => (hF234 _ (by omega)))
          have hF246 : ∀ id, (id ≠ 41 ∧ id ≠ 42) → μ231 id = μ id := fun id hid => (show μ231 id = μ16 id from (hF234 _ (by omega))).trans (hF229 id hid)
          replace hb237 : μ231 41 16 = x_b true := hb237
          refine x_iastNG 58 1 rfl rfl (by omega) (by decide) d_X4_item_53 (fun μ247 eμ247 => ?_)
          have hR248 : MR (upd a (1) z238) μ247 := MR.w hR245 eμ247
          have hW249 := RW.cg hW239 (μ' := μ247) (fun id hid => (by rw [eμ247, upd2_ne _ _ _ (by omega)]))
          have hF250 : ∀ id, (id ≠ 41 ∧ id ≠ 42) → μ247 id = μ id := fun id hid => (show μ247 id = μ231 id from (by rw [eμ247, upd2_ne _ _ _ (by omega)])).trans (hF246 id hid)
          have hM251 := FM2.cg hM243 (μ' := μ247) (fun id hid => (by rw [eμ247, upd2_ne _ _ _ (by omega)]))
          have hK252 := RK.cg hK232 (μ' := μ247) (fun id hid => (by rw [eμ247, upd2_ne _ _ _ (by omega)]))
          have hf16253 := FLD.cg hb237 (μ' := μ247) (fun id hid => (by rw [eμ247, upd2_ne _ _ _ (by omega)]))
          refine x_goto 150 d_X4_item_54 (by decide) ?_
          refine x_vret rfl d_X4_item_150 ?_
          have e9 : itemF S n a t = (false, a, (tokAt S n (tkE t))) := by unfold itemF; rw [if_neg h6, if_neg (tak_0 hT6), if_pos (tak_1 hT20)]; unfold putF; rw [if_neg (by rw [show numOk (tokAt S n (tkE t)) 16 = false from hT235]; decide)]
          rw [e9]
          exact ⟨⟨hf16253, hK252, fun z => Bool.noConfusion z⟩, hM251, hF250⟩
        · rw [hT235] at hb237 hK232
          rw [if_neg (show ¬ (!true) = true by decide)] at hK232
          rw [hv236 hT235]
          have hW254 : RW S n μ231 := RW.of hW222 (hm233 11 (by omega)) (hF234 51 (by omega))
          have hM258 : ∀ j, j < 12 → μ231 41 j = μ 41 j := fun j hj => (hm233 j (by omega)).trans (hM226 j hj)
          have hR260 := MR.cg hR228 (μ' := μ231) (fun id hid => (hF234 _ (by omega)))
          have hF261 : ∀ id, (id ≠ 41 ∧ id ≠ 42) → μ231 id = μ id := fun id hid => (show μ231 id = μ16 id from (hF234 _ (by omega))).trans (hF229 id hid)
          replace hb237 : μ231 41 16 = x_b false := hb237
          refine x_iastNG 58 1 rfl rfl (by omega) (by decide) d_X4_item_53 (fun μ262 eμ262 => ?_)
          have hR263 : MR (upd a (1) (tkV (tokAt S n (tkE t)))) μ262 := MR.w hR260 eμ262
          have hW264 := RW.cg hW254 (μ' := μ262) (fun id hid => (by rw [eμ262, upd2_ne _ _ _ (by omega)]))
          have hF265 : ∀ id, (id ≠ 41 ∧ id ≠ 42) → μ262 id = μ id := fun id hid => (show μ262 id = μ231 id from (by rw [eμ262, upd2_ne _ _ _ (by omega)])).trans (hF261 id hid)
          have hM266 := FM2.cg hM258 (μ' := μ262) (fun id hid => (by rw [eμ262, upd2_ne _ _ _ (by omega)]))
          have hK267 := RK.cg hK232 (μ' := μ262) (fun id hid => (by rw [eμ262, upd2_ne _ _ _ (by omega)]))
          have hf16268 := FLD.cg hb237 (μ' := μ262) (fun id hid => (by rw [eμ262, upd2_ne _ _ _ (by omega)]))
          refine x_goto 150 d_X4_item_54 (by decide) ?_
          refine x_vret rfl d_X4_item_150 ?_
          have e9 : itemF S n a t = (true, upd a 1 (tkV (tokAt S n (tkE t))), tokAt S n (tkE (tokAt S n (tkE t)))) := by unfold itemF; rw [if_neg h6, if_neg (tak_0 hT6), if_pos (tak_1 hT20)]; unfold putF; rw [if_pos (show numOk (tokAt S n (tkE t)) 16 = true from hT235)]
          rw [e9]
          exact ⟨⟨hf16268, hK267, fun _ => hR263⟩, hM266, hF265⟩
    · refine x_eqst (st' := [.int 1]) (by rw [hT6]; rfl) ?_
      rw [hT6, if_pos rfl] at hK3
      have hW269 : RW S n μ2 := RW.of hW (hm4 11 (by omega)) (hF5 51 (by omega))
      have hf16272 : μ2 41 16 = x_b false := (hm4 16 (Or.inr rfl)).trans hB
      have hM274 : ∀ j, j < 12 → μ2 41 j = μ 41 j := fun j hj => (hm4 j (by omega)).trans (hM j hj)
      have hR275 := MR.cg hR (μ' := μ2) (fun id hid => (hF5 _ (by omega)))
      have hF276 : ∀ id, (id ≠ 41 ∧ id ≠ 42) → μ2 id = μ id := fun id hid => (show μ2 id = μ id from (hF5 _ (by omega))).trans (hF id hid)
      refine x_if_eq 32 d_X4_item_22 (by decide) (fun c277 => ?_) (fun c277 => ?_)
      · exact absurd c277 (by decide)
      refine x_aload_n 0 d_X4_item_25 rfl rfl ?_
      refine x_cvv (k := 41) (as := []) (c_X4_needItem l E μ2 hn hW269 hO hK3 hf16272 hR275 hI) v_X4_needItem w_X4_needItem q1062 o_M rfl ⟨Nat.le_of_ble_eq_true rfl, Nat.le_of_ble_eq_true rfl⟩ rfl (Nat.le_of_ble_eq_true rfl) d_X4_item_26 ?_
      rintro μ278 ⟨hi279, hm280, hF281⟩
      have hM282 : ∀ j, j < 12 → μ278 41 j = μ 41 j := fun j hj => (hm280 j hj).trans (hM274 j hj)
      have hF283 : ∀ id, (id ≠ 41 ∧ id ≠ 42) → μ278 id = μ id := fun id hid => (show μ278 id = μ2 id from (hF281 _ (by omega))).trans (hF276 id hid)
      refine x_goto 150 d_X4_item_29 (by decide) ?_
      refine x_vret rfl d_X4_item_150 ?_
      have e9 : itemF S n a t = needF S n a t := by unfold itemF; rw [if_neg h6, if_pos (tak_1 hT6)]
      rw [e9]
      exact ⟨hi279, hM282, hF283⟩
  · skip
    have h6 := rT_6 hc c1
    refine x_aload_n 0 d_X4_item_9 rfl rfl ?_
    refine x_cvv (k := 41) (as := []) (c_X4_oneItem l E μ hn hW hK hO hc hB hR hI h6) v_X4_oneItem w_X4_oneItem q1046 o_M rfl ⟨Nat.le_of_ble_eq_true rfl, Nat.le_of_ble_eq_true rfl⟩ rfl (Nat.le_of_ble_eq_true rfl) d_X4_item_10 ?_
    rintro μ284 ⟨hi285, hm286, hF287⟩
    have hM288 : ∀ j, j < 12 → μ284 41 j = μ 41 j := fun j hj => (hm286 j hj).trans (hM j hj)
    have hF289 : ∀ id, (id ≠ 41 ∧ id ≠ 42) → μ284 id = μ id := fun id hid => (show μ284 id = μ id from (hF287 _ (by omega))).trans (hF id hid)
    refine x_goto 150 d_X4_item_13 (by decide) ?_
    refine x_vret rfl d_X4_item_150 ?_
    have e9 : itemF S n a t = newF S n a (tkC t) t := by unfold itemF; rw [if_pos h6]
    rw [e9]
    exact ⟨hi285, hM288, hF289⟩
