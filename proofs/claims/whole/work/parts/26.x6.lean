def m_X3_odds : x_M := (yX3_odds, prog_1_method_39_code, 12, (some FieldType.long), 6, 140)
theorem v_X3_odds : x_VM m_X3_odds 2 := ⟨q460, q1, by decide +kernel, by decide +kernel, by decide +kernel⟩
theorem w_X3_odds : x_VI m_X3_odds := ⟨q458, q459⟩
theorem d_X3_odds_0 : x_dec m_X3_odds 0 (.iload_n 1) 1 1 := ⟨by decide +kernel, rfl⟩
theorem d_X3_odds_1 : x_dec m_X3_odds 1 (.iconst 0) 1 2 := ⟨by decide +kernel, rfl⟩
theorem d_X3_odds_2 : x_dec m_X3_odds 2 (.bipush 14) 2 4 := ⟨by decide +kernel, rfl⟩
theorem d_X3_odds_4 : x_dec m_X3_odds 4 (.invokestatic 51) 3 7 := ⟨by decide +kernel, rfl⟩
theorem d_X3_odds_7 : x_dec m_X3_odds 7 (.ifCond .eq 12) 3 10 := ⟨by decide +kernel, rfl⟩
theorem d_X3_odds_10 : x_dec m_X3_odds 10 (.iload_n 2) 1 11 := ⟨by decide +kernel, rfl⟩
theorem d_X3_odds_11 : x_dec m_X3_odds 11 (.iconst 0) 1 12 := ⟨by decide +kernel, rfl⟩
theorem d_X3_odds_12 : x_dec m_X3_odds 12 (.iconst 1) 1 13 := ⟨by decide +kernel, rfl⟩
theorem d_X3_odds_13 : x_dec m_X3_odds 13 (.invokestatic 51) 3 16 := ⟨by decide +kernel, rfl⟩
theorem d_X3_odds_16 : x_dec m_X3_odds 16 (.ifCond .ne 11) 3 19 := ⟨by decide +kernel, rfl⟩
theorem d_X3_odds_19 : x_dec m_X3_odds 19 (.aload_n 0) 1 20 := ⟨by decide +kernel, rfl⟩
theorem d_X3_odds_20 : x_dec m_X3_odds 20 (.ldc 55) 2 22 := ⟨by decide +kernel, rfl⟩
theorem d_X3_odds_22 : x_dec m_X3_odds 22 (.invokevirtual 56) 3 25 := ⟨by decide +kernel, rfl⟩
theorem d_X3_odds_25 : x_dec m_X3_odds 25 (.i2l) 1 26 := ⟨by decide +kernel, rfl⟩
theorem d_X3_odds_26 : x_dec m_X3_odds 26 (.lreturn) 1 27 := ⟨by decide +kernel, rfl⟩
theorem d_X3_odds_27 : x_dec m_X3_odds 27 (.aload_n 0) 1 28 := ⟨by decide +kernel, rfl⟩
theorem d_X3_odds_28 : x_dec m_X3_odds 28 (.getfield 12) 3 31 := ⟨by decide +kernel, rfl⟩
theorem d_X3_odds_31 : x_dec m_X3_odds 31 (.invokevirtual 124) 3 34 := ⟨by decide +kernel, rfl⟩
theorem d_X3_odds_34 : x_dec m_X3_odds 34 (.invokestatic 155) 3 37 := ⟨by decide +kernel, rfl⟩
theorem d_X3_odds_37 : x_dec m_X3_odds 37 (.i2l) 1 38 := ⟨by decide +kernel, rfl⟩
theorem d_X3_odds_38 : x_dec m_X3_odds 38 (.lstore_n 3) 1 39 := ⟨by decide +kernel, rfl⟩
theorem d_X3_odds_39 : x_dec m_X3_odds 39 (.ldc2_w 214) 3 42 := ⟨by decide +kernel, rfl⟩
theorem d_X3_odds_42 : x_dec m_X3_odds 42 (.lstore 5) 2 44 := ⟨by decide +kernel, rfl⟩
theorem d_X3_odds_44 : x_dec m_X3_odds 44 (.lload 5) 2 46 := ⟨by decide +kernel, rfl⟩
theorem d_X3_odds_46 : x_dec m_X3_odds 46 (.lconst 1) 1 47 := ⟨by decide +kernel, rfl⟩
theorem d_X3_odds_47 : x_dec m_X3_odds 47 (.lcmp) 1 48 := ⟨by decide +kernel, rfl⟩
theorem d_X3_odds_48 : x_dec m_X3_odds 48 (.ifCond .le 28) 3 51 := ⟨by decide +kernel, rfl⟩
theorem d_X3_odds_51 : x_dec m_X3_odds 51 (.lload_n 3) 1 52 := ⟨by decide +kernel, rfl⟩
theorem d_X3_odds_52 : x_dec m_X3_odds 52 (.lconst 1) 1 53 := ⟨by decide +kernel, rfl⟩
theorem d_X3_odds_53 : x_dec m_X3_odds 53 (.land) 1 54 := ⟨by decide +kernel, rfl⟩
theorem d_X3_odds_54 : x_dec m_X3_odds 54 (.lconst 0) 1 55 := ⟨by decide +kernel, rfl⟩
theorem d_X3_odds_55 : x_dec m_X3_odds 55 (.lcmp) 1 56 := ⟨by decide +kernel, rfl⟩
theorem d_X3_odds_56 : x_dec m_X3_odds 56 (.ifCond .ne 20) 3 59 := ⟨by decide +kernel, rfl⟩
theorem d_X3_odds_59 : x_dec m_X3_odds 59 (.lload_n 3) 1 60 := ⟨by decide +kernel, rfl⟩
theorem d_X3_odds_60 : x_dec m_X3_odds 60 (.ldc2_w 216) 3 63 := ⟨by decide +kernel, rfl⟩
theorem d_X3_odds_63 : x_dec m_X3_odds 63 (.ldiv) 1 64 := ⟨by decide +kernel, rfl⟩
theorem d_X3_odds_64 : x_dec m_X3_odds 64 (.lstore_n 3) 1 65 := ⟨by decide +kernel, rfl⟩
theorem d_X3_odds_65 : x_dec m_X3_odds 65 (.lload 5) 2 67 := ⟨by decide +kernel, rfl⟩
theorem d_X3_odds_67 : x_dec m_X3_odds 67 (.ldc2_w 216) 3 70 := ⟨by decide +kernel, rfl⟩
theorem d_X3_odds_70 : x_dec m_X3_odds 70 (.ldiv) 1 71 := ⟨by decide +kernel, rfl⟩
theorem d_X3_odds_71 : x_dec m_X3_odds 71 (.lstore 5) 2 73 := ⟨by decide +kernel, rfl⟩
theorem d_X3_odds_73 : x_dec m_X3_odds 73 (.goto (-29)) 3 76 := ⟨by decide +kernel, rfl⟩
theorem d_X3_odds_76 : x_dec m_X3_odds 76 (.iload_n 2) 1 77 := ⟨by decide +kernel, rfl⟩
theorem d_X3_odds_77 : x_dec m_X3_odds 77 (.ifCond .ne 7) 3 80 := ⟨by decide +kernel, rfl⟩
theorem d_X3_odds_80 : x_dec m_X3_odds 80 (.lload_n 3) 1 81 := ⟨by decide +kernel, rfl⟩
theorem d_X3_odds_81 : x_dec m_X3_odds 81 (.goto 5) 3 84 := ⟨by decide +kernel, rfl⟩
theorem d_X3_odds_84 : x_dec m_X3_odds 84 (.lload 5) 2 86 := ⟨by decide +kernel, rfl⟩
theorem d_X3_odds_86 : x_dec m_X3_odds 86 (.lstore 7) 2 88 := ⟨by decide +kernel, rfl⟩
theorem d_X3_odds_88 : x_dec m_X3_odds 88 (.lconst 1) 1 89 := ⟨by decide +kernel, rfl⟩
theorem d_X3_odds_89 : x_dec m_X3_odds 89 (.lstore 9) 2 91 := ⟨by decide +kernel, rfl⟩
theorem d_X3_odds_91 : x_dec m_X3_odds 91 (.iconst 0) 1 92 := ⟨by decide +kernel, rfl⟩
theorem d_X3_odds_92 : x_dec m_X3_odds 92 (.istore 11) 2 94 := ⟨by decide +kernel, rfl⟩
theorem d_X3_odds_94 : x_dec m_X3_odds 94 (.iload 11) 2 96 := ⟨by decide +kernel, rfl⟩
theorem d_X3_odds_96 : x_dec m_X3_odds 96 (.iload_n 1) 1 97 := ⟨by decide +kernel, rfl⟩
theorem d_X3_odds_97 : x_dec m_X3_odds 97 (.if_icmp .ge 16) 3 100 := ⟨by decide +kernel, rfl⟩
theorem d_X3_odds_100 : x_dec m_X3_odds 100 (.lload 9) 2 102 := ⟨by decide +kernel, rfl⟩
theorem d_X3_odds_102 : x_dec m_X3_odds 102 (.lload 7) 2 104 := ⟨by decide +kernel, rfl⟩
theorem d_X3_odds_104 : x_dec m_X3_odds 104 (.lmul) 1 105 := ⟨by decide +kernel, rfl⟩
theorem d_X3_odds_105 : x_dec m_X3_odds 105 (.lstore 9) 2 107 := ⟨by decide +kernel, rfl⟩
theorem d_X3_odds_107 : x_dec m_X3_odds 107 (.iinc 11 1) 3 110 := ⟨by decide +kernel, rfl⟩
theorem d_X3_odds_110 : x_dec m_X3_odds 110 (.goto (-16)) 3 113 := ⟨by decide +kernel, rfl⟩
theorem d_X3_odds_113 : x_dec m_X3_odds 113 (.lload 9) 2 115 := ⟨by decide +kernel, rfl⟩
theorem d_X3_odds_115 : x_dec m_X3_odds 115 (.lreturn) 1 116 := ⟨by decide +kernel, rfl⟩
set_option maxHeartbeats 4000000 in
set_option maxRecDepth 100000 in
theorem c_X3_odds (l : Launch) (E : x_E) (μ : x_Mem) (g : x_SG) (hS : XS g μ) (hI : Inv g) (n w : Int32) : x_Met l m_X3_odds E [.ref (E.1 + 0), .int n, .int w] μ (x_L (fun z m => z = (F_odds g n w).1 ∧ XS (F_odds g n w).2 m ∧ ∀ id, 41 ≤ id → m id = μ id)) := by
  obtain ⟨hL, hH, hX, hD⟩ := hS
  have hWF := hI.1.1
  have hn7 := hWF.2.1
  have hpn := hWF.1
  have hF : ∀ id, 41 ≤ id → μ id = μ id := fun _ _ => rfl
  have h64 := setN_64 (thereB (gA g)) (n := 16) (by decide)
  have hc16 := popN_top (setN (thereB (gA g)) 16) 16
  generalize hcc : popN 16 (setN (thereB (gA g)) 16) = c at hc16
  refine x_enter (lv := [(0, .ref (E.1 + 0)), (1, .int n), (2, .int w)]) (by decide +kernel) (Nat.le_of_ble_eq_true rfl) rfl ?_
  refine x_iload_n 1 d_X3_odds_0 rfl rfl ?_
  refine x_iconst (x := 0) d_X3_odds_1 (by decide) ?_
  refine x_bipush (x := 14) d_X3_odds_2 (by decide) ?_
  refine x_csip (as := [.int n, .int 0, .int 14]) (c_X3_isWithin l E μ n 0 14) v_X3_isWithin q180 q179 rfl ⟨Nat.le_of_ble_eq_true rfl, Nat.le_of_ble_eq_true rfl⟩ rfl (Nat.le_of_ble_eq_true rfl) d_X3_odds_4 ?_
  refine x_ifb_eq 19 d_X3_odds_7 (by decide) (fun c1 => ?_) (fun c1 => ?_)
  · skip
    refine x_aload_n 0 d_X3_odds_19 rfl rfl ?_
    refine x_ldc q182 d_X3_odds_20 ?_
    refine x_cvi (k := 0) (as := [.int (-1000001)]) (c_X3_finding l E μ (i := 0) hD (by decide) (w := (-1000001)) (by decide)) v_X3_finding w_X3_finding q183 o_X rfl ⟨Nat.le_of_ble_eq_true rfl, Nat.le_of_ble_eq_true rfl⟩ rfl (Nat.le_of_ble_eq_true rfl) d_X3_odds_22 ?_
    rintro _ μ2 ⟨rfl, hD3, hF4⟩
    have hL5 := PR.cg hL (μ' := μ2) (fun id hid => (hF4 _ (by omega)))
    have hLH6 := hH
    rw [← (show μ2 1 = μ 1 from (hF4 _ (by omega)))] at hLH6
    have hX7 := XR.cg hX (μ' := μ2) (fun id hid => (hF4 _ (by omega)))
    have hF8 : ∀ id, 41 ≤ id → μ2 id = μ id := fun id hid => (show μ2 id = μ id from (hF4 _ (by omega))).trans (hF id hid)
    refine x_i2l d_X3_odds_25 ?_
    refine x_lret rfl d_X3_odds_26 ?_
    have e9 : F_odds g n w = ((-1000001 : Int32).toInt64, fnd g 0) := by simp [F_odds, c1]
    rw [e9]
    exact ⟨rfl, XS.fin hL5 hLH6 hX7 hD3, hF8⟩
  · skip
    obtain ⟨h, hh, rfl⟩ := inR_nat (n := 14) (by decide) c1
    refine x_iload_n 2 d_X3_odds_10 rfl rfl ?_
    refine x_iconst (x := 0) d_X3_odds_11 (by decide) ?_
    refine x_iconst (x := 1) d_X3_odds_12 (by decide) ?_
    refine x_csip (as := [.int w, .int 0, .int 1]) (c_X3_isWithin l E μ w 0 1) v_X3_isWithin q180 q179 rfl ⟨Nat.le_of_ble_eq_true rfl, Nat.le_of_ble_eq_true rfl⟩ rfl (Nat.le_of_ble_eq_true rfl) d_X3_odds_13 ?_
    refine x_ifb_ne 27 d_X3_odds_16 (by decide) (fun c9 => ?_) (fun c9 => ?_)
    · skip
      obtain ⟨ww, hww, rfl⟩ := inR_nat (n := 1) (by decide) c9
      refine x_aload_n 0 d_X3_odds_27 rfl rfl ?_
      refine x_getr (j := 0) 1 x_c3 rfl (Nat.le_of_ble_eq_true rfl) q147 rfl d_X3_odds_28 ?_
      refine x_cvip (k := 1) (as := []) (c_X0_thereSet l E μ x_pr1 hL hWF) v_X0_thereSet w_X0_thereSet q296 (p_ob x_pr1) rfl ⟨Nat.le_of_ble_eq_true rfl, Nat.le_of_ble_eq_true rfl⟩ rfl (Nat.le_of_ble_eq_true rfl) d_X3_odds_31 ?_
      rw [thereN]
      refine x_csip (as := [.int (nI (setN (thereB (gA g)) 16))]) (c_J_bitCount l E μ (s := (setN (thereB (gA g)) 16)) (by omega)) v_J_bitCount q370 q369 rfl ⟨Nat.le_of_ble_eq_true rfl, Nat.le_of_ble_eq_true rfl⟩ rfl (Nat.le_of_ble_eq_true rfl) d_X3_odds_34 ?_
      refine x_i2l d_X3_odds_37 ?_
      rw [hcc, odds_d1 c (by omega)]
      refine x_lstore_n [(3, .long (nL (c / 2 ^ 0))), (0, .ref (E.1 + 0)), (1, .int (nI h)), (2, .int (nI ww))] d_X3_odds_38 rfl (Nat.le_of_ble_eq_true rfl) rfl ?_
      refine x_ldc2 q461 d_X3_odds_39 ?_
      refine x_lstore [(5, .long 16), (3, .long (nL (c / 2 ^ 0))), (0, .ref (E.1 + 0)), (1, .int (nI h)), (2, .int (nI ww))] d_X3_odds_42 (Nat.le_of_ble_eq_true rfl) rfl ?_
      have L10 : ∀ j : Nat, j ≤ 4 → (∀ i, i < j → c / 2 ^ i % 2 = 0) → x_G l E m_X3_odds (x_mv E m_X3_odds (x_L (fun z m => z = (F_odds g (nI h) (nI ww)).1 ∧ XS (F_odds g (nI h) (nI ww)).2 m ∧ ∀ id, 41 ≤ id → m id = μ id))) μ 44 [(5, .long (nL (16 / 2 ^ j))), (3, .long (nL (c / 2 ^ j))), (0, .ref (E.1 + 0)), (1, .int (nI h)), (2, .int (nI ww))] [] := by
        refine x_down _ 4 (fun j hi12 ih11 => ?_)
        intro hq
        refine x_lload 0 d_X3_odds_44 rfl ?_
        refine x_lconst (x := 1) d_X3_odds_46 (by decide) ?_
        refine x_lcmp d_X3_odds_47 ?_
        refine x_if_le 76 d_X3_odds_48 (by decide) (fun c13 => ?_) (fun c13 => ?_)
        · skip
          have hj4 := (odds_d2 j (by omega)).mp c13
          refine x_iload_n 4 d_X3_odds_76 rfl rfl ?_
          refine x_if_ne 84 d_X3_odds_77 (by decide) (fun c14 => ?_) (fun c14 => ?_)
          · skip
            refine x_lload 0 d_X3_odds_84 rfl ?_
            refine x_lstore [(7, .long (nL (16 / 2 ^ j))), (5, .long (nL (16 / 2 ^ j))), (3, .long (nL (c / 2 ^ j))), (0, .ref (E.1 + 0)), (1, .int (nI h)), (2, .int (nI ww))] d_X3_odds_86 (Nat.le_of_ble_eq_true rfl) rfl ?_
            refine x_lconst (x := 1) d_X3_odds_88 (by decide) ?_
            refine x_lstore [(9, .long 1), (7, .long (nL (16 / 2 ^ j))), (5, .long (nL (16 / 2 ^ j))), (3, .long (nL (c / 2 ^ j))), (0, .ref (E.1 + 0)), (1, .int (nI h)), (2, .int (nI ww))] d_X3_odds_89 (Nat.le_of_ble_eq_true rfl) rfl ?_
            refine x_iconst (x := 0) d_X3_odds_91 (by decide) ?_
            refine x_istore [(11, .int 0), (9, .long 1), (7, .long (nL (16 / 2 ^ j))), (5, .long (nL (16 / 2 ^ j))), (3, .long (nL (c / 2 ^ j))), (0, .ref (E.1 + 0)), (1, .int (nI h)), (2, .int (nI ww))] d_X3_odds_92 (Nat.le_of_ble_eq_true rfl) rfl ?_
            have L15 : ∀ k : Nat, k ≤ h → x_G l E m_X3_odds (x_mv E m_X3_odds (x_L (fun z m => z = (F_odds g (nI h) (nI ww)).1 ∧ XS (F_odds g (nI h) (nI ww)).2 m ∧ ∀ id, 41 ≤ id → m id = μ id))) μ 94 [(11, .int (nI k)), (9, .long (powL (nL (16 / 2 ^ j)) k)), (7, .long (nL (16 / 2 ^ j))), (5, .long (nL (16 / 2 ^ j))), (3, .long (nL (c / 2 ^ j))), (0, .ref (E.1 + 0)), (1, .int (nI h)), (2, .int (nI ww))] [] := by
              refine x_down _ h (fun k hi17 ih16 => ?_)
              refine x_iload 0 d_X3_odds_94 rfl ?_
              refine x_iload_n 6 d_X3_odds_96 rfl rfl ?_
              refine x_icmp_ge 113 d_X3_odds_97 (by decide) (fun c18 => ?_) (fun c18 => ?_)
              · skip
                have hN := x_ge (N := h) c18 rfl rfl (by omega) (by omega)
                refine x_lload 1 d_X3_odds_113 rfl ?_
                refine x_lret rfl d_X3_odds_115 ?_
                have e7 : k = h := by omega
                subst e7
                obtain ⟨e1, e2⟩ := odds_end c (by omega) j (by omega) hq (Or.inl hj4)
                have e9 : F_odds g (nI k) (nI ww) = (powL (nL (16 / 2 ^ j)) k, g) := by simp [F_odds, oddsC, hcc, show inR 0 0 1 = true from by decide, c1, c9, c14, nI_clamp (n := k) (by omega), e1, e2]
                rw [e9]
                exact ⟨rfl, ⟨hL, hH, hX, hD⟩, hF⟩
              · skip
                have hN := x_lt (N := h) c18 rfl rfl (by omega) (by omega)
                refine x_lload 1 d_X3_odds_100 rfl ?_
                refine x_lload 2 d_X3_odds_102 rfl ?_
                refine x_lmul d_X3_odds_104 ?_
                refine x_lstore [(9, .long ((powL (nL (16 / 2 ^ j)) k) * (nL (16 / 2 ^ j)))), (11, .int (nI k)), (7, .long (nL (16 / 2 ^ j))), (5, .long (nL (16 / 2 ^ j))), (3, .long (nL (c / 2 ^ j))), (0, .ref (E.1 + 0)), (1, .int (nI h)), (2, .int (nI ww))] d_X3_odds_105 (Nat.le_of_ble_eq_true rfl) rfl ?_
                refine x_iinc [(11, .int (nI (k + 1))), (9, .long ((powL (nL (16 / 2 ^ j)) k) * (nL (16 / 2 ^ j)))), (7, .long (nL (16 / 2 ^ j))), (5, .long (nL (16 / 2 ^ j))), (3, .long (nL (c / 2 ^ j))), (0, .ref (E.1 + 0)), (1, .int (nI h)), (2, .int (nI ww))] 1 d_X3_odds_107 rfl (x_inc _) (Nat.le_of_ble_eq_true rfl) rfl ?_
                refine x_goto 94 d_X3_odds_110 (by decide) ?_
                exact ih16 (k + 1) (by omega) (by omega)
            exact L15 0 (by omega)
          · skip
            refine x_lload_n 1 d_X3_odds_80 rfl rfl ?_
            refine x_goto 86 d_X3_odds_81 (by decide) ?_
            refine x_lstore [(7, .long (nL (c / 2 ^ j))), (5, .long (nL (16 / 2 ^ j))), (3, .long (nL (c / 2 ^ j))), (0, .ref (E.1 + 0)), (1, .int (nI h)), (2, .int (nI ww))] d_X3_odds_86 (Nat.le_of_ble_eq_true rfl) rfl ?_
            refine x_lconst (x := 1) d_X3_odds_88 (by decide) ?_
            refine x_lstore [(9, .long 1), (7, .long (nL (c / 2 ^ j))), (5, .long (nL (16 / 2 ^ j))), (3, .long (nL (c / 2 ^ j))), (0, .ref (E.1 + 0)), (1, .int (nI h)), (2, .int (nI ww))] d_X3_odds_89 (Nat.le_of_ble_eq_true rfl) rfl ?_
            refine x_iconst (x := 0) d_X3_odds_91 (by decide) ?_
            refine x_istore [(11, .int 0), (9, .long 1), (7, .long (nL (c / 2 ^ j))), (5, .long (nL (16 / 2 ^ j))), (3, .long (nL (c / 2 ^ j))), (0, .ref (E.1 + 0)), (1, .int (nI h)), (2, .int (nI ww))] d_X3_odds_92 (Nat.le_of_ble_eq_true rfl) rfl ?_
            have L19 : ∀ k : Nat, k ≤ h → x_G l E m_X3_odds (x_mv E m_X3_odds (x_L (fun z m => z = (F_odds g (nI h) (nI ww)).1 ∧ XS (F_odds g (nI h) (nI ww)).2 m ∧ ∀ id, 41 ≤ id → m id = μ id))) μ 94 [(11, .int (nI k)), (9, .long (powL (nL (c / 2 ^ j)) k)), (7, .long (nL (c / 2 ^ j))), (5, .long (nL (16 / 2 ^ j))), (3, .long (nL (c / 2 ^ j))), (0, .ref (E.1 + 0)), (1, .int (nI h)), (2, .int (nI ww))] [] := by
              refine x_down _ h (fun k hi21 ih20 => ?_)
              refine x_iload 0 d_X3_odds_94 rfl ?_
              refine x_iload_n 6 d_X3_odds_96 rfl rfl ?_
              refine x_icmp_ge 113 d_X3_odds_97 (by decide) (fun c22 => ?_) (fun c22 => ?_)
              · skip
                have hN := x_ge (N := h) c22 rfl rfl (by omega) (by omega)
                refine x_lload 1 d_X3_odds_113 rfl ?_
                refine x_lret rfl d_X3_odds_115 ?_
                have e7 : k = h := by omega
                subst e7
                obtain ⟨e1, e2⟩ := odds_end c (by omega) j (by omega) hq (Or.inl hj4)
                have e9 : F_odds g (nI k) (nI ww) = (powL (nL (c / 2 ^ j)) k, g) := by simp [F_odds, oddsC, hcc, show inR 0 0 1 = true from by decide, c1, c9, c14, nI_clamp (n := k) (by omega), e1, e2]
                rw [e9]
                exact ⟨rfl, ⟨hL, hH, hX, hD⟩, hF⟩
              · skip
                have hN := x_lt (N := h) c22 rfl rfl (by omega) (by omega)
                refine x_lload 1 d_X3_odds_100 rfl ?_
                refine x_lload 2 d_X3_odds_102 rfl ?_
                refine x_lmul d_X3_odds_104 ?_
                refine x_lstore [(9, .long ((powL (nL (c / 2 ^ j)) k) * (nL (c / 2 ^ j)))), (11, .int (nI k)), (7, .long (nL (c / 2 ^ j))), (5, .long (nL (16 / 2 ^ j))), (3, .long (nL (c / 2 ^ j))), (0, .ref (E.1 + 0)), (1, .int (nI h)), (2, .int (nI ww))] d_X3_odds_105 (Nat.le_of_ble_eq_true rfl) rfl ?_
                refine x_iinc [(11, .int (nI (k + 1))), (9, .long ((powL (nL (c / 2 ^ j)) k) * (nL (c / 2 ^ j)))), (7, .long (nL (c / 2 ^ j))), (5, .long (nL (16 / 2 ^ j))), (3, .long (nL (c / 2 ^ j))), (0, .ref (E.1 + 0)), (1, .int (nI h)), (2, .int (nI ww))] 1 d_X3_odds_107 rfl (x_inc _) (Nat.le_of_ble_eq_true rfl) rfl ?_
                refine x_goto 94 d_X3_odds_110 (by decide) ?_
                exact ih20 (k + 1) (by omega) (by omega)
            exact L19 0 (by omega)
        · skip
          have hj4 : ¬ j = 4 := fun z => c13 ((odds_d2 j (by omega)).mpr z)
          refine x_lload_n 1 d_X3_odds_51 rfl rfl ?_
          refine x_lconst (x := 1) d_X3_odds_52 (by decide) ?_
          refine x_land d_X3_odds_53 ?_
          refine x_lconst (x := 0) d_X3_odds_54 (by decide) ?_
          refine x_lcmp d_X3_odds_55 ?_
          refine x_if_ne 76 d_X3_odds_56 (by decide) (fun c23 => ?_) (fun c23 => ?_)
          · skip
            have hod : ¬ c / 2 ^ j % 2 = 0 := fun z => c23 ((odds_d3 c (by omega) j (by omega)).mpr z)
            refine x_iload_n 4 d_X3_odds_76 rfl rfl ?_
            refine x_if_ne 84 d_X3_odds_77 (by decide) (fun c24 => ?_) (fun c24 => ?_)
            · skip
              refine x_lload 0 d_X3_odds_84 rfl ?_
              refine x_lstore [(7, .long (nL (16 / 2 ^ j))), (5, .long (nL (16 / 2 ^ j))), (3, .long (nL (c / 2 ^ j))), (0, .ref (E.1 + 0)), (1, .int (nI h)), (2, .int (nI ww))] d_X3_odds_86 (Nat.le_of_ble_eq_true rfl) rfl ?_
              refine x_lconst (x := 1) d_X3_odds_88 (by decide) ?_
              refine x_lstore [(9, .long 1), (7, .long (nL (16 / 2 ^ j))), (5, .long (nL (16 / 2 ^ j))), (3, .long (nL (c / 2 ^ j))), (0, .ref (E.1 + 0)), (1, .int (nI h)), (2, .int (nI ww))] d_X3_odds_89 (Nat.le_of_ble_eq_true rfl) rfl ?_
              refine x_iconst (x := 0) d_X3_odds_91 (by decide) ?_
              refine x_istore [(11, .int 0), (9, .long 1), (7, .long (nL (16 / 2 ^ j))), (5, .long (nL (16 / 2 ^ j))), (3, .long (nL (c / 2 ^ j))), (0, .ref (E.1 + 0)), (1, .int (nI h)), (2, .int (nI ww))] d_X3_odds_92 (Nat.le_of_ble_eq_true rfl) rfl ?_
              have L25 : ∀ k : Nat, k ≤ h → x_G l E m_X3_odds (x_mv E m_X3_odds (x_L (fun z m => z = (F_odds g (nI h) (nI ww)).1 ∧ XS (F_odds g (nI h) (nI ww)).2 m ∧ ∀ id, 41 ≤ id → m id = μ id))) μ 94 [(11, .int (nI k)), (9, .long (powL (nL (16 / 2 ^ j)) k)), (7, .long (nL (16 / 2 ^ j))), (5, .long (nL (16 / 2 ^ j))), (3, .long (nL (c / 2 ^ j))), (0, .ref (E.1 + 0)), (1, .int (nI h)), (2, .int (nI ww))] [] := by
                refine x_down _ h (fun k hi27 ih26 => ?_)
                refine x_iload 0 d_X3_odds_94 rfl ?_
                refine x_iload_n 6 d_X3_odds_96 rfl rfl ?_
                refine x_icmp_ge 113 d_X3_odds_97 (by decide) (fun c28 => ?_) (fun c28 => ?_)
                · skip
                  have hN := x_ge (N := h) c28 rfl rfl (by omega) (by omega)
                  refine x_lload 1 d_X3_odds_113 rfl ?_
                  refine x_lret rfl d_X3_odds_115 ?_
                  have e7 : k = h := by omega
                  subst e7
                  obtain ⟨e1, e2⟩ := odds_end c (by omega) j (by omega) hq (Or.inr hod)
                  have e9 : F_odds g (nI k) (nI ww) = (powL (nL (16 / 2 ^ j)) k, g) := by simp [F_odds, oddsC, hcc, show inR 0 0 1 = true from by decide, c1, c9, c24, nI_clamp (n := k) (by omega), e1, e2]
                  rw [e9]
                  exact ⟨rfl, ⟨hL, hH, hX, hD⟩, hF⟩
                · skip
                  have hN := x_lt (N := h) c28 rfl rfl (by omega) (by omega)
                  refine x_lload 1 d_X3_odds_100 rfl ?_
                  refine x_lload 2 d_X3_odds_102 rfl ?_
                  refine x_lmul d_X3_odds_104 ?_
                  refine x_lstore [(9, .long ((powL (nL (16 / 2 ^ j)) k) * (nL (16 / 2 ^ j)))), (11, .int (nI k)), (7, .long (nL (16 / 2 ^ j))), (5, .long (nL (16 / 2 ^ j))), (3, .long (nL (c / 2 ^ j))), (0, .ref (E.1 + 0)), (1, .int (nI h)), (2, .int (nI ww))] d_X3_odds_105 (Nat.le_of_ble_eq_true rfl) rfl ?_
                  refine x_iinc [(11, .int (nI (k + 1))), (9, .long ((powL (nL (16 / 2 ^ j)) k) * (nL (16 / 2 ^ j)))), (7, .long (nL (16 / 2 ^ j))), (5, .long (nL (16 / 2 ^ j))), (3, .long (nL (c / 2 ^ j))), (0, .ref (E.1 + 0)), (1, .int (nI h)), (2, .int (nI ww))] 1 d_X3_odds_107 rfl (x_inc _) (Nat.le_of_ble_eq_true rfl) rfl ?_
                  refine x_goto 94 d_X3_odds_110 (by decide) ?_
                  exact ih26 (k + 1) (by omega) (by omega)
              exact L25 0 (by omega)
            · skip
              refine x_lload_n 1 d_X3_odds_80 rfl rfl ?_
              refine x_goto 86 d_X3_odds_81 (by decide) ?_
              refine x_lstore [(7, .long (nL (c / 2 ^ j))), (5, .long (nL (16 / 2 ^ j))), (3, .long (nL (c / 2 ^ j))), (0, .ref (E.1 + 0)), (1, .int (nI h)), (2, .int (nI ww))] d_X3_odds_86 (Nat.le_of_ble_eq_true rfl) rfl ?_
              refine x_lconst (x := 1) d_X3_odds_88 (by decide) ?_
              refine x_lstore [(9, .long 1), (7, .long (nL (c / 2 ^ j))), (5, .long (nL (16 / 2 ^ j))), (3, .long (nL (c / 2 ^ j))), (0, .ref (E.1 + 0)), (1, .int (nI h)), (2, .int (nI ww))] d_X3_odds_89 (Nat.le_of_ble_eq_true rfl) rfl ?_
              refine x_iconst (x := 0) d_X3_odds_91 (by decide) ?_
              refine x_istore [(11, .int 0), (9, .long 1), (7, .long (nL (c / 2 ^ j))), (5, .long (nL (16 / 2 ^ j))), (3, .long (nL (c / 2 ^ j))), (0, .ref (E.1 + 0)), (1, .int (nI h)), (2, .int (nI ww))] d_X3_odds_92 (Nat.le_of_ble_eq_true rfl) rfl ?_
              have L29 : ∀ k : Nat, k ≤ h → x_G l E m_X3_odds (x_mv E m_X3_odds (x_L (fun z m => z = (F_odds g (nI h) (nI ww)).1 ∧ XS (F_odds g (nI h) (nI ww)).2 m ∧ ∀ id, 41 ≤ id → m id = μ id))) μ 94 [(11, .int (nI k)), (9, .long (powL (nL (c / 2 ^ j)) k)), (7, .long (nL (c / 2 ^ j))), (5, .long (nL (16 / 2 ^ j))), (3, .long (nL (c / 2 ^ j))), (0, .ref (E.1 + 0)), (1, .int (nI h)), (2, .int (nI ww))] [] := by
                refine x_down _ h (fun k hi31 ih30 => ?_)
                refine x_iload 0 d_X3_odds_94 rfl ?_
                refine x_iload_n 6 d_X3_odds_96 rfl rfl ?_
                refine x_icmp_ge 113 d_X3_odds_97 (by decide) (fun c32 => ?_) (fun c32 => ?_)
                · skip
                  have hN := x_ge (N := h) c32 rfl rfl (by omega) (by omega)
                  refine x_lload 1 d_X3_odds_113 rfl ?_
                  refine x_lret rfl d_X3_odds_115 ?_
                  have e7 : k = h := by omega
                  subst e7
                  obtain ⟨e1, e2⟩ := odds_end c (by omega) j (by omega) hq (Or.inr hod)
                  have e9 : F_odds g (nI k) (nI ww) = (powL (nL (c / 2 ^ j)) k, g) := by simp [F_odds, oddsC, hcc, show inR 0 0 1 = true from by decide, c1, c9, c24, nI_clamp (n := k) (by omega), e1, e2]
                  rw [e9]
                  exact ⟨rfl, ⟨hL, hH, hX, hD⟩, hF⟩
                · skip
                  have hN := x_lt (N := h) c32 rfl rfl (by omega) (by omega)
                  refine x_lload 1 d_X3_odds_100 rfl ?_
                  refine x_lload 2 d_X3_odds_102 rfl ?_
                  refine x_lmul d_X3_odds_104 ?_
                  refine x_lstore [(9, .long ((powL (nL (c / 2 ^ j)) k) * (nL (c / 2 ^ j)))), (11, .int (nI k)), (7, .long (nL (c / 2 ^ j))), (5, .long (nL (16 / 2 ^ j))), (3, .long (nL (c / 2 ^ j))), (0, .ref (E.1 + 0)), (1, .int (nI h)), (2, .int (nI ww))] d_X3_odds_105 (Nat.le_of_ble_eq_true rfl) rfl ?_
                  refine x_iinc [(11, .int (nI (k + 1))), (9, .long ((powL (nL (c / 2 ^ j)) k) * (nL (c / 2 ^ j)))), (7, .long (nL (c / 2 ^ j))), (5, .long (nL (16 / 2 ^ j))), (3, .long (nL (c / 2 ^ j))), (0, .ref (E.1 + 0)), (1, .int (nI h)), (2, .int (nI ww))] 1 d_X3_odds_107 rfl (x_inc _) (Nat.le_of_ble_eq_true rfl) rfl ?_
                  refine x_goto 94 d_X3_odds_110 (by decide) ?_
                  exact ih30 (k + 1) (by omega) (by omega)
              exact L29 0 (by omega)
          · skip
            have hev := (odds_d3 c (by omega) j (by omega)).mp (by simpa using c23)
            refine x_lload_n 1 d_X3_odds_59 rfl rfl ?_
            refine x_ldc2 q462 d_X3_odds_60 ?_
            refine x_ldiv d_X3_odds_63 (by decide) ?_
            rw [odds_d4 c (by omega) j (by omega)]
            refine x_lstore_n [(3, .long (nL (c / 2 ^ (j + 1)))), (5, .long (nL (16 / 2 ^ j))), (0, .ref (E.1 + 0)), (1, .int (nI h)), (2, .int (nI ww))] d_X3_odds_64 rfl (Nat.le_of_ble_eq_true rfl) rfl ?_
            refine x_lload 1 d_X3_odds_65 rfl ?_
            refine x_ldc2 q462 d_X3_odds_67 ?_
            refine x_ldiv d_X3_odds_70 (by decide) ?_
            rw [odds_d5 j (by omega)]
            refine x_lstore [(5, .long (nL (16 / 2 ^ (j + 1)))), (3, .long (nL (c / 2 ^ (j + 1)))), (0, .ref (E.1 + 0)), (1, .int (nI h)), (2, .int (nI ww))] d_X3_odds_71 (Nat.le_of_ble_eq_true rfl) rfl ?_
            refine x_goto 44 d_X3_odds_73 (by decide) ?_
            exact ih11 (j + 1) (by omega) (by omega) (lt_p hq hev)
      exact L10 0 (by omega) (fun _ hj => absurd hj (Nat.not_lt_zero _))
    · skip
      refine x_aload_n 0 d_X3_odds_19 rfl rfl ?_
      refine x_ldc q182 d_X3_odds_20 ?_
      refine x_cvi (k := 0) (as := [.int (-1000001)]) (c_X3_finding l E μ (i := 0) hD (by decide) (w := (-1000001)) (by decide)) v_X3_finding w_X3_finding q183 o_X rfl ⟨Nat.le_of_ble_eq_true rfl, Nat.le_of_ble_eq_true rfl⟩ rfl (Nat.le_of_ble_eq_true rfl) d_X3_odds_22 ?_
      rintro _ μ33 ⟨rfl, hD34, hF35⟩
      have hL36 := PR.cg hL (μ' := μ33) (fun id hid => (hF35 _ (by omega)))
      have hLH37 := hH
      rw [← (show μ33 1 = μ 1 from (hF35 _ (by omega)))] at hLH37
      have hX38 := XR.cg hX (μ' := μ33) (fun id hid => (hF35 _ (by omega)))
      have hF39 : ∀ id, 41 ≤ id → μ33 id = μ id := fun id hid => (show μ33 id = μ id from (hF35 _ (by omega))).trans (hF id hid)
      refine x_i2l d_X3_odds_25 ?_
      refine x_lret rfl d_X3_odds_26 ?_
      have e9 : F_odds g (nI h) w = ((-1000001 : Int32).toInt64, fnd g 0) := by simp [F_odds, c1, c9]
      rw [e9]
      exact ⟨rfl, XS.fin hL36 hLH37 hX38 hD34, hF39⟩
