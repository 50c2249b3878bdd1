def m_X3_noteWhatIsBrought : x_M := (yX3_noteWhatIsBrought, prog_1_method_36_code, 3, none, 3, 74)
theorem v_X3_noteWhatIsBrought : x_VM m_X3_noteWhatIsBrought 0 := ⟨q442, q1, by decide +kernel, by decide +kernel, by decide +kernel⟩
theorem w_X3_noteWhatIsBrought : x_VI m_X3_noteWhatIsBrought := ⟨q441, qs11⟩
theorem d_X3_noteWhatIsBrought_0 : x_dec m_X3_noteWhatIsBrought 0 (.iconst 0) 1 1 := ⟨by decide +kernel, rfl⟩
theorem d_X3_noteWhatIsBrought_1 : x_dec m_X3_noteWhatIsBrought 1 (.istore_n 1) 1 2 := ⟨by decide +kernel, rfl⟩
theorem d_X3_noteWhatIsBrought_2 : x_dec m_X3_noteWhatIsBrought 2 (.iload_n 1) 1 3 := ⟨by decide +kernel, rfl⟩
theorem d_X3_noteWhatIsBrought_3 : x_dec m_X3_noteWhatIsBrought 3 (.bipush 16) 2 5 := ⟨by decide +kernel, rfl⟩
theorem d_X3_noteWhatIsBrought_5 : x_dec m_X3_noteWhatIsBrought 5 (.if_icmp .ge 48) 3 8 := ⟨by decide +kernel, rfl⟩
theorem d_X3_noteWhatIsBrought_8 : x_dec m_X3_noteWhatIsBrought 8 (.iconst 0) 1 9 := ⟨by decide +kernel, rfl⟩
theorem d_X3_noteWhatIsBrought_9 : x_dec m_X3_noteWhatIsBrought 9 (.istore_n 2) 1 10 := ⟨by decide +kernel, rfl⟩
theorem d_X3_noteWhatIsBrought_10 : x_dec m_X3_noteWhatIsBrought 10 (.iload_n 2) 1 11 := ⟨by decide +kernel, rfl⟩
theorem d_X3_noteWhatIsBrought_11 : x_dec m_X3_noteWhatIsBrought 11 (.aload_n 0) 1 12 := ⟨by decide +kernel, rfl⟩
theorem d_X3_noteWhatIsBrought_12 : x_dec m_X3_noteWhatIsBrought 12 (.getfield 12) 3 15 := ⟨by decide +kernel, rfl⟩
theorem d_X3_noteWhatIsBrought_15 : x_dec m_X3_noteWhatIsBrought 15 (.getfield 72) 3 18 := ⟨by decide +kernel, rfl⟩
theorem d_X3_noteWhatIsBrought_18 : x_dec m_X3_noteWhatIsBrought 18 (.if_icmp .ge 29) 3 21 := ⟨by decide +kernel, rfl⟩
theorem d_X3_noteWhatIsBrought_21 : x_dec m_X3_noteWhatIsBrought 21 (.aload_n 0) 1 22 := ⟨by decide +kernel, rfl⟩
theorem d_X3_noteWhatIsBrought_22 : x_dec m_X3_noteWhatIsBrought 22 (.getfield 39) 3 25 := ⟨by decide +kernel, rfl⟩
theorem d_X3_noteWhatIsBrought_25 : x_dec m_X3_noteWhatIsBrought 25 (.iload_n 1) 1 26 := ⟨by decide +kernel, rfl⟩
theorem d_X3_noteWhatIsBrought_26 : x_dec m_X3_noteWhatIsBrought 26 (.bipush 8) 2 28 := ⟨by decide +kernel, rfl⟩
theorem d_X3_noteWhatIsBrought_28 : x_dec m_X3_noteWhatIsBrought 28 (.imul) 1 29 := ⟨by decide +kernel, rfl⟩
theorem d_X3_noteWhatIsBrought_29 : x_dec m_X3_noteWhatIsBrought 29 (.iload_n 2) 1 30 := ⟨by decide +kernel, rfl⟩
theorem d_X3_noteWhatIsBrought_30 : x_dec m_X3_noteWhatIsBrought 30 (.iadd) 1 31 := ⟨by decide +kernel, rfl⟩
theorem d_X3_noteWhatIsBrought_31 : x_dec m_X3_noteWhatIsBrought 31 (.aload_n 0) 1 32 := ⟨by decide +kernel, rfl⟩
theorem d_X3_noteWhatIsBrought_32 : x_dec m_X3_noteWhatIsBrought 32 (.getfield 12) 3 35 := ⟨by decide +kernel, rfl⟩
theorem d_X3_noteWhatIsBrought_35 : x_dec m_X3_noteWhatIsBrought 35 (.iload_n 2) 1 36 := ⟨by decide +kernel, rfl⟩
theorem d_X3_noteWhatIsBrought_36 : x_dec m_X3_noteWhatIsBrought 36 (.iload_n 1) 1 37 := ⟨by decide +kernel, rfl⟩
theorem d_X3_noteWhatIsBrought_37 : x_dec m_X3_noteWhatIsBrought 37 (.invokevirtual 198) 3 40 := ⟨by decide +kernel, rfl⟩
theorem d_X3_noteWhatIsBrought_40 : x_dec m_X3_noteWhatIsBrought 40 (.iastore) 1 41 := ⟨by decide +kernel, rfl⟩
theorem d_X3_noteWhatIsBrought_41 : x_dec m_X3_noteWhatIsBrought 41 (.iinc 2 1) 3 44 := ⟨by decide +kernel, rfl⟩
theorem d_X3_noteWhatIsBrought_44 : x_dec m_X3_noteWhatIsBrought 44 (.goto (-34)) 3 47 := ⟨by decide +kernel, rfl⟩
theorem d_X3_noteWhatIsBrought_47 : x_dec m_X3_noteWhatIsBrought 47 (.iinc 1 1) 3 50 := ⟨by decide +kernel, rfl⟩
theorem d_X3_noteWhatIsBrought_50 : x_dec m_X3_noteWhatIsBrought 50 (.goto (-48)) 3 53 := ⟨by decide +kernel, rfl⟩
theorem d_X3_noteWhatIsBrought_53 : x_dec m_X3_noteWhatIsBrought 53 (.return_) 1 54 := ⟨by decide +kernel, rfl⟩
set_option maxHeartbeats 4000000 in
set_option maxRecDepth 100000 in
theorem c_X3_noteWhatIsBrought (l : Launch) (E : x_E) (μ : x_Mem) {a : x_St} (hL : PR a 1 μ) (hI : WF a) : x_Met l m_X3_noteWhatIsBrought E [.ref (E.1 + 0)] μ (x_J (fun m => (∀ k p, k < 16 → p < pn a → m 31 (k * 8 + p) = bringsF a p (nI k)) ∧ ∀ id, id ≠ 31 → m id = μ id)) := by
  have hn7 := hI.2.1
  have hpn := hI.1
  refine x_enter (lv := [(0, .ref (E.1 + 0))]) (by decide +kernel) (Nat.le_of_ble_eq_true rfl) rfl ?_
  refine x_iconst (x := 0) d_X3_noteWhatIsBrought_0 (by decide) ?_
  refine x_istore_n [(1, .int 0), (0, .ref (E.1 + 0))] d_X3_noteWhatIsBrought_1 rfl (Nat.le_of_ble_eq_true rfl) rfl ?_
  have L1 : ∀ k : Nat, k ≤ 16 → ∀ μ4 : x_Mem, (PR a 1 μ4) → (∀ k1 p1, k1 < k → p1 < pn a → μ4 31 (k1 * 8 + p1) = bringsF a p1 (nI k1)) → (∀ id, id ≠ 31 → μ4 id = μ id) → x_G l E m_X3_noteWhatIsBrought (x_mv E m_X3_noteWhatIsBrought (x_J (fun m => (∀ k p, k < 16 → p < pn a → m 31 (k * 8 + p) = bringsF a p (nI k)) ∧ ∀ id, id ≠ 31 → m id = μ id))) μ4 2 [(1, .int (nI k)), (0, .ref (E.1 + 0))] [] := by
    refine x_down _ 16 (fun k hi3 ih2 => ?_)
    intro μ4 hL1 hB hF1
    refine x_iload_n 0 d_X3_noteWhatIsBrought_2 rfl rfl ?_
    refine x_bipush (x := 16) d_X3_noteWhatIsBrought_3 (by decide) ?_
    refine x_icmp_ge 53 d_X3_noteWhatIsBrought_5 (by decide) (fun c5 => ?_) (fun c5 => ?_)
    · skip
      have hN := x_ge (N := 16) c5 rfl rfl (by omega) (by omega)
      refine x_vret rfl d_X3_noteWhatIsBrought_53 ?_
      exact ⟨fun k1 p1 h1 h2 => hB k1 p1 (by omega) h2, hF1⟩
    · skip
      have hN := x_lt (N := 16) c5 rfl rfl (by omega) (by omega)
      refine x_iconst (x := 0) d_X3_noteWhatIsBrought_8 (by decide) ?_
      refine x_istore_n [(2, .int 0), (1, .int (nI k)), (0, .ref (E.1 + 0))] d_X3_noteWhatIsBrought_9 rfl (Nat.le_of_ble_eq_true rfl) rfl ?_
      have L6 : ∀ p : Nat, p ≤ pn a → ∀ μ9 : x_Mem, (PR a 1 μ9) → (∀ k1 p1, k1 < k → p1 < pn a → μ9 31 (k1 * 8 + p1) = bringsF a p1 (nI k1)) → (∀ p1, p1 < p → μ9 31 (k * 8 + p1) = bringsF a p1 (nI k)) → (∀ id, id ≠ 31 → μ9 id = μ id) → x_G l E m_X3_noteWhatIsBrought (x_mv E m_X3_noteWhatIsBrought (x_J (fun m => (∀ k p, k < 16 → p < pn a → m 31 (k * 8 + p) = bringsF a p (nI k)) ∧ ∀ id, id ≠ 31 → m id = μ id))) μ9 10 [(2, .int (nI p)), (1, .int (nI k)), (0, .ref (E.1 + 0))] [] := by
        refine x_down _ (pn a) (fun p hi8 ih7 => ?_)
        intro μ9 hL1 hB hC hF1
        refine x_iload_n 0 d_X3_noteWhatIsBrought_10 rfl rfl ?_
        refine x_aload_n 2 d_X3_noteWhatIsBrought_11 rfl rfl ?_
        refine x_getr (j := 0) 1 x_c3 rfl (Nat.le_of_ble_eq_true rfl) q147 rfl d_X3_noteWhatIsBrought_12 ?_
        refine x_getiV (j := 5) (z := nI (pn a)) x_c0 (p_kd x_pr1) (Nat.le_of_ble_eq_true rfl) q43 (p_n5 x_pr1) ((PR.f5 hL1).trans hn7) d_X3_noteWhatIsBrought_15 ?_
        refine x_icmp_ge 47 d_X3_noteWhatIsBrought_18 (by decide) (fun c10 => ?_) (fun c10 => ?_)
        · skip
          have hN2 := x_ge (N := pn a) c10 rfl rfl (by omega) (by omega)
          refine x_iinc [(1, .int (nI (k + 1))), (2, .int (nI p)), (0, .ref (E.1 + 0))] 1 d_X3_noteWhatIsBrought_47 rfl (x_inc _) (Nat.le_of_ble_eq_true rfl) rfl ?_
          refine x_goto 2 d_X3_noteWhatIsBrought_50 (by decide) ?_
          refine x_lv [0, 2] rfl ?_
          exact ih2 (k + 1) (by omega) (by omega) μ9 hL1 (note_row hB hC hN2) hF1
        · skip
          have hN2 := x_lt (N := pn a) c10 rfl rfl (by omega) (by omega)
          refine x_aload_n 2 d_X3_noteWhatIsBrought_21 rfl rfl ?_
          refine x_getr (j := 6) 31 x_c3 rfl (Nat.le_of_ble_eq_true rfl) q153 rfl d_X3_noteWhatIsBrought_22 ?_
          refine x_iload_n 1 d_X3_noteWhatIsBrought_25 rfl rfl ?_
          refine x_bipush (x := 8) d_X3_noteWhatIsBrought_26 (by decide) ?_
          refine x_imul d_X3_noteWhatIsBrought_28 ?_
          refine x_iload_n 0 d_X3_noteWhatIsBrought_29 rfl rfl ?_
          refine x_iadd d_X3_noteWhatIsBrought_30 ?_
          rw [show nI k * 8 + nI p = nI (k * 8 + p) from by rw [show (8 : Int32) = nI 8 from rfl, pk_mul, nI_add]]
          refine x_aload_n 2 d_X3_noteWhatIsBrought_31 rfl rfl ?_
          refine x_getr (j := 0) 1 x_c3 rfl (Nat.le_of_ble_eq_true rfl) q147 rfl d_X3_noteWhatIsBrought_32 ?_
          refine x_iload_n 0 d_X3_noteWhatIsBrought_35 rfl rfl ?_
          refine x_iload_n 1 d_X3_noteWhatIsBrought_36 rfl rfl ?_
          refine x_cvip (k := 1) (as := [.int (nI p), .int (nI k)]) (c_X0_brings l E μ9 x_pr1 hL1 hI (p := p) (by omega) (nI k)) v_X0_brings w_X0_brings q434 (p_ob x_pr1) rfl ⟨Nat.le_of_ble_eq_true rfl, Nat.le_of_ble_eq_true rfl⟩ rfl (Nat.le_of_ble_eq_true rfl) d_X3_noteWhatIsBrought_37 ?_
          refine x_iastNG 128 (k * 8 + p) rfl rfl (by omega) (by decide) d_X3_noteWhatIsBrought_40 (fun μ11 eμ11 => ?_)
          have hB9 := note_up hB hC (k := k) (p := p) ⟨by omega, by omega⟩ eμ11
          have hL12 := PR.cg hL1 (μ' := μ11) (fun id hid => (by rw [eμ11, upd2_ne _ _ _ (by omega)]))
          have hF13 : ∀ id, id ≠ 31 → μ11 id = μ id := fun id hid => (show μ11 id = μ9 id from (by rw [eμ11, upd2_ne _ _ _ (by omega)])).trans (hF1 id hid)
          refine x_iinc [(2, .int (nI (p + 1))), (1, .int (nI k)), (0, .ref (E.1 + 0))] 0 d_X3_noteWhatIsBrought_41 rfl (x_inc _) (Nat.le_of_ble_eq_true rfl) rfl ?_
          refine x_goto 10 d_X3_noteWhatIsBrought_44 (by decide) ?_
          exact ih7 (p + 1) (by omega) (by omega) μ11 hL12 hB9.1 hB9.2 hF13
      exact L6 0 (by omega) μ4 hL1 hB (fun _ h => absurd h (Nat.not_lt_zero _)) hF1
  exact L1 0 (by omega) μ hL (fun _ _ h => absurd h (Nat.not_lt_zero _)) (fun _ _ => rfl)
def m_X3_endsAll : x_M := (yX3_endsAll, prog_1_method_37_code, 6, (some FieldType.boolean), 1, 21)
theorem v_X3_endsAll : x_VM m_X3_endsAll 2 := ⟨q446, q1, by decide +kernel, by decide +kernel, by decide +kernel⟩
theorem w_X3_endsAll : x_VI m_X3_endsAll := ⟨q445, qs12⟩
theorem d_X3_endsAll_0 : x_dec m_X3_endsAll 0 (.iconst 0) 1 1 := ⟨by decide +kernel, rfl⟩
theorem d_X3_endsAll_1 : x_dec m_X3_endsAll 1 (.istore_n 3) 1 2 := ⟨by decide +kernel, rfl⟩
theorem d_X3_endsAll_2 : x_dec m_X3_endsAll 2 (.iload_n 3) 1 3 := ⟨by decide +kernel, rfl⟩
theorem d_X3_endsAll_3 : x_dec m_X3_endsAll 3 (.bipush 16) 2 5 := ⟨by decide +kernel, rfl⟩
theorem d_X3_endsAll_5 : x_dec m_X3_endsAll 5 (.if_icmp .ge 95) 3 8 := ⟨by decide +kernel, rfl⟩
theorem d_X3_endsAll_8 : x_dec m_X3_endsAll 8 (.iload_n 2) 1 9 := ⟨by decide +kernel, rfl⟩
theorem d_X3_endsAll_9 : x_dec m_X3_endsAll 9 (.iload_n 3) 1 10 := ⟨by decide +kernel, rfl⟩
theorem d_X3_endsAll_10 : x_dec m_X3_endsAll 10 (.invokestatic 208) 3 13 := ⟨by decide +kernel, rfl⟩
theorem d_X3_endsAll_13 : x_dec m_X3_endsAll 13 (.ifCond .eq 81) 3 16 := ⟨by decide +kernel, rfl⟩
theorem d_X3_endsAll_16 : x_dec m_X3_endsAll 16 (.aload_n 0) 1 17 := ⟨by decide +kernel, rfl⟩
theorem d_X3_endsAll_17 : x_dec m_X3_endsAll 17 (.getfield 12) 3 20 := ⟨by decide +kernel, rfl⟩
theorem d_X3_endsAll_20 : x_dec m_X3_endsAll 20 (.getfield 60) 3 23 := ⟨by decide +kernel, rfl⟩
theorem d_X3_endsAll_23 : x_dec m_X3_endsAll 23 (.iload_n 3) 1 24 := ⟨by decide +kernel, rfl⟩
theorem d_X3_endsAll_24 : x_dec m_X3_endsAll 24 (.iaload) 1 25 := ⟨by decide +kernel, rfl⟩
theorem d_X3_endsAll_25 : x_dec m_X3_endsAll 25 (.ifCond .le 69) 3 28 := ⟨by decide +kernel, rfl⟩
theorem d_X3_endsAll_28 : x_dec m_X3_endsAll 28 (.iconst 0) 1 29 := ⟨by decide +kernel, rfl⟩
theorem d_X3_endsAll_29 : x_dec m_X3_endsAll 29 (.istore 4) 2 31 := ⟨by decide +kernel, rfl⟩
theorem d_X3_endsAll_31 : x_dec m_X3_endsAll 31 (.iconst 0) 1 32 := ⟨by decide +kernel, rfl⟩
theorem d_X3_endsAll_32 : x_dec m_X3_endsAll 32 (.istore 5) 2 34 := ⟨by decide +kernel, rfl⟩
theorem d_X3_endsAll_34 : x_dec m_X3_endsAll 34 (.iload 5) 2 36 := ⟨by decide +kernel, rfl⟩
theorem d_X3_endsAll_36 : x_dec m_X3_endsAll 36 (.aload_n 0) 1 37 := ⟨by decide +kernel, rfl⟩
theorem d_X3_endsAll_37 : x_dec m_X3_endsAll 37 (.getfield 12) 3 40 := ⟨by decide +kernel, rfl⟩
theorem d_X3_endsAll_40 : x_dec m_X3_endsAll 40 (.getfield 72) 3 43 := ⟨by decide +kernel, rfl⟩
theorem d_X3_endsAll_43 : x_dec m_X3_endsAll 43 (.if_icmp .ge 35) 3 46 := ⟨by decide +kernel, rfl⟩
theorem d_X3_endsAll_46 : x_dec m_X3_endsAll 46 (.iload_n 1) 1 47 := ⟨by decide +kernel, rfl⟩
theorem d_X3_endsAll_47 : x_dec m_X3_endsAll 47 (.iload 5) 2 49 := ⟨by decide +kernel, rfl⟩
theorem d_X3_endsAll_49 : x_dec m_X3_endsAll 49 (.invokestatic 208) 3 52 := ⟨by decide +kernel, rfl⟩
theorem d_X3_endsAll_52 : x_dec m_X3_endsAll 52 (.ifCond .ne 20) 3 55 := ⟨by decide +kernel, rfl⟩
theorem d_X3_endsAll_55 : x_dec m_X3_endsAll 55 (.iload 4) 2 57 := ⟨by decide +kernel, rfl⟩
theorem d_X3_endsAll_57 : x_dec m_X3_endsAll 57 (.aload_n 0) 1 58 := ⟨by decide +kernel, rfl⟩
theorem d_X3_endsAll_58 : x_dec m_X3_endsAll 58 (.getfield 39) 3 61 := ⟨by decide +kernel, rfl⟩
theorem d_X3_endsAll_61 : x_dec m_X3_endsAll 61 (.iload_n 3) 1 62 := ⟨by decide +kernel, rfl⟩
theorem d_X3_endsAll_62 : x_dec m_X3_endsAll 62 (.bipush 8) 2 64 := ⟨by decide +kernel, rfl⟩
theorem d_X3_endsAll_64 : x_dec m_X3_endsAll 64 (.imul) 1 65 := ⟨by decide +kernel, rfl⟩
theorem d_X3_endsAll_65 : x_dec m_X3_endsAll 65 (.iload 5) 2 67 := ⟨by decide +kernel, rfl⟩
theorem d_X3_endsAll_67 : x_dec m_X3_endsAll 67 (.iadd) 1 68 := ⟨by decide +kernel, rfl⟩
theorem d_X3_endsAll_68 : x_dec m_X3_endsAll 68 (.iaload) 1 69 := ⟨by decide +kernel, rfl⟩
theorem d_X3_endsAll_69 : x_dec m_X3_endsAll 69 (.iadd) 1 70 := ⟨by decide +kernel, rfl⟩
theorem d_X3_endsAll_70 : x_dec m_X3_endsAll 70 (.istore 4) 2 72 := ⟨by decide +kernel, rfl⟩
theorem d_X3_endsAll_72 : x_dec m_X3_endsAll 72 (.iinc 5 1) 3 75 := ⟨by decide +kernel, rfl⟩
theorem d_X3_endsAll_75 : x_dec m_X3_endsAll 75 (.goto (-41)) 3 78 := ⟨by decide +kernel, rfl⟩
theorem d_X3_endsAll_78 : x_dec m_X3_endsAll 78 (.iload 4) 2 80 := ⟨by decide +kernel, rfl⟩
theorem d_X3_endsAll_80 : x_dec m_X3_endsAll 80 (.aload_n 0) 1 81 := ⟨by decide +kernel, rfl⟩
theorem d_X3_endsAll_81 : x_dec m_X3_endsAll 81 (.getfield 12) 3 84 := ⟨by decide +kernel, rfl⟩
theorem d_X3_endsAll_84 : x_dec m_X3_endsAll 84 (.getfield 60) 3 87 := ⟨by decide +kernel, rfl⟩
theorem d_X3_endsAll_87 : x_dec m_X3_endsAll 87 (.iload_n 3) 1 88 := ⟨by decide +kernel, rfl⟩
theorem d_X3_endsAll_88 : x_dec m_X3_endsAll 88 (.iaload) 1 89 := ⟨by decide +kernel, rfl⟩
theorem d_X3_endsAll_89 : x_dec m_X3_endsAll 89 (.if_icmp .lt 5) 3 92 := ⟨by decide +kernel, rfl⟩
theorem d_X3_endsAll_92 : x_dec m_X3_endsAll 92 (.iconst 0) 1 93 := ⟨by decide +kernel, rfl⟩
theorem d_X3_endsAll_93 : x_dec m_X3_endsAll 93 (.ireturn) 1 94 := ⟨by decide +kernel, rfl⟩
theorem d_X3_endsAll_94 : x_dec m_X3_endsAll 94 (.iinc 3 1) 3 97 := ⟨by decide +kernel, rfl⟩
theorem d_X3_endsAll_97 : x_dec m_X3_endsAll 97 (.goto (-95)) 3 100 := ⟨by decide +kernel, rfl⟩
theorem d_X3_endsAll_100 : x_dec m_X3_endsAll 100 (.iconst 1) 1 101 := ⟨by decide +kernel, rfl⟩
theorem d_X3_endsAll_101 : x_dec m_X3_endsAll 101 (.ireturn) 1 102 := ⟨by decide +kernel, rfl⟩
set_option maxHeartbeats 4000000 in
set_option maxRecDepth 100000 in
theorem c_X3_endsAll (l : Launch) (E : x_E) (μ : x_Mem) {a : x_St} (hL : PR a 1 μ) (hI : WF a) (hB : ∀ k p, k < 16 → p < pn a → μ 31 (k * 8 + p) = bringsF a p (nI k)) {j : Nat} (hj : j < 256) : x_Met l m_X3_endsAll E [.ref (E.1 + 0), .int (nI j), .int (nI (setN (thereB a) 16))] μ (x_I (fun z m => z = x_b (endsB a j) ∧ m = μ)) := by
  have hn7 := hI.2.1
  have hpn := hI.1
  have h64 := setN_64 (thereB a) (n := 16) (by decide)
  refine x_enter (lv := [(0, .ref (E.1 + 0)), (1, .int (nI j)), (2, .int (nI (setN (thereB a) 16)))]) (by decide +kernel) (Nat.le_of_ble_eq_true rfl) rfl ?_
  refine x_iconst (x := 0) d_X3_endsAll_0 (by decide) ?_
  refine x_istore_n [(3, .int 0), (0, .ref (E.1 + 0)), (1, .int (nI j)), (2, .int (nI (setN (thereB a) 16)))] d_X3_endsAll_1 rfl (Nat.le_of_ble_eq_true rfl) rfl ?_
  have L1 : ∀ k : Nat, k ≤ 16 → (∀ k1, k1 < k → (fun k => thereB a k && decide (0 < a (8 + k)) && decide (a (8 + k) ≤ restF a j k)) k1 = false) → x_G l E m_X3_endsAll (x_mv E m_X3_endsAll (x_I (fun z m => z = x_b (endsB a j) ∧ m = μ))) μ 2 [(3, .int (nI k)), (0, .ref (E.1 + 0)), (1, .int (nI j)), (2, .int (nI (setN (thereB a) 16)))] [] := by
    refine x_down _ 16 (fun k hi3 ih2 => ?_)
    intro hq
    refine x_iload_n 0 d_X3_endsAll_2 rfl rfl ?_
    refine x_bipush (x := 16) d_X3_endsAll_3 (by decide) ?_
    refine x_icmp_ge 100 d_X3_endsAll_5 (by decide) (fun c4 => ?_) (fun c4 => ?_)
    · skip
      have hN := x_ge (N := 16) c4 rfl rfl (by omega) (by omega)
      refine x_iconst (x := 1) d_X3_endsAll_100 (by decide) ?_
      refine x_zret1 rfl d_X3_endsAll_101 ?_
      refine ⟨congrArg x_b ?_, rfl⟩
      unfold endsB
      rw [anyTo_f (f := (fun k => thereB a k && decide (0 < a (8 + k)) && decide (a (8 + k) ≤ restF a j k))) (fun k1 hk1 => hq k1 (by omega))]
      rfl
    · skip
      have hk16 := x_lt (N := 16) c4 rfl rfl (by omega) (by omega)
      refine x_iload_n 3 d_X3_endsAll_8 rfl rfl ?_
      refine x_iload_n 0 d_X3_endsAll_9 rfl rfl ?_
      refine x_csip (as := [.int (nI (setN (thereB a) 16)), .int (nI k)]) (c_X3_has l E μ (n := (setN (thereB a) 16)) (p := k) (by omega) (by omega)) v_X3_has q363 q447 rfl ⟨Nat.le_of_ble_eq_true rfl, Nat.le_of_ble_eq_true rfl⟩ rfl (Nat.le_of_ble_eq_true rfl) d_X3_endsAll_10 ?_
      rw [show (setN (thereB a) 16).testBit k = thereB a k from by rw [setN_bit]; simp [hk16]]
      refine x_ifb_eq 94 d_X3_endsAll_13 (by decide) (fun c5 => ?_) (fun c5 => ?_)
      · skip
        refine x_iinc [(3, .int (nI (k + 1))), (0, .ref (E.1 + 0)), (1, .int (nI j)), (2, .int (nI (setN (thereB a) 16)))] 0 d_X3_endsAll_94 rfl (x_inc _) (Nat.le_of_ble_eq_true rfl) rfl ?_
        refine x_goto 2 d_X3_endsAll_97 (by decide) ?_
        exact ih2 (k + 1) (by omega) (by omega) (lt_s hq (by dsimp only; rw [c5]; rfl))
      · skip
        refine x_aload_n 1 d_X3_endsAll_16 rfl rfl ?_
        refine x_getr (j := 0) 1 x_c3 rfl (Nat.le_of_ble_eq_true rfl) q147 rfl d_X3_endsAll_17 ?_
        refine x_getr (j := 0) (1 + 1) x_c0 (p_kd x_pr1) (Nat.le_of_ble_eq_true rfl) q32 (p_f0 x_pr1) d_X3_endsAll_20 ?_
        refine x_iload_n 0 d_X3_endsAll_23 rfl rfl ?_
        refine x_ialdN (z := a (8 + k)) 16 k (p_k1 x_pr1) (p_l1 x_pr1) (by omega) (by decide) (PR.need hL k (by omega)) d_X3_endsAll_24 ?_
        refine x_if_le 94 d_X3_endsAll_25 (by decide) (fun c6 => ?_) (fun c6 => ?_)
        · skip
          refine x_iinc [(3, .int (nI (k + 1))), (0, .ref (E.1 + 0)), (1, .int (nI j)), (2, .int (nI (setN (thereB a) 16)))] 0 d_X3_endsAll_94 rfl (x_inc _) (Nat.le_of_ble_eq_true rfl) rfl ?_
          refine x_goto 2 d_X3_endsAll_97 (by decide) ?_
          exact ih2 (k + 1) (by omega) (by omega) (lt_s hq (by dsimp only; rw [decide_eq_false (Int32.not_lt.mpr c6)]; simp))
        · skip
          refine x_iconst (x := 0) d_X3_endsAll_28 (by decide) ?_
          refine x_istore [(4, .int 0), (3, .int (nI k)), (0, .ref (E.1 + 0)), (1, .int (nI j)), (2, .int (nI (setN (thereB a) 16)))] d_X3_endsAll_29 (Nat.le_of_ble_eq_true rfl) rfl ?_
          refine x_iconst (x := 0) d_X3_endsAll_31 (by decide) ?_
          refine x_istore [(5, .int 0), (4, .int 0), (3, .int (nI k)), (0, .ref (E.1 + 0)), (1, .int (nI j)), (2, .int (nI (setN (thereB a) 16)))] d_X3_endsAll_32 (Nat.le_of_ble_eq_true rfl) rfl ?_
          have L7 : ∀ p : Nat, p ≤ pn a → ∀ r : Int32, (r = sumTo (fun p => if j.testBit p = true then 0 else bringsF a p (nI k)) p) → x_G l E m_X3_endsAll (x_mv E m_X3_endsAll (x_I (fun z m => z = x_b (endsB a j) ∧ m = μ))) μ 34 [(5, .int (nI p)), (4, .int r), (3, .int (nI k)), (0, .ref (E.1 + 0)), (1, .int (nI j)), (2, .int (nI (setN (thereB a) 16)))] [] := by
            refine x_down _ (pn a) (fun p hi9 ih8 => ?_)
            intro r hr
            refine x_iload 0 d_X3_endsAll_34 rfl ?_
            refine x_aload_n 3 d_X3_endsAll_36 rfl rfl ?_
            refine x_getr (j := 0) 1 x_c3 rfl (Nat.le_of_ble_eq_true rfl) q147 rfl d_X3_endsAll_37 ?_
            refine x_getiV (j := 5) (z := nI (pn a)) x_c0 (p_kd x_pr1) (Nat.le_of_ble_eq_true rfl) q43 (p_n5 x_pr1) ((PR.f5 hL).trans hn7) d_X3_endsAll_40 ?_
            refine x_icmp_ge 78 d_X3_endsAll_43 (by decide) (fun c10 => ?_) (fun c10 => ?_)
            · skip
              have hN2 := x_ge (N := pn a) c10 rfl rfl (by omega) (by omega)
              refine x_iload 1 d_X3_endsAll_78 rfl ?_
              refine x_aload_n 3 d_X3_endsAll_80 rfl rfl ?_
              refine x_getr (j := 0) 1 x_c3 rfl (Nat.le_of_ble_eq_true rfl) q147 rfl d_X3_endsAll_81 ?_
              refine x_getr (j := 0) (1 + 1) x_c0 (p_kd x_pr1) (Nat.le_of_ble_eq_true rfl) q32 (p_f0 x_pr1) d_X3_endsAll_84 ?_
              refine x_iload_n 2 d_X3_endsAll_87 rfl rfl ?_
              refine x_ialdN (z := a (8 + k)) 16 k (p_k1 x_pr1) (p_l1 x_pr1) (by omega) (by decide) (PR.need hL k (by omega)) d_X3_endsAll_88 ?_
              refine x_icmp_lt 94 d_X3_endsAll_89 (by decide) (fun c11 => ?_) (fun c11 => ?_)
              · skip
                refine x_iinc [(3, .int (nI (k + 1))), (5, .int (nI p)), (4, .int r), (0, .ref (E.1 + 0)), (1, .int (nI j)), (2, .int (nI (setN (thereB a) 16)))] 2 d_X3_endsAll_94 rfl (x_inc _) (Nat.le_of_ble_eq_true rfl) rfl ?_
                refine x_goto 2 d_X3_endsAll_97 (by decide) ?_
                refine x_lv [0, 3, 4, 5] rfl ?_
                exact ih2 (k + 1) (by omega) (by omega) (lt_s hq (by dsimp only; rw [decide_eq_false (show ¬ a (8 + k) ≤ restF a j k from fun z => Int32.not_le.mpr c11 (by rw [hr, show p = pn a by omega]; exact z))]; simp))
              · skip
                refine x_iconst (x := 0) d_X3_endsAll_92 (by decide) ?_
                refine x_zret0 rfl d_X3_endsAll_93 ?_
                refine ⟨congrArg x_b ?_, rfl⟩
                unfold endsB
                rw [anyTo_t (f := (fun k => thereB a k && decide (0 < a (8 + k)) && decide (a (8 + k) ≤ restF a j k))) (p := k) hk16 (by rw [c5, decide_eq_true (Int32.not_le.mp c6), decide_eq_true (show a (8 + k) ≤ restF a j k from by have z := Int32.not_lt.mp c11; rw [hr, show p = pn a by omega] at z; exact z)]; rfl)]
                rfl
            · skip
              have hN2 := x_lt (N := pn a) c10 rfl rfl (by omega) (by omega)
              refine x_iload_n 4 d_X3_endsAll_46 rfl rfl ?_
              refine x_iload 0 d_X3_endsAll_47 rfl ?_
              refine x_csip (as := [.int (nI j), .int (nI p)]) (c_X3_has l E μ (n := j) (p := p) (by omega) (by omega)) v_X3_has q363 q447 rfl ⟨Nat.le_of_ble_eq_true rfl, Nat.le_of_ble_eq_true rfl⟩ rfl (Nat.le_of_ble_eq_true rfl) d_X3_endsAll_49 ?_
              refine x_ifb_ne 72 d_X3_endsAll_52 (by decide) (fun c12 => ?_) (fun c12 => ?_)
              · skip
                refine x_iinc [(5, .int (nI (p + 1))), (4, .int r), (3, .int (nI k)), (0, .ref (E.1 + 0)), (1, .int (nI j)), (2, .int (nI (setN (thereB a) 16)))] 0 d_X3_endsAll_72 rfl (x_inc _) (Nat.le_of_ble_eq_true rfl) rfl ?_
                refine x_goto 34 d_X3_endsAll_75 (by decide) ?_
                exact ih8 (p + 1) (by omega) (by omega) r (by rw [hr, sumTo, if_pos c12]; simp)
              · skip
                refine x_iload 1 d_X3_endsAll_55 rfl ?_
                refine x_aload_n 3 d_X3_endsAll_57 rfl rfl ?_
                refine x_getr (j := 6) 31 x_c3 rfl (Nat.le_of_ble_eq_true rfl) q153 rfl d_X3_endsAll_58 ?_
                refine x_iload_n 2 d_X3_endsAll_61 rfl rfl ?_
                refine x_bipush (x := 8) d_X3_endsAll_62 (by decide) ?_
                refine x_imul d_X3_endsAll_64 ?_
                refine x_iload 0 d_X3_endsAll_65 rfl ?_
                refine x_iadd d_X3_endsAll_67 ?_
                rw [show nI k * 8 + nI p = nI (k * 8 + p) from by rw [show (8 : Int32) = nI 8 from rfl, pk_mul, nI_add]]
                refine x_ialdN (z := bringsF a p (nI k)) 128 (k * 8 + p) rfl rfl (by omega) (by decide) (hB k p (by omega) (by omega)) d_X3_endsAll_68 ?_
                refine x_iadd d_X3_endsAll_69 ?_
                refine x_istore [(4, .int (r + (bringsF a p (nI k)))), (5, .int (nI p)), (3, .int (nI k)), (0, .ref (E.1 + 0)), (1, .int (nI j)), (2, .int (nI (setN (thereB a) 16)))] d_X3_endsAll_70 (Nat.le_of_ble_eq_true rfl) rfl ?_
                refine x_iinc [(5, .int (nI (p + 1))), (4, .int (r + (bringsF a p (nI k)))), (3, .int (nI k)), (0, .ref (E.1 + 0)), (1, .int (nI j)), (2, .int (nI (setN (thereB a) 16)))] 1 d_X3_endsAll_72 rfl (x_inc _) (Nat.le_of_ble_eq_true rfl) rfl ?_
                refine x_goto 34 d_X3_endsAll_75 (by decide) ?_
                exact ih8 (p + 1) (by omega) (by omega) (r + (bringsF a p (nI k))) (by rw [hr, sumTo, if_neg (by rw [c12]; decide)])
          exact L7 0 (by omega) 0 (by rfl)
  exact L1 0 (by omega) (fun _ h => absurd h (Nat.not_lt_zero _))
def m_X3_run : x_M := (yX3_run, prog_1_method_35_code, 5, (some FieldType.int), 6, 140)
theorem v_X3_run : x_VM m_X3_run 0 := ⟨q438, q1, by decide +kernel, by decide +kernel, by decide +kernel⟩
theorem w_X3_run : x_VI m_X3_run := ⟨q436, q437⟩
theorem d_X3_run_0 : x_dec m_X3_run 0 (.aload_n 0) 1 1 := ⟨by decide +kernel, rfl⟩
theorem d_X3_run_1 : x_dec m_X3_run 1 (.invokevirtual 201) 3 4 := ⟨by decide +kernel, rfl⟩
theorem d_X3_run_4 : x_dec m_X3_run 4 (.aload_n 0) 1 5 := ⟨by decide +kernel, rfl⟩
theorem d_X3_run_5 : x_dec m_X3_run 5 (.getfield 12) 3 8 := ⟨by decide +kernel, rfl⟩
theorem d_X3_run_8 : x_dec m_X3_run 8 (.invokevirtual 124) 3 11 := ⟨by decide +kernel, rfl⟩
theorem d_X3_run_11 : x_dec m_X3_run 11 (.istore_n 1) 1 12 := ⟨by decide +kernel, rfl⟩
theorem d_X3_run_12 : x_dec m_X3_run 12 (.aload_n 0) 1 13 := ⟨by decide +kernel, rfl⟩
theorem d_X3_run_13 : x_dec m_X3_run 13 (.invokevirtual 148) 3 16 := ⟨by decide +kernel, rfl⟩
theorem d_X3_run_16 : x_dec m_X3_run 16 (.istore_n 2) 1 17 := ⟨by decide +kernel, rfl⟩
theorem d_X3_run_17 : x_dec m_X3_run 17 (.iconst 0) 1 18 := ⟨by decide +kernel, rfl⟩
theorem d_X3_run_18 : x_dec m_X3_run 18 (.istore_n 3) 1 19 := ⟨by decide +kernel, rfl⟩
theorem d_X3_run_19 : x_dec m_X3_run 19 (.iload_n 3) 1 20 := ⟨by decide +kernel, rfl⟩
theorem d_X3_run_20 : x_dec m_X3_run 20 (.aload_n 0) 1 21 := ⟨by decide +kernel, rfl⟩
theorem d_X3_run_21 : x_dec m_X3_run 21 (.getfield 12) 3 24 := ⟨by decide +kernel, rfl⟩
theorem d_X3_run_24 : x_dec m_X3_run 24 (.getfield 72) 3 27 := ⟨by decide +kernel, rfl⟩
theorem d_X3_run_27 : x_dec m_X3_run 27 (.if_icmp .gt 46) 3 30 := ⟨by decide +kernel, rfl⟩
theorem d_X3_run_30 : x_dec m_X3_run 30 (.iconst 0) 1 31 := ⟨by decide +kernel, rfl⟩
theorem d_X3_run_31 : x_dec m_X3_run 31 (.istore 4) 2 33 := ⟨by decide +kernel, rfl⟩
theorem d_X3_run_33 : x_dec m_X3_run 33 (.iload 4) 2 35 := ⟨by decide +kernel, rfl⟩
theorem d_X3_run_35 : x_dec m_X3_run 35 (.iload_n 2) 1 36 := ⟨by decide +kernel, rfl⟩
theorem d_X3_run_36 : x_dec m_X3_run 36 (.if_icmp .ge 31) 3 39 := ⟨by decide +kernel, rfl⟩
theorem d_X3_run_39 : x_dec m_X3_run 39 (.iload 4) 2 41 := ⟨by decide +kernel, rfl⟩
theorem d_X3_run_41 : x_dec m_X3_run 41 (.invokestatic 155) 3 44 := ⟨by decide +kernel, rfl⟩
theorem d_X3_run_44 : x_dec m_X3_run 44 (.iload_n 3) 1 45 := ⟨by decide +kernel, rfl⟩
theorem d_X3_run_45 : x_dec m_X3_run 45 (.if_icmp .ne 16) 3 48 := ⟨by decide +kernel, rfl⟩
theorem d_X3_run_48 : x_dec m_X3_run 48 (.aload_n 0) 1 49 := ⟨by decide +kernel, rfl⟩
theorem d_X3_run_49 : x_dec m_X3_run 49 (.iload 4) 2 51 := ⟨by decide +kernel, rfl⟩
theorem d_X3_run_51 : x_dec m_X3_run 51 (.iload_n 1) 1 52 := ⟨by decide +kernel, rfl⟩
theorem d_X3_run_52 : x_dec m_X3_run 52 (.invokevirtual 204) 3 55 := ⟨by decide +kernel, rfl⟩
theorem d_X3_run_55 : x_dec m_X3_run 55 (.ifCond .eq 6) 3 58 := ⟨by decide +kernel, rfl⟩
theorem d_X3_run_58 : x_dec m_X3_run 58 (.iload 4) 2 60 := ⟨by decide +kernel, rfl⟩
theorem d_X3_run_60 : x_dec m_X3_run 60 (.ireturn) 1 61 := ⟨by decide +kernel, rfl⟩
theorem d_X3_run_61 : x_dec m_X3_run 61 (.iinc 4 1) 3 64 := ⟨by decide +kernel, rfl⟩
theorem d_X3_run_64 : x_dec m_X3_run 64 (.goto (-31)) 3 67 := ⟨by decide +kernel, rfl⟩
theorem d_X3_run_67 : x_dec m_X3_run 67 (.iinc 3 1) 3 70 := ⟨by decide +kernel, rfl⟩
theorem d_X3_run_70 : x_dec m_X3_run 70 (.goto (-51)) 3 73 := ⟨by decide +kernel, rfl⟩
theorem d_X3_run_73 : x_dec m_X3_run 73 (.iload_n 2) 1 74 := ⟨by decide +kernel, rfl⟩
theorem d_X3_run_74 : x_dec m_X3_run 74 (.iconst 1) 1 75 := ⟨by decide +kernel, rfl⟩
theorem d_X3_run_75 : x_dec m_X3_run 75 (.isub) 1 76 := ⟨by decide +kernel, rfl⟩
theorem d_X3_run_76 : x_dec m_X3_run 76 (.ireturn) 1 77 := ⟨by decide +kernel, rfl⟩
set_option maxHeartbeats 4000000 in
set_option maxRecDepth 100000 in
theorem c_X3_run (l : Launch) (E : x_E) (μ : x_Mem) (g : x_SG) (hS : XS g μ) (hI : Inv g) : x_Met l m_X3_run E [.ref (E.1 + 0)] μ (x_I (fun z m => z = (F_run g).1 ∧ XS (F_run g).2 m ∧ ∀ id, 41 ≤ id → m id = μ id)) := by
  obtain ⟨hL, hH, hX, hD⟩ := hS
  have hWF := hI.1.1
  have hn7 := hWF.2.1
  have hpn := hWF.1
  have hF : ∀ id, 41 ≤ id → μ id = μ id := fun _ _ => rfl
  have h2p := pow8 hpn
  have h2q := Nat.one_le_two_pow (n := pn (gA g))
  have h64 := setN_64 (thereB (gA g)) (n := 16) (by decide)
  refine x_enter (lv := [(0, .ref (E.1 + 0))]) (by decide +kernel) (Nat.le_of_ble_eq_true rfl) rfl ?_
  refine x_aload_n 0 d_X3_run_0 rfl rfl ?_
  refine x_cvv (k := 0) (as := []) (c_X3_noteWhatIsBrought l E μ hL hWF) v_X3_noteWhatIsBrought w_X3_noteWhatIsBrought q439 o_X rfl ⟨Nat.le_of_ble_eq_true rfl, Nat.le_of_ble_eq_true rfl⟩ rfl (Nat.le_of_ble_eq_true rfl) d_X3_run_1 ?_
  rintro μ1 ⟨hB2, hF3⟩
  have hL4 := PR.cg hL (μ' := μ1) (fun id hid => (hF3 _ (by omega)))
  have hLH5 := hH
  rw [← (show μ1 1 = μ 1 from (hF3 _ (by omega)))] at hLH5
  have hX6 := XR.cg hX (μ' := μ1) (fun id hid => (hF3 _ (by omega)))
  have hD7 := XD.cg hD (μ' := μ1) (fun id hid => (hF3 _ (by omega)))
  have hF8 : ∀ id, 41 ≤ id → μ1 id = μ id := fun id hid => (show μ1 id = μ id from (hF3 _ (by omega))).trans (hF id hid)
  refine x_aload_n 0 d_X3_run_4 rfl rfl ?_
  refine x_getr (j := 0) 1 x_c3 rfl (Nat.le_of_ble_eq_true rfl) q147 rfl d_X3_run_5 ?_
  refine x_cvip (k := 1) (as := []) (c_X0_thereSet l E μ1 x_pr1 hL4 hWF) v_X0_thereSet w_X0_thereSet q296 (p_ob x_pr1) rfl ⟨Nat.le_of_ble_eq_true rfl, Nat.le_of_ble_eq_true rfl⟩ rfl (Nat.le_of_ble_eq_true rfl) d_X3_run_8 ?_
  rw [thereN]
  refine x_istore_n [(1, .int (nI (setN (thereB (gA g)) 16))), (0, .ref (E.1 + 0))] d_X3_run_11 rfl (Nat.le_of_ble_eq_true rfl) rfl ?_
  refine x_aload_n 1 d_X3_run_12 rfl rfl ?_
  refine x_cvip (k := 0) (as := []) (c_X3_setsOfPeople l E μ1 hL4 hWF) v_X3_setsOfPeople w_X3_setsOfPeople q350 o_X rfl ⟨Nat.le_of_ble_eq_true rfl, Nat.le_of_ble_eq_true rfl⟩ rfl (Nat.le_of_ble_eq_true rfl) d_X3_run_13 ?_
  refine x_istore_n [(2, .int (nI (2 ^ pn (gA g)))), (1, .int (nI (setN (thereB (gA g)) 16))), (0, .ref (E.1 + 0))] d_X3_run_16 rfl (Nat.le_of_ble_eq_true rfl) rfl ?_
  refine x_iconst (x := 0) d_X3_run_17 (by decide) ?_
  refine x_istore_n [(3, .int 0), (2, .int (nI (2 ^ pn (gA g)))), (1, .int (nI (setN (thereB (gA g)) 16))), (0, .ref (E.1 + 0))] d_X3_run_18 rfl (Nat.le_of_ble_eq_true rfl) rfl ?_
  have L9 : ∀ z : Nat, z ≤ pn (gA g) + 1 → ∀ μ12 : x_Mem, (PR (gA g) 1 μ12) → (μ12 1 11 = gA g 0) → (XR g μ12) → (XD (gF g) μ12) → (∀ id, 41 ≤ id → μ12 id = μ id) → (∀ k p, k < 16 → p < pn (gA g) → μ12 31 (k * 8 + p) = bringsF (gA g) p (nI k)) → (∀ s, s < 2 ^ pn (gA g) → popN 8 s < z → (endsB (gA g)) s = false) → x_G l E m_X3_run (x_mv E m_X3_run (x_I (fun z m => z = (F_run g).1 ∧ XS (F_run g).2 m ∧ ∀ id, 41 ≤ id → m id = μ id))) μ12 19 [(3, .int (nI z)), (2, .int (nI (2 ^ pn (gA g)))), (1, .int (nI (setN (thereB (gA g)) 16))), (0, .ref (E.1 + 0))] [] := by
    refine x_down _ (pn (gA g) + 1) (fun z hi11 ih10 => ?_)
    intro μ12 hL1 hH1 hX1 hD1 hF1 hB1 ho
    refine x_iload_n 0 d_X3_run_19 rfl rfl ?_
    refine x_aload_n 3 d_X3_run_20 rfl rfl ?_
    refine x_getr (j := 0) 1 x_c3 rfl (Nat.le_of_ble_eq_true rfl) q147 rfl d_X3_run_21 ?_
    refine x_getiV (j := 5) (z := nI (pn (gA g))) x_c0 (p_kd x_pr1) (Nat.le_of_ble_eq_true rfl) q43 (p_n5 x_pr1) ((PR.f5 hL1).trans hn7) d_X3_run_24 ?_
    refine x_icmp_gt 73 d_X3_run_27 (by decide) (fun c13 => ?_) (fun c13 => ?_)
    · skip
      have hN := (nI_ltI (a := pn (gA g)) (b := z) (by omega) (by omega)).mp c13
      refine x_iload_n 1 d_X3_run_73 rfl rfl ?_
      refine x_iconst (x := 1) d_X3_run_74 (by decide) ?_
      refine x_isub d_X3_run_75 ?_
      refine x_iret rfl d_X3_run_76 ?_
      have e8 := fewest_end hpn hN ho (2 ^ pn (gA g) - 1) (by omega)
      rw [endsB_full hpn] at e8
      exact absurd e8 (by decide)
    · skip
      have hN : ¬ pn (gA g) < z := fun q => c13 (nI_lt q (by omega))
      refine x_iconst (x := 0) d_X3_run_30 (by decide) ?_
      refine x_istore [(4, .int 0), (3, .int (nI z)), (2, .int (nI (2 ^ pn (gA g)))), (1, .int (nI (setN (thereB (gA g)) 16))), (0, .ref (E.1 + 0))] d_X3_run_31 (Nat.le_of_ble_eq_true rfl) rfl ?_
      have L14 : ∀ j : Nat, j ≤ 2 ^ pn (gA g) → ∀ μ17 : x_Mem, (PR (gA g) 1 μ17) → (μ17 1 11 = gA g 0) → (XR g μ17) → (XD (gF g) μ17) → (∀ id, 41 ≤ id → μ17 id = μ id) → (∀ k p, k < 16 → p < pn (gA g) → μ17 31 (k * 8 + p) = bringsF (gA g) p (nI k)) → (∀ s, s < 2 ^ pn (gA g) → popN 8 s < z → (endsB (gA g)) s = false) → (∀ s, s < j → popN 8 s = z → (endsB (gA g)) s = false) → x_G l E m_X3_run (x_mv E m_X3_run (x_I (fun z m => z = (F_run g).1 ∧ XS (F_run g).2 m ∧ ∀ id, 41 ≤ id → m id = μ id))) μ17 33 [(4, .int (nI j)), (3, .int (nI z)), (2, .int (nI (2 ^ pn (gA g)))), (1, .int (nI (setN (thereB (gA g)) 16))), (0, .ref (E.1 + 0))] [] := by
        refine x_down _ (2 ^ pn (gA g)) (fun j hi16 ih15 => ?_)
        intro μ17 hL1 hH1 hX1 hD1 hF1 hB1 ho hi1
        refine x_iload 0 d_X3_run_33 rfl ?_
        refine x_iload_n 2 d_X3_run_35 rfl rfl ?_
        refine x_icmp_ge 67 d_X3_run_36 (by decide) (fun c18 => ?_) (fun c18 => ?_)
        · skip
          have hN := x_ge (N := 2 ^ pn (gA g)) c18 rfl rfl (by omega) (by omega)
          refine x_iinc [(3, .int (nI (z + 1))), (4, .int (nI j)), (2, .int (nI (2 ^ pn (gA g)))), (1, .int (nI (setN (thereB (gA g)) 16))), (0, .ref (E.1 + 0))] 1 d_X3_run_67 rfl (x_inc _) (Nat.le_of_ble_eq_true rfl) rfl ?_
          refine x_goto 19 d_X3_run_70 (by decide) ?_
          refine x_lv [0, 2, 3, 4] rfl ?_
          exact ih10 (z + 1) (by omega) (by omega) μ17 hL1 hH1 hX1 hD1 hF1 hB1 (fewest_out ho hi1 hN)
        · skip
          have hN := x_lt (N := 2 ^ pn (gA g)) c18 rfl rfl (by omega) (by omega)
          refine x_iload 0 d_X3_run_39 rfl ?_
          refine x_csip (as := [.int (nI j)]) (c_J_bitCount l E μ17 (s := j) (by omega)) v_J_bitCount q370 q369 rfl ⟨Nat.le_of_ble_eq_true rfl, Nat.le_of_ble_eq_true rfl⟩ rfl (Nat.le_of_ble_eq_true rfl) d_X3_run_41 ?_
          refine x_iload_n 1 d_X3_run_44 rfl rfl ?_
          refine x_icmp_ne 61 d_X3_run_45 (by decide) (fun c19 => ?_) (fun c19 => ?_)
          · skip
            refine x_iinc [(4, .int (nI (j + 1))), (3, .int (nI z)), (2, .int (nI (2 ^ pn (gA g)))), (1, .int (nI (setN (thereB (gA g)) 16))), (0, .ref (E.1 + 0))] 0 d_X3_run_61 rfl (x_inc _) (Nat.le_of_ble_eq_true rfl) rfl ?_
            refine x_goto 33 d_X3_run_64 (by decide) ?_
            exact ih15 (j + 1) (by omega) (by omega) μ17 hL1 hH1 hX1 hD1 hF1 hB1 ho (fewest_step (by omega) hi1 (Or.inl c19))
          · skip
            refine x_aload_n 4 d_X3_run_48 rfl rfl ?_
            refine x_iload 0 d_X3_run_49 rfl ?_
            refine x_iload_n 3 d_X3_run_51 rfl rfl ?_
            refine x_cvip (k := 0) (as := [.int (nI j), .int (nI (setN (thereB (gA g)) 16))]) (c_X3_endsAll l E μ17 hL1 hWF hB1 (j := j) (by omega)) v_X3_endsAll w_X3_endsAll q443 o_X rfl ⟨Nat.le_of_ble_eq_true rfl, Nat.le_of_ble_eq_true rfl⟩ rfl (Nat.le_of_ble_eq_true rfl) d_X3_run_52 ?_
            refine x_ifb_eq 61 d_X3_run_55 (by decide) (fun c20 => ?_) (fun c20 => ?_)
            · skip
              refine x_iinc [(4, .int (nI (j + 1))), (3, .int (nI z)), (2, .int (nI (2 ^ pn (gA g)))), (1, .int (nI (setN (thereB (gA g)) 16))), (0, .ref (E.1 + 0))] 0 d_X3_run_61 rfl (x_inc _) (Nat.le_of_ble_eq_true rfl) rfl ?_
              refine x_goto 33 d_X3_run_64 (by decide) ?_
              exact ih15 (j + 1) (by omega) (by omega) μ17 hL1 hH1 hX1 hD1 hF1 hB1 ho (fewest_step (by omega) hi1 (Or.inr c20))
            · skip
              refine x_iload 0 d_X3_run_58 rfl ?_
              refine x_iret rfl d_X3_run_60 ?_
              have e5 := pop_eq (by omega) (by omega) c19
              have e8 := fewTo_some (f := (endsB (gA g))) (n := 2 ^ pn (gA g)) (j := j) (by omega) c20 (fun s hs hp => ho s hs (by omega)) (fun s hs hp => hi1 s hs (by omega))
              have e9 : F_run g = (nI j, g) := by simp [F_run, x_b_f, x_b_t, e8]
              rw [e9]
              exact ⟨rfl, ⟨hL1, hH1, hX1, hD1⟩, hF1⟩
      exact L14 0 (by omega) μ12 hL1 hH1 hX1 hD1 hF1 hB1 ho (fun _ h => absurd h (Nat.not_lt_zero _))
  exact L9 0 (by omega) μ1 hL4 hLH5 hX6 hD7 hF8 hB2 (fun _ _ h => absurd h (Nat.not_lt_zero _))
def m_X3_gold : x_M := (yX3_gold, prog_1_method_38_code, 4, (some FieldType.int), 5, 118)
theorem v_X3_gold : x_VM m_X3_gold 1 := ⟨q451, q1, by decide +kernel, by decide +kernel, by decide +kernel⟩
theorem w_X3_gold : x_VI m_X3_gold := ⟨q449, q450⟩
theorem d_X3_gold_0 : x_dec m_X3_gold 0 (.iload_n 1) 1 1 := ⟨by decide +kernel, rfl⟩
theorem d_X3_gold_1 : x_dec m_X3_gold 1 (.iconst 1) 1 2 := ⟨by decide +kernel, rfl⟩
theorem d_X3_gold_2 : x_dec m_X3_gold 2 (.bipush 20) 2 4 := ⟨by decide +kernel, rfl⟩
theorem d_X3_gold_4 : x_dec m_X3_gold 4 (.invokestatic 51) 3 7 := ⟨by decide +kernel, rfl⟩
theorem d_X3_gold_7 : x_dec m_X3_gold 7 (.ifCond .ne 10) 3 10 := ⟨by decide +kernel, rfl⟩
theorem d_X3_gold_10 : x_dec m_X3_gold 10 (.aload_n 0) 1 11 := ⟨by decide +kernel, rfl⟩
theorem d_X3_gold_11 : x_dec m_X3_gold 11 (.ldc 55) 2 13 := ⟨by decide +kernel, rfl⟩
theorem d_X3_gold_13 : x_dec m_X3_gold 13 (.invokevirtual 56) 3 16 := ⟨by decide +kernel, rfl⟩
theorem d_X3_gold_16 : x_dec m_X3_gold 16 (.ireturn) 1 17 := ⟨by decide +kernel, rfl⟩
theorem d_X3_gold_17 : x_dec m_X3_gold 17 (.aload_n 0) 1 18 := ⟨by decide +kernel, rfl⟩
theorem d_X3_gold_18 : x_dec m_X3_gold 18 (.getfield 12) 3 21 := ⟨by decide +kernel, rfl⟩
theorem d_X3_gold_21 : x_dec m_X3_gold 21 (.getfield 112) 3 24 := ⟨by decide +kernel, rfl⟩
theorem d_X3_gold_24 : x_dec m_X3_gold 24 (.iload_n 1) 1 25 := ⟨by decide +kernel, rfl⟩
theorem d_X3_gold_25 : x_dec m_X3_gold 25 (.iadd) 1 26 := ⟨by decide +kernel, rfl⟩
theorem d_X3_gold_26 : x_dec m_X3_gold 26 (.ldc 115) 2 28 := ⟨by decide +kernel, rfl⟩
theorem d_X3_gold_28 : x_dec m_X3_gold 28 (.if_icmp .le 10) 3 31 := ⟨by decide +kernel, rfl⟩
theorem d_X3_gold_31 : x_dec m_X3_gold 31 (.aload_n 0) 1 32 := ⟨by decide +kernel, rfl⟩
theorem d_X3_gold_32 : x_dec m_X3_gold 32 (.ldc 111) 2 34 := ⟨by decide +kernel, rfl⟩
theorem d_X3_gold_34 : x_dec m_X3_gold 34 (.invokevirtual 56) 3 37 := ⟨by decide +kernel, rfl⟩
theorem d_X3_gold_37 : x_dec m_X3_gold 37 (.ireturn) 1 38 := ⟨by decide +kernel, rfl⟩
theorem d_X3_gold_38 : x_dec m_X3_gold 38 (.iconst 0) 1 39 := ⟨by decide +kernel, rfl⟩
theorem d_X3_gold_39 : x_dec m_X3_gold 39 (.istore_n 2) 1 40 := ⟨by decide +kernel, rfl⟩
theorem d_X3_gold_40 : x_dec m_X3_gold 40 (.iload_n 2) 1 41 := ⟨by decide +kernel, rfl⟩
theorem d_X3_gold_41 : x_dec m_X3_gold 41 (.iload_n 1) 1 42 := ⟨by decide +kernel, rfl⟩
theorem d_X3_gold_42 : x_dec m_X3_gold 42 (.if_icmp .ge 53) 3 45 := ⟨by decide +kernel, rfl⟩
theorem d_X3_gold_45 : x_dec m_X3_gold 45 (.aload_n 0) 1 46 := ⟨by decide +kernel, rfl⟩
theorem d_X3_gold_46 : x_dec m_X3_gold 46 (.getfield 12) 3 49 := ⟨by decide +kernel, rfl⟩
theorem d_X3_gold_49 : x_dec m_X3_gold 49 (.invokevirtual 211) 3 52 := ⟨by decide +kernel, rfl⟩
theorem d_X3_gold_52 : x_dec m_X3_gold 52 (.bipush 16) 2 54 := ⟨by decide +kernel, rfl⟩
theorem d_X3_gold_54 : x_dec m_X3_gold 54 (.irem) 1 55 := ⟨by decide +kernel, rfl⟩
theorem d_X3_gold_55 : x_dec m_X3_gold 55 (.istore_n 3) 1 56 := ⟨by decide +kernel, rfl⟩
theorem d_X3_gold_56 : x_dec m_X3_gold 56 (.aload_n 0) 1 57 := ⟨by decide +kernel, rfl⟩
theorem d_X3_gold_57 : x_dec m_X3_gold 57 (.getfield 12) 3 60 := ⟨by decide +kernel, rfl⟩
theorem d_X3_gold_60 : x_dec m_X3_gold 60 (.getfield 60) 3 63 := ⟨by decide +kernel, rfl⟩
theorem d_X3_gold_63 : x_dec m_X3_gold 63 (.iload_n 3) 1 64 := ⟨by decide +kernel, rfl⟩
theorem d_X3_gold_64 : x_dec m_X3_gold 64 (.iconst 0) 1 65 := ⟨by decide +kernel, rfl⟩
theorem d_X3_gold_65 : x_dec m_X3_gold 65 (.aload_n 0) 1 66 := ⟨by decide +kernel, rfl⟩
theorem d_X3_gold_66 : x_dec m_X3_gold 66 (.getfield 12) 3 69 := ⟨by decide +kernel, rfl⟩
theorem d_X3_gold_69 : x_dec m_X3_gold 69 (.getfield 60) 3 72 := ⟨by decide +kernel, rfl⟩
theorem d_X3_gold_72 : x_dec m_X3_gold 72 (.iload_n 3) 1 73 := ⟨by decide +kernel, rfl⟩
theorem d_X3_gold_73 : x_dec m_X3_gold 73 (.iaload) 1 74 := ⟨by decide +kernel, rfl⟩
theorem d_X3_gold_74 : x_dec m_X3_gold 74 (.bipush 10) 2 76 := ⟨by decide +kernel, rfl⟩
theorem d_X3_gold_76 : x_dec m_X3_gold 76 (.isub) 1 77 := ⟨by decide +kernel, rfl⟩
theorem d_X3_gold_77 : x_dec m_X3_gold 77 (.invokestatic 174) 3 80 := ⟨by decide +kernel, rfl⟩
theorem d_X3_gold_80 : x_dec m_X3_gold 80 (.iastore) 1 81 := ⟨by decide +kernel, rfl⟩
theorem d_X3_gold_81 : x_dec m_X3_gold 81 (.aload_n 0) 1 82 := ⟨by decide +kernel, rfl⟩
theorem d_X3_gold_82 : x_dec m_X3_gold 82 (.getfield 12) 3 85 := ⟨by decide +kernel, rfl⟩
theorem d_X3_gold_85 : x_dec m_X3_gold 85 (.invokevirtual 140) 3 88 := ⟨by decide +kernel, rfl⟩
theorem d_X3_gold_88 : x_dec m_X3_gold 88 (.pop) 1 89 := ⟨by decide +kernel, rfl⟩
theorem d_X3_gold_89 : x_dec m_X3_gold 89 (.iinc 2 1) 3 92 := ⟨by decide +kernel, rfl⟩
theorem d_X3_gold_92 : x_dec m_X3_gold 92 (.goto (-52)) 3 95 := ⟨by decide +kernel, rfl⟩
theorem d_X3_gold_95 : x_dec m_X3_gold 95 (.aload_n 0) 1 96 := ⟨by decide +kernel, rfl⟩
theorem d_X3_gold_96 : x_dec m_X3_gold 96 (.getfield 12) 3 99 := ⟨by decide +kernel, rfl⟩
theorem d_X3_gold_99 : x_dec m_X3_gold 99 (.getfield 99) 3 102 := ⟨by decide +kernel, rfl⟩
theorem d_X3_gold_102 : x_dec m_X3_gold 102 (.ireturn) 1 103 := ⟨by decide +kernel, rfl⟩
set_option maxHeartbeats 4000000 in
set_option maxRecDepth 100000 in
theorem c_X3_gold (l : Launch) (E : x_E) (μ : x_Mem) (g : x_SG) (hS : XS g μ) (hI : Inv g) (n : Int32) : x_Met l m_X3_gold E [.ref (E.1 + 0), .int n] μ (x_I (fun z m => z = (F_gold g n).1 ∧ XS (F_gold g n).2 m ∧ ∀ id, 41 ≤ id → m id = μ id)) := by
  obtain ⟨hL, hH, hX, hD⟩ := hS
  have hWF := hI.1.1
  have hn7 := hWF.2.1
  have hpn := hWF.1
  have hF : ∀ id, 41 ≤ id → μ id = μ id := fun _ _ => rfl
  refine x_enter (lv := [(0, .ref (E.1 + 0)), (1, .int n)]) (by decide +kernel) (Nat.le_of_ble_eq_true rfl) rfl ?_
  refine x_iload_n 1 d_X3_gold_0 rfl rfl ?_
  refine x_iconst (x := 1) d_X3_gold_1 (by decide) ?_
  refine x_bipush (x := 20) d_X3_gold_2 (by decide) ?_
  refine x_csip (as := [.int n, .int 1, .int 20]) (c_X3_isWithin l E μ n 1 20) v_X3_isWithin q180 q179 rfl ⟨Nat.le_of_ble_eq_true rfl, Nat.le_of_ble_eq_true rfl⟩ rfl (Nat.le_of_ble_eq_true rfl) d_X3_gold_4 ?_
  refine x_ifb_ne 17 d_X3_gold_7 (by decide) (fun c1 => ?_) (fun c1 => ?_)
  · skip
    obtain ⟨h, hh, rfl⟩ := (inR_nat2 (a := 1) (n := 20) (by decide) (by decide) c1)
    refine x_aload_n 0 d_X3_gold_17 rfl rfl ?_
    refine x_getr (j := 0) 1 x_c3 rfl (Nat.le_of_ble_eq_true rfl) q147 rfl d_X3_gold_18 ?_
    refine x_getiV (j := 11) (z := gA g 0) x_c0 (p_kd x_pr1) (Nat.le_of_ble_eq_true rfl) q60 (p_n11 x_pr1) hH d_X3_gold_21 ?_
    refine x_iload_n 1 d_X3_gold_24 rfl rfl ?_
    refine x_iadd d_X3_gold_25 ?_
    refine x_ldc q263 d_X3_gold_26 ?_
    refine x_icmp_le 38 d_X3_gold_28 (by decide) (fun c2 => ?_) (fun c2 => ?_)
    · skip
      obtain ⟨h0, hh0, h00⟩ := hI.1.2.2.2
      have hle := hour_le h00 hh0 (n := h) (by omega) c2
      refine x_iconst (x := 0) d_X3_gold_38 (by decide) ?_
      refine x_istore_n [(2, .int 0), (0, .ref (E.1 + 0)), (1, .int (nI h))] d_X3_gold_39 rfl (Nat.le_of_ble_eq_true rfl) rfl ?_
      have L3 : ∀ i : Nat, i ≤ h → ∀ μ6 : x_Mem, (PR (goldF (gA g) i) 1 μ6) → (μ6 1 11 = goldF (gA g) i 0) → (XR g μ6) → (XD (gF g) μ6) → (∀ id, 41 ≤ id → μ6 id = μ id) → x_G l E m_X3_gold (x_mv E m_X3_gold (x_I (fun z m => z = (F_gold g (nI h)).1 ∧ XS (F_gold g (nI h)).2 m ∧ ∀ id, 41 ≤ id → m id = μ id))) μ6 40 [(2, .int (nI i)), (0, .ref (E.1 + 0)), (1, .int (nI h))] [] := by
        refine x_down _ h (fun i hi5 ih4 => ?_)
        intro μ6 hL1 hH1 hX1 hD1 hF1
        refine x_iload_n 0 d_X3_gold_40 rfl rfl ?_
        refine x_iload_n 2 d_X3_gold_41 rfl rfl ?_
        refine x_icmp_ge 95 d_X3_gold_42 (by decide) (fun c7 => ?_) (fun c7 => ?_)
        · skip
          have hN := x_ge (N := h) c7 rfl rfl (by omega) (by omega)
          refine x_aload_n 1 d_X3_gold_95 rfl rfl ?_
          refine x_getr (j := 0) 1 x_c3 rfl (Nat.le_of_ble_eq_true rfl) q147 rfl d_X3_gold_96 ?_
          refine x_getiV (j := 6) (z := (goldF (gA g) i) 1) x_c0 (p_kd x_pr1) (Nat.le_of_ble_eq_true rfl) q47 (p_n6 x_pr1) (PR.f6 hL1) d_X3_gold_99 ?_
          refine x_iret rfl d_X3_gold_102 ?_
          have e7 : i = h := by omega
          subst e7
          have e9 : F_gold g (nI i) = (goldF (gA g) i 1, sA g (goldF (gA g) i)) := by simp [F_gold, x_b_f, x_b_t, c1, nI_clamp (n := i) (by omega), show ¬ 99999 < gA g 0 + nI i from Int32.not_lt.mpr c2]
          rw [e9]
          exact ⟨rfl, XS.line hL1 (hH1) hX1 hD1, hF1⟩
        · skip
          have hN := x_lt (N := h) c7 rfl rfl (by omega) (by omega)
          refine x_aload_n 1 d_X3_gold_45 rfl rfl ?_
          refine x_getr (j := 0) 1 x_c3 rfl (Nat.le_of_ble_eq_true rfl) q147 rfl d_X3_gold_46 ?_
          refine x_cvi (k := 1) (as := []) (c_X0_nextDraw l E μ6 x_pr1 hL1 hH1) v_X0_nextDraw w_X0_nextDraw q452 (p_ob x_pr1) rfl ⟨Nat.le_of_ble_eq_true rfl, Nat.le_of_ble_eq_true rfl⟩ rfl (Nat.le_of_ble_eq_true rfl) d_X3_gold_49 ?_
          rintro _ μ8 ⟨rfl, hR9, x11, hF10⟩
          have hX12 := XR.cg hX1 (μ' := μ8) (fun id hid => (hF10 _ (by omega)))
          have hD13 := XD.cg hD1 (μ' := μ8) (fun id hid => (hF10 _ (by omega)))
          have hF14 : ∀ id, 41 ≤ id → μ8 id = μ id := fun id hid => (show μ8 id = μ6 id from (hF10 _ (by omega))).trans (hF1 id hid)
          refine x_bipush (x := 16) d_X3_gold_52 (by decide) ?_
          refine x_irem d_X3_gold_54 (by decide) ?_
          rw [rem16]
          have hdr := dr_lt (goldF (gA g) i)
          refine x_istore_n [(3, .int (nI (dr (goldF (gA g) i)))), (2, .int (nI i)), (0, .ref (E.1 + 0)), (1, .int (nI h))] d_X3_gold_55 rfl (Nat.le_of_ble_eq_true rfl) rfl ?_
          refine x_aload_n 2 d_X3_gold_56 rfl rfl ?_
          refine x_getr (j := 0) 1 x_c3 rfl (Nat.le_of_ble_eq_true rfl) q147 rfl d_X3_gold_57 ?_
          refine x_getr (j := 0) (1 + 1) x_c0 (p_kd x_pr1) (Nat.le_of_ble_eq_true rfl) q32 (p_f0 x_pr1) d_X3_gold_60 ?_
          refine x_iload_n 0 d_X3_gold_63 rfl rfl ?_
          refine x_iconst (x := 0) d_X3_gold_64 (by decide) ?_
          refine x_aload_n 2 d_X3_gold_65 rfl rfl ?_
          refine x_getr (j := 0) 1 x_c3 rfl (Nat.le_of_ble_eq_true rfl) q147 rfl d_X3_gold_66 ?_
          refine x_getr (j := 0) (1 + 1) x_c0 (p_kd x_pr1) (Nat.le_of_ble_eq_true rfl) q32 (p_f0 x_pr1) d_X3_gold_69 ?_
          refine x_iload_n 0 d_X3_gold_72 rfl rfl ?_
          refine x_ialdN (z := goldF (gA g) i (8 + dr (goldF (gA g) i))) 16 (dr (goldF (gA g) i)) (p_k1 x_pr1) (p_l1 x_pr1) (by omega) (by decide) ((PR.need hR9 _ (by omega)).trans (upd_n _ _ (by omega))) d_X3_gold_73 ?_
          refine x_bipush (x := 10) d_X3_gold_74 (by decide) ?_
          refine x_isub d_X3_gold_76 ?_
          refine x_max q400 q211 q212 q7 (Nat.le_of_ble_eq_true rfl) (Nat.le_of_ble_eq_true rfl) d_X3_gold_77 ?_
          refine x_iastNG 16 (dr (goldF (gA g) i)) (p_k1 x_pr1) (p_l1 x_pr1) (by omega) (by decide) d_X3_gold_80 (fun μ15 eμ15 => ?_)
          have hL16 : PR (upd (upd (goldF (gA g) i) 6 (zF (goldF (gA g) i))) (8 + (dr (goldF (gA g) i))) (maxI 0 ((goldF (gA g) i (8 + dr (goldF (gA g) i))) - 10))) 1 μ15 := PR.a1 hR9 eμ15 (by omega)
          have hLH17 := x11
          rw [← (show μ15 1 = μ8 1 from (by rw [eμ15, upd2_ne _ _ _ (by omega)]))] at hLH17
          have hX18 := XR.cg hX12 (μ' := μ15) (fun id hid => (by rw [eμ15, upd2_ne _ _ _ (by omega)]))
          have hD19 := XD.cg hD13 (μ' := μ15) (fun id hid => (by rw [eμ15, upd2_ne _ _ _ (by omega)]))
          have hF20 : ∀ id, 41 ≤ id → μ15 id = μ id := fun id hid => (show μ15 id = μ8 id from (by rw [eμ15, upd2_ne _ _ _ (by omega)])).trans (hF14 id hid)
          refine x_aload_n 2 d_X3_gold_81 rfl rfl ?_
          refine x_getr (j := 0) 1 x_c3 rfl (Nat.le_of_ble_eq_true rfl) q147 rfl d_X3_gold_82 ?_
          refine x_cvi (k := 1) (as := []) (c_X0_passHour l E μ15 x_pr1 hL16 (((WF.gold hWF i).upN (Or.inr (Or.inl rfl)) _).upN (Or.inr (Or.inr (Or.inl (by omega)))) _) hLH17) v_X0_passHour w_X0_passHour q325 (p_ob x_pr1) rfl ⟨Nat.le_of_ble_eq_true rfl, Nat.le_of_ble_eq_true rfl⟩ rfl (Nat.le_of_ble_eq_true rfl) d_X3_gold_85 ?_
          rintro _ μ21 ⟨rfl, hR22, x24, hF23⟩
          have hX25 := XR.cg hX18 (μ' := μ21) (fun id hid => (hF23 _ (by omega)))
          have hD26 := XD.cg hD19 (μ' := μ21) (fun id hid => (hF23 _ (by omega)))
          have hF27 : ∀ id, 41 ≤ id → μ21 id = μ id := fun id hid => (show μ21 id = μ15 id from (hF23 _ (by omega))).trans (hF20 id hid)
          refine x_pop d_X3_gold_88 rfl ?_
          refine x_iinc [(2, .int (nI (i + 1))), (3, .int (nI (dr (goldF (gA g) i)))), (0, .ref (E.1 + 0)), (1, .int (nI h))] 1 d_X3_gold_89 rfl (x_inc _) (Nat.le_of_ble_eq_true rfl) rfl ?_
          refine x_goto 40 d_X3_gold_92 (by decide) ?_
          refine x_lv [0, 2, 3] rfl ?_
          exact ih4 (i + 1) (by omega) (by omega) μ21 hR22 (by rw [x24]; exact gold_min h00 hle (by omega)) hX25 hD26 hF27
      exact L3 0 (by omega) μ hL hH hX hD hF
    · skip
      refine x_aload_n 0 d_X3_gold_31 rfl rfl ?_
      refine x_ldc q254 d_X3_gold_32 ?_
      refine x_cvi (k := 0) (as := [.int (-1000005)]) (c_X3_finding l E μ (i := 4) hD (by decide) (w := (-1000005)) (by decide)) v_X3_finding w_X3_finding q183 o_X rfl ⟨Nat.le_of_ble_eq_true rfl, Nat.le_of_ble_eq_true rfl⟩ rfl (Nat.le_of_ble_eq_true rfl) d_X3_gold_34 ?_
      rintro _ μ28 ⟨rfl, hD29, hF30⟩
      have hL31 := PR.cg hL (μ' := μ28) (fun id hid => (hF30 _ (by omega)))
      have hLH32 := hH
      rw [← (show μ28 1 = μ 1 from (hF30 _ (by omega)))] at hLH32
      have hX33 := XR.cg hX (μ' := μ28) (fun id hid => (hF30 _ (by omega)))
      have hF34 : ∀ id, 41 ≤ id → μ28 id = μ id := fun id hid => (show μ28 id = μ id from (hF30 _ (by omega))).trans (hF id hid)
      refine x_iret rfl d_X3_gold_37 ?_
      have e9 : F_gold g (nI h) = fin g 4 := by simp [F_gold, x_b_f, x_b_t, c1, nI_clamp (n := h) (by omega), show 99999 < gA g 0 + nI h from Int32.not_le.mp c2]
      rw [e9]
      exact ⟨rfl, XS.fin hL31 hLH32 hX33 hD29, hF34⟩
  · skip
    refine x_aload_n 0 d_X3_gold_10 rfl rfl ?_
    refine x_ldc q182 d_X3_gold_11 ?_
    refine x_cvi (k := 0) (as := [.int (-1000001)]) (c_X3_finding l E μ (i := 0) hD (by decide) (w := (-1000001)) (by decide)) v_X3_finding w_X3_finding q183 o_X rfl ⟨Nat.le_of_ble_eq_true rfl, Nat.le_of_ble_eq_true rfl⟩ rfl (Nat.le_of_ble_eq_true rfl) d_X3_gold_13 ?_
    rintro _ μ35 ⟨rfl, hD36, hF37⟩
    have hL38 := PR.cg hL (μ' := μ35) (fun id hid => (hF37 _ (by omega)))
    have hLH39 := hH
    rw [← (show μ35 1 = μ 1 from (hF37 _ (by omega)))] at hLH39
    have hX40 := XR.cg hX (μ' := μ35) (fun id hid => (hF37 _ (by omega)))
    have hF41 : ∀ id, 41 ≤ id → μ35 id = μ id := fun id hid => (show μ35 id = μ id from (hF37 _ (by omega))).trans (hF id hid)
    refine x_iret rfl d_X3_gold_16 ?_
    have e9 : F_gold g n = fin g 0 := by simp [F_gold, x_b_f, x_b_t, c1]
    rw [e9]
    exact ⟨rfl, XS.fin hL38 hLH39 hX40 hD36, hF41⟩
def m_X3_seed : x_M := (yX3_seed, prog_1_method_40_code, 3, (some FieldType.int), 0, 0)
theorem v_X3_seed : x_VM m_X3_seed 1 := ⟨q466, q1, by decide +kernel, by decide +kernel, by decide +kernel⟩
theorem w_X3_seed : x_VI m_X3_seed := ⟨q464, q465⟩
theorem d_X3_seed_0 : x_dec m_X3_seed 0 (.aload_n 0) 1 1 := ⟨by decide +kernel, rfl⟩
theorem d_X3_seed_1 : x_dec m_X3_seed 1 (.getfield 12) 3 4 := ⟨by decide +kernel, rfl⟩
theorem d_X3_seed_4 : x_dec m_X3_seed 4 (.getfield 218) 3 7 := ⟨by decide +kernel, rfl⟩
theorem d_X3_seed_7 : x_dec m_X3_seed 7 (.istore_n 2) 1 8 := ⟨by decide +kernel, rfl⟩
theorem d_X3_seed_8 : x_dec m_X3_seed 8 (.aload_n 0) 1 9 := ⟨by decide +kernel, rfl⟩
theorem d_X3_seed_9 : x_dec m_X3_seed 9 (.getfield 12) 3 12 := ⟨by decide +kernel, rfl⟩
theorem d_X3_seed_12 : x_dec m_X3_seed 12 (.iload_n 1) 1 13 := ⟨by decide +kernel, rfl⟩
theorem d_X3_seed_13 : x_dec m_X3_seed 13 (.putfield 218) 3 16 := ⟨by decide +kernel, rfl⟩
theorem d_X3_seed_16 : x_dec m_X3_seed 16 (.iload_n 2) 1 17 := ⟨by decide +kernel, rfl⟩
theorem d_X3_seed_17 : x_dec m_X3_seed 17 (.ireturn) 1 18 := ⟨by decide +kernel, rfl⟩
set_option maxHeartbeats 4000000 in
set_option maxRecDepth 100000 in
theorem c_X3_seed (l : Launch) (E : x_E) (μ : x_Mem) (g : x_SG) (hS : XS g μ) (hI : Inv g) (v : Int32) : x_Met l m_X3_seed E [.ref (E.1 + 0), .int v] μ (x_I (fun z m => z = (F_seed g v).1 ∧ XS (F_seed g v).2 m ∧ ∀ id, 41 ≤ id → m id = μ id)) := by
  obtain ⟨hL, hH, hX, hD⟩ := hS
  have hWF := hI.1.1
  have hn7 := hWF.2.1
  have hpn := hWF.1
  have hF : ∀ id, 41 ≤ id → μ id = μ id := fun _ _ => rfl
  refine x_enter (lv := [(0, .ref (E.1 + 0)), (1, .int v)]) (by decide +kernel) (Nat.le_of_ble_eq_true rfl) rfl ?_
  refine x_aload_n 0 d_X3_seed_0 rfl rfl ?_
  refine x_getr (j := 0) 1 x_c3 rfl (Nat.le_of_ble_eq_true rfl) q147 rfl d_X3_seed_1 ?_
  refine x_getiV (j := 12) (z := (gA g) 6) x_c0 (p_kd x_pr1) (Nat.le_of_ble_eq_true rfl) q62 (p_n12 x_pr1) (PR.f12 hL) d_X3_seed_4 ?_
  refine x_istore_n [(2, .int ((gA g) 6)), (0, .ref (E.1 + 0)), (1, .int v)] d_X3_seed_7 rfl (Nat.le_of_ble_eq_true rfl) rfl ?_
  refine x_aload_n 1 d_X3_seed_8 rfl rfl ?_
  refine x_getr (j := 0) 1 x_c3 rfl (Nat.le_of_ble_eq_true rfl) q147 rfl d_X3_seed_9 ?_
  refine x_iload_n 2 d_X3_seed_12 rfl rfl ?_
  refine x_putiG (j := 12) x_c0 (p_kd x_pr1) (Nat.le_of_ble_eq_true rfl) q62 (p_n12 x_pr1) rfl rfl d_X3_seed_13 (fun μ1 eμ1 => ?_)
  have hL2 : PR (upd (gA g) 6 v) 1 μ1 := PR.w12 hL eμ1
  have hLH3 : μ1 1 11 = gA g 0 := by rw [eμ1, upd2_at, upd_n _ _ (by decide)]; exact hH
  have hX4 := XR.cg hX (μ' := μ1) (fun id hid => (by rw [eμ1, upd2_ne _ _ _ (by omega)]))
  have hD5 := XD.cg hD (μ' := μ1) (fun id hid => (by rw [eμ1, upd2_ne _ _ _ (by omega)]))
  have hF6 : ∀ id, 41 ≤ id → μ1 id = μ id := fun id hid => (show μ1 id = μ id from (by rw [eμ1, upd2_ne _ _ _ (by omega)])).trans (hF id hid)
  refine x_iload_n 0 d_X3_seed_16 rfl rfl ?_
  refine x_iret rfl d_X3_seed_17 ?_
  have e9 : F_seed g v = ((gA g) 6, sA g (upd (gA g) 6 v)) := by simp [F_seed, x_b_f, x_b_t, setL]
  rw [e9]
  exact ⟨rfl, XS.line hL2 (by (repeat rw [upd_n _ _ (by omega)]); exact hLH3) hX4 hD5, hF6⟩
def m_X3_hold : x_M := (yX3_hold, prog_1_method_44_code, 3, (some FieldType.int), 1, 22)
theorem v_X3_hold : x_VM m_X3_hold 2 := ⟨q589, q1, by decide +kernel, by decide +kernel, by decide +kernel⟩
theorem w_X3_hold : x_VI m_X3_hold := ⟨q587, q588⟩
theorem d_X3_hold_0 : x_dec m_X3_hold 0 (.iload_n 1) 1 1 := ⟨by decide +kernel, rfl⟩
theorem d_X3_hold_1 : x_dec m_X3_hold 1 (.invokestatic 230) 3 4 := ⟨by decide +kernel, rfl⟩
theorem d_X3_hold_4 : x_dec m_X3_hold 4 (.ifCond .eq 16) 3 7 := ⟨by decide +kernel, rfl⟩
theorem d_X3_hold_7 : x_dec m_X3_hold 7 (.iload_n 2) 1 8 := ⟨by decide +kernel, rfl⟩
theorem d_X3_hold_8 : x_dec m_X3_hold 8 (.iconst (-1)) 1 9 := ⟨by decide +kernel, rfl⟩
theorem d_X3_hold_9 : x_dec m_X3_hold 9 (.if_icmp .eq 18) 3 12 := ⟨by decide +kernel, rfl⟩
theorem d_X3_hold_12 : x_dec m_X3_hold 12 (.aload_n 0) 1 13 := ⟨by decide +kernel, rfl⟩
theorem d_X3_hold_13 : x_dec m_X3_hold 13 (.iload_n 2) 1 14 := ⟨by decide +kernel, rfl⟩
theorem d_X3_hold_14 : x_dec m_X3_hold 14 (.invokevirtual 81) 3 17 := ⟨by decide +kernel, rfl⟩
theorem d_X3_hold_17 : x_dec m_X3_hold 17 (.ifCond .ne 10) 3 20 := ⟨by decide +kernel, rfl⟩
theorem d_X3_hold_20 : x_dec m_X3_hold 20 (.aload_n 0) 1 21 := ⟨by decide +kernel, rfl⟩
theorem d_X3_hold_21 : x_dec m_X3_hold 21 (.ldc 55) 2 23 := ⟨by decide +kernel, rfl⟩
theorem d_X3_hold_23 : x_dec m_X3_hold 23 (.invokevirtual 56) 3 26 := ⟨by decide +kernel, rfl⟩
theorem d_X3_hold_26 : x_dec m_X3_hold 26 (.ireturn) 1 27 := ⟨by decide +kernel, rfl⟩
theorem d_X3_hold_27 : x_dec m_X3_hold 27 (.aload_n 0) 1 28 := ⟨by decide +kernel, rfl⟩
theorem d_X3_hold_28 : x_dec m_X3_hold 28 (.getfield 12) 3 31 := ⟨by decide +kernel, rfl⟩
theorem d_X3_hold_31 : x_dec m_X3_hold 31 (.getfield 233) 3 34 := ⟨by decide +kernel, rfl⟩
theorem d_X3_hold_34 : x_dec m_X3_hold 34 (.iload_n 1) 1 35 := ⟨by decide +kernel, rfl⟩
theorem d_X3_hold_35 : x_dec m_X3_hold 35 (.iload_n 2) 1 36 := ⟨by decide +kernel, rfl⟩
theorem d_X3_hold_36 : x_dec m_X3_hold 36 (.iastore) 1 37 := ⟨by decide +kernel, rfl⟩
theorem d_X3_hold_37 : x_dec m_X3_hold 37 (.iconst 1) 1 38 := ⟨by decide +kernel, rfl⟩
theorem d_X3_hold_38 : x_dec m_X3_hold 38 (.ireturn) 1 39 := ⟨by decide +kernel, rfl⟩
set_option maxHeartbeats 4000000 in
set_option maxRecDepth 100000 in
theorem c_X3_hold (l : Launch) (E : x_E) (μ : x_Mem) (g : x_SG) (hS : XS g μ) (hI : Inv g) (j p : Int32) : x_Met l m_X3_hold E [.ref (E.1 + 0), .int j, .int p] μ (x_I (fun z m => z = (F_hold g j p).1 ∧ XS (F_hold g j p).2 m ∧ ∀ id, 41 ≤ id → m id = μ id)) := by
  obtain ⟨hL, hH, hX, hD⟩ := hS
  have hWF := hI.1.1
  have hn7 := hWF.2.1
  have hpn := hWF.1
  have hF : ∀ id, 41 ≤ id → μ id = μ id := fun _ _ => rfl
  refine x_enter (lv := [(0, .ref (E.1 + 0)), (1, .int j), (2, .int p)]) (by decide +kernel) (Nat.le_of_ble_eq_true rfl) rfl ?_
  refine x_iload_n 1 d_X3_hold_0 rfl rfl ?_
  refine x_csip (as := [.int j]) (c_X3_isSpot l E μ j) v_X3_isSpot q591 q590 rfl ⟨Nat.le_of_ble_eq_true rfl, Nat.le_of_ble_eq_true rfl⟩ rfl (Nat.le_of_ble_eq_true rfl) d_X3_hold_1 ?_
  refine x_ifb_eq 20 d_X3_hold_4 (by decide) (fun c1 => ?_) (fun c1 => ?_)
  · skip
    refine x_aload_n 0 d_X3_hold_20 rfl rfl ?_
    refine x_ldc q182 d_X3_hold_21 ?_
    refine x_cvi (k := 0) (as := [.int (-1000001)]) (c_X3_finding l E μ (i := 0) hD (by decide) (w := (-1000001)) (by decide)) v_X3_finding w_X3_finding q183 o_X rfl ⟨Nat.le_of_ble_eq_true rfl, Nat.le_of_ble_eq_true rfl⟩ rfl (Nat.le_of_ble_eq_true rfl) d_X3_hold_23 ?_
    rintro _ μ2 ⟨rfl, hD3, hF4⟩
    have hL5 := PR.cg hL (μ' := μ2) (fun id hid => (hF4 _ (by omega)))
    have hLH6 := hH
    rw [← (show μ2 1 = μ 1 from (hF4 _ (by omega)))] at hLH6
    have hX7 := XR.cg hX (μ' := μ2) (fun id hid => (hF4 _ (by omega)))
    have hF8 : ∀ id, 41 ≤ id → μ2 id = μ id := fun id hid => (show μ2 id = μ id from (hF4 _ (by omega))).trans (hF id hid)
    refine x_iret rfl d_X3_hold_26 ?_
    have e9 : F_hold g j p = fin g 0 := by simp [F_hold, x_b_f, x_b_t, c1]
    rw [e9]
    exact ⟨rfl, XS.fin hL5 hLH6 hX7 hD3, hF8⟩
  · skip
    obtain ⟨jj, hjj, rfl⟩ := inR_nat (n := 9) (by decide) c1
    refine x_iload_n 2 d_X3_hold_7 rfl rfl ?_
    refine x_iconst (x := (-1)) d_X3_hold_8 (by decide) ?_
    refine x_icmp_eq 27 d_X3_hold_9 (by decide) (fun c9 => ?_) (fun c9 => ?_)
    · skip
      refine x_aload_n 0 d_X3_hold_27 rfl rfl ?_
      refine x_getr (j := 0) 1 x_c3 rfl (Nat.le_of_ble_eq_true rfl) q147 rfl d_X3_hold_28 ?_
      refine x_getr (j := 4) (1 + 5) x_c0 (p_kd x_pr1) (Nat.le_of_ble_eq_true rfl) q41 (p_f4 x_pr1) d_X3_hold_31 ?_
      refine x_iload_n 1 d_X3_hold_34 rfl rfl ?_
      refine x_iload_n 2 d_X3_hold_35 rfl rfl ?_
      refine x_iastNG 10 jj (p_k5 x_pr1) (p_l5 x_pr1) (by omega) (by decide) d_X3_hold_36 (fun μ10 eμ10 => ?_)
      have hL11 : PR (upd (gA g) (48 + jj) p) 1 μ10 := PR.a5 hL eμ10 (by omega)
      have hLH12 := hH
      rw [← (show μ10 1 = μ 1 from (by rw [eμ10, upd2_ne _ _ _ (by omega)]))] at hLH12
      have hX13 := XR.cg hX (μ' := μ10) (fun id hid => (by rw [eμ10, upd2_ne _ _ _ (by omega)]))
      have hD14 := XD.cg hD (μ' := μ10) (fun id hid => (by rw [eμ10, upd2_ne _ _ _ (by omega)]))
      have hF15 : ∀ id, 41 ≤ id → μ10 id = μ id := fun id hid => (show μ10 id = μ id from (by rw [eμ10, upd2_ne _ _ _ (by omega)])).trans (hF id hid)
      refine x_iconst (x := 1) d_X3_hold_37 (by decide) ?_
      refine x_iret rfl d_X3_hold_38 ?_
      have e9 : F_hold g (nI jj) p = (1, sA g (upd (gA g) (48 + jj) p)) := by simp [F_hold, x_b_f, x_b_t, c1, c9, nI_clamp (n := jj) (by omega)]
      rw [e9]
      exact ⟨rfl, XS.line hL11 (by (repeat rw [upd_n _ _ (by omega)]); exact hLH12) hX13 hD14, hF15⟩
    · skip
      refine x_aload_n 0 d_X3_hold_12 rfl rfl ?_
      refine x_iload_n 2 d_X3_hold_13 rfl rfl ?_
      refine x_cvip (k := 0) (as := [.int p]) (c_X3_isPerson l E μ hL p) v_X3_isPerson w_X3_isPerson q234 o_X rfl ⟨Nat.le_of_ble_eq_true rfl, Nat.le_of_ble_eq_true rfl⟩ rfl (Nat.le_of_ble_eq_true rfl) d_X3_hold_14 ?_
      refine x_ifb_ne 27 d_X3_hold_17 (by decide) (fun c16 => ?_) (fun c16 => ?_)
      · skip
        obtain ⟨q, hq, rfl⟩ := isP_nat hWF c16
        refine x_aload_n 0 d_X3_hold_27 rfl rfl ?_
        refine x_getr (j := 0) 1 x_c3 rfl (Nat.le_of_ble_eq_true rfl) q147 rfl d_X3_hold_28 ?_
        refine x_getr (j := 4) (1 + 5) x_c0 (p_kd x_pr1) (Nat.le_of_ble_eq_true rfl) q41 (p_f4 x_pr1) d_X3_hold_31 ?_
        refine x_iload_n 1 d_X3_hold_34 rfl rfl ?_
        refine x_iload_n 2 d_X3_hold_35 rfl rfl ?_
        refine x_iastNG 10 jj (p_k5 x_pr1) (p_l5 x_pr1) (by omega) (by decide) d_X3_hold_36 (fun μ17 eμ17 => ?_)
        have hL18 : PR (upd (gA g) (48 + jj) (nI q)) 1 μ17 := PR.a5 hL eμ17 (by omega)
        have hLH19 := hH
        rw [← (show μ17 1 = μ 1 from (by rw [eμ17, upd2_ne _ _ _ (by omega)]))] at hLH19
        have hX20 := XR.cg hX (μ' := μ17) (fun id hid => (by rw [eμ17, upd2_ne _ _ _ (by omega)]))
        have hD21 := XD.cg hD (μ' := μ17) (fun id hid => (by rw [eμ17, upd2_ne _ _ _ (by omega)]))
        have hF22 : ∀ id, 41 ≤ id → μ17 id = μ id := fun id hid => (show μ17 id = μ id from (by rw [eμ17, upd2_ne _ _ _ (by omega)])).trans (hF id hid)
        refine x_iconst (x := 1) d_X3_hold_37 (by decide) ?_
        refine x_iret rfl d_X3_hold_38 ?_
        have e9 : F_hold g (nI jj) (nI q) = (1, sA g (upd (gA g) (48 + jj) (nI q))) := by simp [F_hold, x_b_f, x_b_t, c1, c9, c16, nI_clamp (n := jj) (by omega), nI_clamp (n := q) (by omega)]
        rw [e9]
        exact ⟨rfl, XS.line hL18 (by (repeat rw [upd_n _ _ (by omega)]); exact hLH19) hX20 hD21, hF22⟩
      · skip
        refine x_aload_n 0 d_X3_hold_20 rfl rfl ?_
        refine x_ldc q182 d_X3_hold_21 ?_
        refine x_cvi (k := 0) (as := [.int (-1000001)]) (c_X3_finding l E μ (i := 0) hD (by decide) (w := (-1000001)) (by decide)) v_X3_finding w_X3_finding q183 o_X rfl ⟨Nat.le_of_ble_eq_true rfl, Nat.le_of_ble_eq_true rfl⟩ rfl (Nat.le_of_ble_eq_true rfl) d_X3_hold_23 ?_
        rintro _ μ23 ⟨rfl, hD24, hF25⟩
        have hL26 := PR.cg hL (μ' := μ23) (fun id hid => (hF25 _ (by omega)))
        have hLH27 := hH
        rw [← (show μ23 1 = μ 1 from (hF25 _ (by omega)))] at hLH27
        have hX28 := XR.cg hX (μ' := μ23) (fun id hid => (hF25 _ (by omega)))
        have hF29 : ∀ id, 41 ≤ id → μ23 id = μ id := fun id hid => (show μ23 id = μ id from (hF25 _ (by omega))).trans (hF id hid)
        refine x_iret rfl d_X3_hold_26 ?_
        have e9 : F_hold g (nI jj) p = fin g 0 := by simp [F_hold, x_b_f, x_b_t, c1, c9, c16, nI_clamp (n := jj) (by omega)]
        rw [e9]
        exact ⟨rfl, XS.fin hL26 hLH27 hX28 hD24, hF29⟩
def m_X3_isUnder : x_M := (yX3_isUnder, prog_1_method_67_code, 4, (some FieldType.boolean), 1, 20)
theorem v_X3_isUnder : x_VM m_X3_isUnder 2 := ⟨q599, q1, by decide +kernel, by decide +kernel, by decide +kernel⟩
theorem d_X3_isUnder_0 : x_dec m_X3_isUnder 0 (.iload_n 0) 1 1 := ⟨by decide +kernel, rfl⟩
theorem d_X3_isUnder_1 : x_dec m_X3_isUnder 1 (.istore_n 2) 1 2 := ⟨by decide +kernel, rfl⟩
theorem d_X3_isUnder_2 : x_dec m_X3_isUnder 2 (.iconst 0) 1 3 := ⟨by decide +kernel, rfl⟩
theorem d_X3_isUnder_3 : x_dec m_X3_isUnder 3 (.istore_n 3) 1 4 := ⟨by decide +kernel, rfl⟩
theorem d_X3_isUnder_4 : x_dec m_X3_isUnder 4 (.iload_n 3) 1 5 := ⟨by decide +kernel, rfl⟩
theorem d_X3_isUnder_5 : x_dec m_X3_isUnder 5 (.bipush 7) 2 7 := ⟨by decide +kernel, rfl⟩
theorem d_X3_isUnder_7 : x_dec m_X3_isUnder 7 (.if_icmp .ge 29) 3 10 := ⟨by decide +kernel, rfl⟩
theorem d_X3_isUnder_10 : x_dec m_X3_isUnder 10 (.iload_n 2) 1 11 := ⟨by decide +kernel, rfl⟩
theorem d_X3_isUnder_11 : x_dec m_X3_isUnder 11 (.invokestatic 69) 3 14 := ⟨by decide +kernel, rfl⟩
theorem d_X3_isUnder_14 : x_dec m_X3_isUnder 14 (.ifCond .eq 22) 3 17 := ⟨by decide +kernel, rfl⟩
theorem d_X3_isUnder_17 : x_dec m_X3_isUnder 17 (.iload_n 2) 1 18 := ⟨by decide +kernel, rfl⟩
theorem d_X3_isUnder_18 : x_dec m_X3_isUnder 18 (.iload_n 1) 1 19 := ⟨by decide +kernel, rfl⟩
theorem d_X3_isUnder_19 : x_dec m_X3_isUnder 19 (.if_icmp .ne 5) 3 22 := ⟨by decide +kernel, rfl⟩
theorem d_X3_isUnder_22 : x_dec m_X3_isUnder 22 (.iconst 1) 1 23 := ⟨by decide +kernel, rfl⟩
theorem d_X3_isUnder_23 : x_dec m_X3_isUnder 23 (.ireturn) 1 24 := ⟨by decide +kernel, rfl⟩
theorem d_X3_isUnder_24 : x_dec m_X3_isUnder 24 (.getstatic 259) 3 27 := ⟨by decide +kernel, rfl⟩
theorem d_X3_isUnder_27 : x_dec m_X3_isUnder 27 (.iload_n 2) 1 28 := ⟨by decide +kernel, rfl⟩
theorem d_X3_isUnder_28 : x_dec m_X3_isUnder 28 (.iaload) 1 29 := ⟨by decide +kernel, rfl⟩
theorem d_X3_isUnder_29 : x_dec m_X3_isUnder 29 (.istore_n 2) 1 30 := ⟨by decide +kernel, rfl⟩
theorem d_X3_isUnder_30 : x_dec m_X3_isUnder 30 (.iinc 3 1) 3 33 := ⟨by decide +kernel, rfl⟩
theorem d_X3_isUnder_33 : x_dec m_X3_isUnder 33 (.goto (-29)) 3 36 := ⟨by decide +kernel, rfl⟩
theorem d_X3_isUnder_36 : x_dec m_X3_isUnder 36 (.iconst 0) 1 37 := ⟨by decide +kernel, rfl⟩
theorem d_X3_isUnder_37 : x_dec m_X3_isUnder 37 (.ireturn) 1 38 := ⟨by decide +kernel, rfl⟩
set_option maxHeartbeats 4000000 in
set_option maxRecDepth 100000 in
theorem c_X3_isUnder (l : Launch) (E : x_E) (μ : x_Mem) {k t : Nat} (hk7 : k < 7) (ht7 : t < 7) : x_Met l m_X3_isUnder E [.int (nI k), .int (nI t)] μ (x_I (fun z m => z = x_b (underB (nI k) (nI t)) ∧ m = μ)) := by
  refine x_enter (lv := [(0, .int (nI k)), (1, .int (nI t))]) (by decide +kernel) (Nat.le_of_ble_eq_true rfl) rfl ?_
  refine x_iload_n 0 d_X3_isUnder_0 rfl rfl ?_
  refine x_istore_n [(2, .int (nI k)), (0, .int (nI k)), (1, .int (nI t))] d_X3_isUnder_1 rfl (Nat.le_of_ble_eq_true rfl) rfl ?_
  refine x_iconst (x := 0) d_X3_isUnder_2 (by decide) ?_
  refine x_istore_n [(3, .int 0), (2, .int (nI k)), (0, .int (nI k)), (1, .int (nI t))] d_X3_isUnder_3 rfl (Nat.le_of_ble_eq_true rfl) rfl ?_
  have L1 : ∀ i : Nat, i ≤ 7 → (∀ j, j < i → decide (upK (nI k) j = nI t) = false) → (∀ j, j < i → inR (upK (nI k) j) 0 6 = true) → x_G l E m_X3_isUnder (x_mv E m_X3_isUnder (x_I (fun z m => z = x_b (underB (nI k) (nI t)) ∧ m = μ))) μ 4 [(3, .int (nI i)), (2, .int (upK (nI k) i)), (0, .int (nI k)), (1, .int (nI t))] [] := by
    refine x_down _ 7 (fun i hi3 ih2 => ?_)
    intro hq hk
    refine x_iload_n 0 d_X3_isUnder_4 rfl rfl ?_
    refine x_bipush (x := 7) d_X3_isUnder_5 (by decide) ?_
    refine x_icmp_ge 36 d_X3_isUnder_7 (by decide) (fun c4 => ?_) (fun c4 => ?_)
    · skip
      have hN := x_ge (N := 7) c4 rfl rfl (by omega) (by omega)
      refine x_iconst (x := 0) d_X3_isUnder_36 (by decide) ?_
      refine x_zret0 rfl d_X3_isUnder_37 ?_
      exact absurd (fun j hj => hk j (by omega)) (under_7 k hk7)
    · skip
      have hN := x_lt (N := 7) c4 rfl rfl (by omega) (by omega)
      refine x_iload_n 1 d_X3_isUnder_10 rfl rfl ?_
      refine x_csip (as := [.int (upK (nI k) i)]) (c_X3_isKind l E μ (upK (nI k) i)) v_X3_isKind q223 q222 rfl ⟨Nat.le_of_ble_eq_true rfl, Nat.le_of_ble_eq_true rfl⟩ rfl (Nat.le_of_ble_eq_true rfl) d_X3_isUnder_11 ?_
      refine x_ifb_eq 36 d_X3_isUnder_14 (by decide) (fun c5 => ?_) (fun c5 => ?_)
      · skip
        refine x_iconst (x := 0) d_X3_isUnder_36 (by decide) ?_
        refine x_zret0 rfl d_X3_isUnder_37 ?_
        exact ⟨congrArg x_b (under_f k hk7 t ht7 i (by omega) c5 hq).symm, rfl⟩
      · skip
        refine x_iload_n 1 d_X3_isUnder_17 rfl rfl ?_
        refine x_iload_n 3 d_X3_isUnder_18 rfl rfl ?_
        refine x_icmp_ne 24 d_X3_isUnder_19 (by decide) (fun c6 => ?_) (fun c6 => ?_)
        · skip
          refine x_getsK q600 d_X3_isUnder_24 ?_
          refine x_iload_n 1 d_X3_isUnder_27 rfl rfl ?_
          obtain ⟨n, hn, en⟩ := inR_nat (n := 6) (by decide) c5
          rw [en]
          refine x_ialdK (i := nI n) (vp_in_nI (by omega) (by decide)) d_X3_isUnder_28 ?_
          rw [show x_above.getD (nI n).toNatClampNeg 0 = upK (nI k) (i + 1) from by rw [← en]; rfl]
          refine x_istore_n [(2, .int (upK (nI k) (i + 1))), (3, .int (nI i)), (0, .int (nI k)), (1, .int (nI t))] d_X3_isUnder_29 rfl (Nat.le_of_ble_eq_true rfl) rfl ?_
          refine x_iinc [(3, .int (nI (i + 1))), (2, .int (upK (nI k) (i + 1))), (0, .int (nI k)), (1, .int (nI t))] 1 d_X3_isUnder_30 rfl (x_inc _) (Nat.le_of_ble_eq_true rfl) rfl ?_
          refine x_goto 4 d_X3_isUnder_33 (by decide) ?_
          exact ih2 (i + 1) (by omega) (by omega) (lt_s hq (decide_eq_false c6)) (lt_s hk c5)
        · skip
          refine x_iconst (x := 1) d_X3_isUnder_22 (by decide) ?_
          refine x_zret1 rfl d_X3_isUnder_23 ?_
          exact ⟨congrArg x_b (under_t k hk7 t ht7 i (by omega) hk c6).symm, rfl⟩
  exact L1 0 (by omega) (fun _ h => absurd h (Nat.not_lt_zero _)) (fun _ h => absurd h (Nat.not_lt_zero _))
def m_X3_as : x_M := (yX3_as, prog_1_method_45_code, 4, (some FieldType.int), 2, 43)
theorem v_X3_as : x_VM m_X3_as 2 := ⟨q596, q1, by decide +kernel, by decide +kernel, by decide +kernel⟩
theorem w_X3_as : x_VI m_X3_as := ⟨q594, q595⟩
theorem d_X3_as_0 : x_dec m_X3_as 0 (.iload_n 1) 1 1 := ⟨by decide +kernel, rfl⟩
theorem d_X3_as_1 : x_dec m_X3_as 1 (.invokestatic 230) 3 4 := ⟨by decide +kernel, rfl⟩
theorem d_X3_as_4 : x_dec m_X3_as 4 (.ifCond .eq 10) 3 7 := ⟨by decide +kernel, rfl⟩
theorem d_X3_as_7 : x_dec m_X3_as 7 (.iload_n 2) 1 8 := ⟨by decide +kernel, rfl⟩
theorem d_X3_as_8 : x_dec m_X3_as 8 (.invokestatic 69) 3 11 := ⟨by decide +kernel, rfl⟩
theorem d_X3_as_11 : x_dec m_X3_as 11 (.ifCond .ne 10) 3 14 := ⟨by decide +kernel, rfl⟩
theorem d_X3_as_14 : x_dec m_X3_as 14 (.aload_n 0) 1 15 := ⟨by decide +kernel, rfl⟩
theorem d_X3_as_15 : x_dec m_X3_as 15 (.ldc 55) 2 17 := ⟨by decide +kernel, rfl⟩
theorem d_X3_as_17 : x_dec m_X3_as 17 (.invokevirtual 56) 3 20 := ⟨by decide +kernel, rfl⟩
theorem d_X3_as_20 : x_dec m_X3_as 20 (.ireturn) 1 21 := ⟨by decide +kernel, rfl⟩
theorem d_X3_as_21 : x_dec m_X3_as 21 (.aload_n 0) 1 22 := ⟨by decide +kernel, rfl⟩
theorem d_X3_as_22 : x_dec m_X3_as 22 (.getfield 12) 3 25 := ⟨by decide +kernel, rfl⟩
theorem d_X3_as_25 : x_dec m_X3_as 25 (.getfield 233) 3 28 := ⟨by decide +kernel, rfl⟩
theorem d_X3_as_28 : x_dec m_X3_as 28 (.iload_n 1) 1 29 := ⟨by decide +kernel, rfl⟩
theorem d_X3_as_29 : x_dec m_X3_as 29 (.iaload) 1 30 := ⟨by decide +kernel, rfl⟩
theorem d_X3_as_30 : x_dec m_X3_as 30 (.istore_n 3) 1 31 := ⟨by decide +kernel, rfl⟩
theorem d_X3_as_31 : x_dec m_X3_as 31 (.aload_n 0) 1 32 := ⟨by decide +kernel, rfl⟩
theorem d_X3_as_32 : x_dec m_X3_as 32 (.iload_n 3) 1 33 := ⟨by decide +kernel, rfl⟩
theorem d_X3_as_33 : x_dec m_X3_as 33 (.invokevirtual 81) 3 36 := ⟨by decide +kernel, rfl⟩
theorem d_X3_as_36 : x_dec m_X3_as 36 (.ifCond .ne 10) 3 39 := ⟨by decide +kernel, rfl⟩
theorem d_X3_as_39 : x_dec m_X3_as 39 (.aload_n 0) 1 40 := ⟨by decide +kernel, rfl⟩
theorem d_X3_as_40 : x_dec m_X3_as 40 (.ldc 187) 2 42 := ⟨by decide +kernel, rfl⟩
theorem d_X3_as_42 : x_dec m_X3_as 42 (.invokevirtual 56) 3 45 := ⟨by decide +kernel, rfl⟩
theorem d_X3_as_45 : x_dec m_X3_as 45 (.ireturn) 1 46 := ⟨by decide +kernel, rfl⟩
theorem d_X3_as_46 : x_dec m_X3_as 46 (.aload_n 0) 1 47 := ⟨by decide +kernel, rfl⟩
theorem d_X3_as_47 : x_dec m_X3_as 47 (.getfield 12) 3 50 := ⟨by decide +kernel, rfl⟩
theorem d_X3_as_50 : x_dec m_X3_as 50 (.getfield 84) 3 53 := ⟨by decide +kernel, rfl⟩
theorem d_X3_as_53 : x_dec m_X3_as 53 (.iload_n 3) 1 54 := ⟨by decide +kernel, rfl⟩
theorem d_X3_as_54 : x_dec m_X3_as 54 (.iaload) 1 55 := ⟨by decide +kernel, rfl⟩
theorem d_X3_as_55 : x_dec m_X3_as 55 (.iload_n 2) 1 56 := ⟨by decide +kernel, rfl⟩
theorem d_X3_as_56 : x_dec m_X3_as 56 (.invokestatic 236) 3 59 := ⟨by decide +kernel, rfl⟩
theorem d_X3_as_59 : x_dec m_X3_as 59 (.ifCond .eq 7) 3 62 := ⟨by decide +kernel, rfl⟩
theorem d_X3_as_62 : x_dec m_X3_as 62 (.iload_n 3) 1 63 := ⟨by decide +kernel, rfl⟩
theorem d_X3_as_63 : x_dec m_X3_as 63 (.goto 9) 3 66 := ⟨by decide +kernel, rfl⟩
theorem d_X3_as_66 : x_dec m_X3_as 66 (.aload_n 0) 1 67 := ⟨by decide +kernel, rfl⟩
theorem d_X3_as_67 : x_dec m_X3_as 67 (.ldc 239) 2 69 := ⟨by decide +kernel, rfl⟩
theorem d_X3_as_69 : x_dec m_X3_as 69 (.invokevirtual 56) 3 72 := ⟨by decide +kernel, rfl⟩
theorem d_X3_as_72 : x_dec m_X3_as 72 (.ireturn) 1 73 := ⟨by decide +kernel, rfl⟩
set_option maxHeartbeats 4000000 in
set_option maxRecDepth 100000 in
theorem c_X3_as (l : Launch) (E : x_E) (μ : x_Mem) (g : x_SG) (hS : XS g μ) (hI : Inv g) (j k : Int32) : x_Met l m_X3_as E [.ref (E.1 + 0), .int j, .int k] μ (x_I (fun z m => z = (F_as g j k).1 ∧ XS (F_as g j k).2 m ∧ ∀ id, 41 ≤ id → m id = μ id)) := by
  obtain ⟨hL, hH, hX, hD⟩ := hS
  have hWF := hI.1.1
  have hn7 := hWF.2.1
  have hpn := hWF.1
  have hF : ∀ id, 41 ≤ id → μ id = μ id := fun _ _ => rfl
  refine x_enter (lv := [(0, .ref (E.1 + 0)), (1, .int j), (2, .int k)]) (by decide +kernel) (Nat.le_of_ble_eq_true rfl) rfl ?_
  refine x_iload_n 1 d_X3_as_0 rfl rfl ?_
  refine x_csip (as := [.int j]) (c_X3_isSpot l E μ j) v_X3_isSpot q591 q590 rfl ⟨Nat.le_of_ble_eq_true rfl, Nat.le_of_ble_eq_true rfl⟩ rfl (Nat.le_of_ble_eq_true rfl) d_X3_as_1 ?_
  refine x_ifb_eq 14 d_X3_as_4 (by decide) (fun c1 => ?_) (fun c1 => ?_)
  · skip
    refine x_aload_n 0 d_X3_as_14 rfl rfl ?_
    refine x_ldc q182 d_X3_as_15 ?_
    refine x_cvi (k := 0) (as := [.int (-1000001)]) (c_X3_finding l E μ (i := 0) hD (by decide) (w := (-1000001)) (by decide)) v_X3_finding w_X3_finding q183 o_X rfl ⟨Nat.le_of_ble_eq_true rfl, Nat.le_of_ble_eq_true rfl⟩ rfl (Nat.le_of_ble_eq_true rfl) d_X3_as_17 ?_
    rintro _ μ2 ⟨rfl, hD3, hF4⟩
    have hL5 := PR.cg hL (μ' := μ2) (fun id hid => (hF4 _ (by omega)))
    have hLH6 := hH
    rw [← (show μ2 1 = μ 1 from (hF4 _ (by omega)))] at hLH6
    have hX7 := XR.cg hX (μ' := μ2) (fun id hid => (hF4 _ (by omega)))
    have hF8 : ∀ id, 41 ≤ id → μ2 id = μ id := fun id hid => (show μ2 id = μ id from (hF4 _ (by omega))).trans (hF id hid)
    refine x_iret rfl d_X3_as_20 ?_
    have e9 : F_as g j k = fin g 0 := by simp [F_as, x_b_f, x_b_t, c1]
    rw [e9]
    exact ⟨rfl, XS.fin hL5 hLH6 hX7 hD3, hF8⟩
  · skip
    obtain ⟨jj, hjj, rfl⟩ := inR_nat (n := 9) (by decide) c1
    refine x_iload_n 2 d_X3_as_7 rfl rfl ?_
    refine x_csip (as := [.int k]) (c_X3_isKind l E μ k) v_X3_isKind q223 q222 rfl ⟨Nat.le_of_ble_eq_true rfl, Nat.le_of_ble_eq_true rfl⟩ rfl (Nat.le_of_ble_eq_true rfl) d_X3_as_8 ?_
    refine x_ifb_ne 21 d_X3_as_11 (by decide) (fun c9 => ?_) (fun c9 => ?_)
    · skip
      obtain ⟨kk, hkk, rfl⟩ := inR_nat (n := 6) (by decide) c9
      refine x_aload_n 0 d_X3_as_21 rfl rfl ?_
      refine x_getr (j := 0) 1 x_c3 rfl (Nat.le_of_ble_eq_true rfl) q147 rfl d_X3_as_22 ?_
      refine x_getr (j := 4) (1 + 5) x_c0 (p_kd x_pr1) (Nat.le_of_ble_eq_true rfl) q41 (p_f4 x_pr1) d_X3_as_25 ?_
      refine x_iload_n 1 d_X3_as_28 rfl rfl ?_
      refine x_ialdN (z := (gA g) (48 + jj)) 10 jj (p_k5 x_pr1) (p_l5 x_pr1) (by omega) (by decide) (PR.spot hL jj (by omega)) d_X3_as_29 ?_
      refine x_istore_n [(3, .int ((gA g) (48 + jj))), (0, .ref (E.1 + 0)), (1, .int (nI jj)), (2, .int (nI kk))] d_X3_as_30 rfl (Nat.le_of_ble_eq_true rfl) rfl ?_
      refine x_aload_n 1 d_X3_as_31 rfl rfl ?_
      refine x_iload_n 0 d_X3_as_32 rfl rfl ?_
      refine x_cvip (k := 0) (as := [.int ((gA g) (48 + jj))]) (c_X3_isPerson l E μ hL ((gA g) (48 + jj))) v_X3_isPerson w_X3_isPerson q234 o_X rfl ⟨Nat.le_of_ble_eq_true rfl, Nat.le_of_ble_eq_true rfl⟩ rfl (Nat.le_of_ble_eq_true rfl) d_X3_as_33 ?_
      refine x_ifb_ne 46 d_X3_as_36 (by decide) (fun c10 => ?_) (fun c10 => ?_)
      · skip
        obtain ⟨q, hq, eq⟩ := isP_nat hWF c10
        have hne := nI_ne_m1 (n := q) (by omega)
        rw [eq]
        obtain ⟨kq, hkq, ekq⟩ := hWF.2.2.1 q (by omega)
        refine x_aload_n 1 d_X3_as_46 rfl rfl ?_
        refine x_getr (j := 0) 1 x_c3 rfl (Nat.le_of_ble_eq_true rfl) q147 rfl d_X3_as_47 ?_
        refine x_getr (j := 1) (1 + 2) x_c0 (p_kd x_pr1) (Nat.le_of_ble_eq_true rfl) q35 (p_f1 x_pr1) d_X3_as_50 ?_
        refine x_iload_n 0 d_X3_as_53 rfl rfl ?_
        refine x_ialdN (z := (gA g) (24 + 3 * q)) 8 q (p_k2 x_pr1) (p_l2 x_pr1) (by omega) (by decide) (PR.kd hL q (by omega)) d_X3_as_54 ?_
        rw [ekq]
        refine x_iload_n 3 d_X3_as_55 rfl rfl ?_
        refine x_csip (as := [.int (nI kq), .int (nI kk)]) (c_X3_isUnder l E μ (k := kq) (t := kk) (by omega) (by omega)) v_X3_isUnder q598 q597 rfl ⟨Nat.le_of_ble_eq_true rfl, Nat.le_of_ble_eq_true rfl⟩ rfl (Nat.le_of_ble_eq_true rfl) d_X3_as_56 ?_
        refine x_ifb_eq 66 d_X3_as_59 (by decide) (fun c11 => ?_) (fun c11 => ?_)
        · skip
          refine x_aload_n 1 d_X3_as_66 rfl rfl ?_
          refine x_ldc q602 d_X3_as_67 ?_
          refine x_cvi (k := 0) (as := [.int (-1000003)]) (c_X3_finding l E μ (i := 2) hD (by decide) (w := (-1000003)) (by decide)) v_X3_finding w_X3_finding q183 o_X rfl ⟨Nat.le_of_ble_eq_true rfl, Nat.le_of_ble_eq_true rfl⟩ rfl (Nat.le_of_ble_eq_true rfl) d_X3_as_69 ?_
          rintro _ μ12 ⟨rfl, hD13, hF14⟩
          have hL15 := PR.cg hL (μ' := μ12) (fun id hid => (hF14 _ (by omega)))
          have hLH16 := hH
          rw [← (show μ12 1 = μ 1 from (hF14 _ (by omega)))] at hLH16
          have hX17 := XR.cg hX (μ' := μ12) (fun id hid => (hF14 _ (by omega)))
          have hF18 : ∀ id, 41 ≤ id → μ12 id = μ id := fun id hid => (show μ12 id = μ id from (hF14 _ (by omega))).trans (hF id hid)
          refine x_iret rfl d_X3_as_72 ?_
          have e9 : F_as g (nI jj) (nI kk) = fin g 2 := by simp [F_as, x_b_f, x_b_t, c1, c9, c11, nI_clamp (n := jj) (by omega), nI_clamp (n := kk) (by omega), eq, hne, ekq, nI_clamp (n := q) (by omega)]
          rw [e9]
          exact ⟨rfl, XS.fin hL15 hLH16 hX17 hD13, hF18⟩
        · skip
          refine x_iload_n 0 d_X3_as_62 rfl rfl ?_
          refine x_goto 72 d_X3_as_63 (by decide) ?_
          refine x_iret rfl d_X3_as_72 ?_
          have e9 : F_as g (nI jj) (nI kk) = (nI q, g) := by simp [F_as, x_b_f, x_b_t, c1, c9, c11, nI_clamp (n := jj) (by omega), nI_clamp (n := kk) (by omega), eq, hne, ekq, nI_clamp (n := q) (by omega)]
          rw [e9]
          exact ⟨rfl, ⟨hL, hH, hX, hD⟩, hF⟩
      · skip
        have e5 := spot_f hI.1 (j := jj) (by omega) c10
        refine x_aload_n 1 d_X3_as_39 rfl rfl ?_
        refine x_ldc q414 d_X3_as_40 ?_
        refine x_cvi (k := 0) (as := [.int (-1000006)]) (c_X3_finding l E μ (i := 5) hD (by decide) (w := (-1000006)) (by decide)) v_X3_finding w_X3_finding q183 o_X rfl ⟨Nat.le_of_ble_eq_true rfl, Nat.le_of_ble_eq_true rfl⟩ rfl (Nat.le_of_ble_eq_true rfl) d_X3_as_42 ?_
        rintro _ μ19 ⟨rfl, hD20, hF21⟩
        have hL22 := PR.cg hL (μ' := μ19) (fun id hid => (hF21 _ (by omega)))
        have hLH23 := hH
        rw [← (show μ19 1 = μ 1 from (hF21 _ (by omega)))] at hLH23
        have hX24 := XR.cg hX (μ' := μ19) (fun id hid => (hF21 _ (by omega)))
        have hF25 : ∀ id, 41 ≤ id → μ19 id = μ id := fun id hid => (show μ19 id = μ id from (hF21 _ (by omega))).trans (hF id hid)
        refine x_iret rfl d_X3_as_45 ?_
        have e9 : F_as g (nI jj) (nI kk) = fin g 5 := by simp [F_as, x_b_f, x_b_t, c1, c9, nI_clamp (n := jj) (by omega), nI_clamp (n := kk) (by omega), e5]
        rw [e9]
        exact ⟨rfl, XS.fin hL22 hLH23 hX24 hD20, hF25⟩
    · skip
      refine x_aload_n 0 d_X3_as_14 rfl rfl ?_
      refine x_ldc q182 d_X3_as_15 ?_
      refine x_cvi (k := 0) (as := [.int (-1000001)]) (c_X3_finding l E μ (i := 0) hD (by decide) (w := (-1000001)) (by decide)) v_X3_finding w_X3_finding q183 o_X rfl ⟨Nat.le_of_ble_eq_true rfl, Nat.le_of_ble_eq_true rfl⟩ rfl (Nat.le_of_ble_eq_true rfl) d_X3_as_17 ?_
      rintro _ μ26 ⟨rfl, hD27, hF28⟩
      have hL29 := PR.cg hL (μ' := μ26) (fun id hid => (hF28 _ (by omega)))
      have hLH30 := hH
      rw [← (show μ26 1 = μ 1 from (hF28 _ (by omega)))] at hLH30
      have hX31 := XR.cg hX (μ' := μ26) (fun id hid => (hF28 _ (by omega)))
      have hF32 : ∀ id, 41 ≤ id → μ26 id = μ id := fun id hid => (show μ26 id = μ id from (hF28 _ (by omega))).trans (hF id hid)
      refine x_iret rfl d_X3_as_20 ?_
      have e9 : F_as g (nI jj) k = fin g 0 := by simp [F_as, x_b_f, x_b_t, c1, c9, nI_clamp (n := jj) (by omega)]
      rw [e9]
      exact ⟨rfl, XS.fin hL29 hLH30 hX31 hD27, hF32⟩
def m_X3_count : x_M := (yX3_count, prog_1_method_54_code, 2, (some FieldType.int), 6, 140)
theorem v_X3_count : x_VM m_X3_count 1 := ⟨q653, q1, by decide +kernel, by decide +kernel, by decide +kernel⟩
theorem w_X3_count : x_VI m_X3_count := ⟨q651, q652⟩
theorem d_X3_count_0 : x_dec m_X3_count 0 (.iload_n 1) 1 1 := ⟨by decide +kernel, rfl⟩
theorem d_X3_count_1 : x_dec m_X3_count 1 (.tableswitch 117 0 7 #[47, 55, 63, 74, 85, 93, 101, 109]) 47 48 := ⟨by decide +kernel, rfl⟩
theorem d_X3_count_48 : x_dec m_X3_count 48 (.aload_n 0) 1 49 := ⟨by decide +kernel, rfl⟩
theorem d_X3_count_49 : x_dec m_X3_count 49 (.getfield 12) 3 52 := ⟨by decide +kernel, rfl⟩
theorem d_X3_count_52 : x_dec m_X3_count 52 (.getfield 112) 3 55 := ⟨by decide +kernel, rfl⟩
theorem d_X3_count_55 : x_dec m_X3_count 55 (.ireturn) 1 56 := ⟨by decide +kernel, rfl⟩
theorem d_X3_count_56 : x_dec m_X3_count 56 (.aload_n 0) 1 57 := ⟨by decide +kernel, rfl⟩
theorem d_X3_count_57 : x_dec m_X3_count 57 (.getfield 12) 3 60 := ⟨by decide +kernel, rfl⟩
theorem d_X3_count_60 : x_dec m_X3_count 60 (.getfield 72) 3 63 := ⟨by decide +kernel, rfl⟩
theorem d_X3_count_63 : x_dec m_X3_count 63 (.ireturn) 1 64 := ⟨by decide +kernel, rfl⟩
theorem d_X3_count_64 : x_dec m_X3_count 64 (.aload_n 0) 1 65 := ⟨by decide +kernel, rfl⟩
theorem d_X3_count_65 : x_dec m_X3_count 65 (.getfield 12) 3 68 := ⟨by decide +kernel, rfl⟩
theorem d_X3_count_68 : x_dec m_X3_count 68 (.invokevirtual 120) 3 71 := ⟨by decide +kernel, rfl⟩
theorem d_X3_count_71 : x_dec m_X3_count 71 (.invokestatic 155) 3 74 := ⟨by decide +kernel, rfl⟩
theorem d_X3_count_74 : x_dec m_X3_count 74 (.ireturn) 1 75 := ⟨by decide +kernel, rfl⟩
theorem d_X3_count_75 : x_dec m_X3_count 75 (.aload_n 0) 1 76 := ⟨by decide +kernel, rfl⟩
theorem d_X3_count_76 : x_dec m_X3_count 76 (.getfield 12) 3 79 := ⟨by decide +kernel, rfl⟩
theorem d_X3_count_79 : x_dec m_X3_count 79 (.invokevirtual 124) 3 82 := ⟨by decide +kernel, rfl⟩
theorem d_X3_count_82 : x_dec m_X3_count 82 (.invokestatic 155) 3 85 := ⟨by decide +kernel, rfl⟩
theorem d_X3_count_85 : x_dec m_X3_count 85 (.ireturn) 1 86 := ⟨by decide +kernel, rfl⟩
theorem d_X3_count_86 : x_dec m_X3_count 86 (.aload_n 0) 1 87 := ⟨by decide +kernel, rfl⟩
theorem d_X3_count_87 : x_dec m_X3_count 87 (.getfield 12) 3 90 := ⟨by decide +kernel, rfl⟩
theorem d_X3_count_90 : x_dec m_X3_count 90 (.invokevirtual 130) 3 93 := ⟨by decide +kernel, rfl⟩
theorem d_X3_count_93 : x_dec m_X3_count 93 (.ireturn) 1 94 := ⟨by decide +kernel, rfl⟩
theorem d_X3_count_94 : x_dec m_X3_count 94 (.aload_n 0) 1 95 := ⟨by decide +kernel, rfl⟩
theorem d_X3_count_95 : x_dec m_X3_count 95 (.getfield 29) 3 98 := ⟨by decide +kernel, rfl⟩
theorem d_X3_count_98 : x_dec m_X3_count 98 (.getfield 221) 3 101 := ⟨by decide +kernel, rfl⟩
theorem d_X3_count_101 : x_dec m_X3_count 101 (.ireturn) 1 102 := ⟨by decide +kernel, rfl⟩
theorem d_X3_count_102 : x_dec m_X3_count 102 (.aload_n 0) 1 103 := ⟨by decide +kernel, rfl⟩
theorem d_X3_count_103 : x_dec m_X3_count 103 (.getfield 12) 3 106 := ⟨by decide +kernel, rfl⟩
theorem d_X3_count_106 : x_dec m_X3_count 106 (.getfield 218) 3 109 := ⟨by decide +kernel, rfl⟩
theorem d_X3_count_109 : x_dec m_X3_count 109 (.ireturn) 1 110 := ⟨by decide +kernel, rfl⟩
theorem d_X3_count_110 : x_dec m_X3_count 110 (.aload_n 0) 1 111 := ⟨by decide +kernel, rfl⟩
theorem d_X3_count_111 : x_dec m_X3_count 111 (.getfield 12) 3 114 := ⟨by decide +kernel, rfl⟩
theorem d_X3_count_114 : x_dec m_X3_count 114 (.invokevirtual 256) 3 117 := ⟨by decide +kernel, rfl⟩
theorem d_X3_count_117 : x_dec m_X3_count 117 (.ireturn) 1 118 := ⟨by decide +kernel, rfl⟩
theorem d_X3_count_118 : x_dec m_X3_count 118 (.aload_n 0) 1 119 := ⟨by decide +kernel, rfl⟩
theorem d_X3_count_119 : x_dec m_X3_count 119 (.ldc 55) 2 121 := ⟨by decide +kernel, rfl⟩
theorem d_X3_count_121 : x_dec m_X3_count 121 (.invokevirtual 56) 3 124 := ⟨by decide +kernel, rfl⟩
theorem d_X3_count_124 : x_dec m_X3_count 124 (.ireturn) 1 125 := ⟨by decide +kernel, rfl⟩
set_option maxHeartbeats 4000000 in
set_option maxRecDepth 100000 in
theorem c_X3_count (l : Launch) (E : x_E) (μ : x_Mem) (g : x_SG) (hS : XS g μ) (hI : Inv g) (w : Int32) : x_Met l m_X3_count E [.ref (E.1 + 0), .int w] μ (x_I (fun z m => z = (F_count g w).1 ∧ XS (F_count g w).2 m ∧ ∀ id, 41 ≤ id → m id = μ id)) := by
  obtain ⟨hL, hH, hX, hD⟩ := hS
  have hWF := hI.1.1
  have hn7 := hWF.2.1
  have hpn := hWF.1
  have hF : ∀ id, 41 ≤ id → μ id = μ id := fun _ _ => rfl
  have h64 := setN_64 (thereB (gA g)) (n := 16) (by decide)
  have h65 := setN_64 (fun p => decide (gA g (24 + 3 * p + 1) = -1)) (n := pn (gA g)) (by omega)
  refine x_enter (lv := [(0, .ref (E.1 + 0)), (1, .int w)]) (by decide +kernel) (Nat.le_of_ble_eq_true rfl) rfl ?_
  refine x_iload_n 1 d_X3_count_0 rfl rfl ?_
  by_cases k1 : w = 0
  · have k1T : (w).toInt = 0 := by rw [k1]; decide
    refine x_tswIn 48 (off := 47) d_X3_count_1 (by rw [k1T]; decide) (by rw [k1T]; decide) (by rw [k1T]; decide) (by decide) ?_
    refine x_aload_n 0 d_X3_count_48 rfl rfl ?_
    refine x_getr (j := 0) 1 x_c3 rfl (Nat.le_of_ble_eq_true rfl) q147 rfl d_X3_count_49 ?_
    refine x_getiV (j := 11) (z := gA g 0) x_c0 (p_kd x_pr1) (Nat.le_of_ble_eq_true rfl) q60 (p_n11 x_pr1) hH d_X3_count_52 ?_
    refine x_iret rfl d_X3_count_55 ?_
    have e9 : F_count g w = (gA g 0, g) := by simp [F_count, x_b_f, x_b_t, k1, hn7]
    rw [e9]
    exact ⟨rfl, ⟨hL, hH, hX, hD⟩, hF⟩
  by_cases k2 : w = 1
  · have k2T : (w).toInt = 1 := by rw [k2]; decide
    refine x_tswIn 56 (off := 55) d_X3_count_1 (by rw [k2T]; decide) (by rw [k2T]; decide) (by rw [k2T]; decide) (by decide) ?_
    refine x_aload_n 0 d_X3_count_56 rfl rfl ?_
    refine x_getr (j := 0) 1 x_c3 rfl (Nat.le_of_ble_eq_true rfl) q147 rfl d_X3_count_57 ?_
    refine x_getiV (j := 5) (z := nI (pn (gA g))) x_c0 (p_kd x_pr1) (Nat.le_of_ble_eq_true rfl) q43 (p_n5 x_pr1) ((PR.f5 hL).trans hn7) d_X3_count_60 ?_
    refine x_iret rfl d_X3_count_63 ?_
    have e9 : F_count g w = (nI (pn (gA g)), g) := by simp [F_count, x_b_f, x_b_t, k2, hn7]
    rw [e9]
    exact ⟨rfl, ⟨hL, hH, hX, hD⟩, hF⟩
  by_cases k3 : w = 2
  · have k3T : (w).toInt = 2 := by rw [k3]; decide
    refine x_tswIn 64 (off := 63) d_X3_count_1 (by rw [k3T]; decide) (by rw [k3T]; decide) (by rw [k3T]; decide) (by decide) ?_
    refine x_aload_n 0 d_X3_count_64 rfl rfl ?_
    refine x_getr (j := 0) 1 x_c3 rfl (Nat.le_of_ble_eq_true rfl) q147 rfl d_X3_count_65 ?_
    refine x_cvip (k := 1) (as := []) (c_X0_aboardSet l E μ x_pr1 hL hWF) v_X0_aboardSet w_X0_aboardSet q292 (p_ob x_pr1) rfl ⟨Nat.le_of_ble_eq_true rfl, Nat.le_of_ble_eq_true rfl⟩ rfl (Nat.le_of_ble_eq_true rfl) d_X3_count_68 ?_
    rw [aboardN hpn]
    refine x_csip (as := [.int (nI (setN (fun p => decide (gA g (24 + 3 * p + 1) = -1)) (pn (gA g))))]) (c_J_bitCount l E μ (s := (setN (fun p => decide (gA g (24 + 3 * p + 1) = -1)) (pn (gA g)))) (by omega)) v_J_bitCount q370 q369 rfl ⟨Nat.le_of_ble_eq_true rfl, Nat.le_of_ble_eq_true rfl⟩ rfl (Nat.le_of_ble_eq_true rfl) d_X3_count_71 ?_
    rw [pop_set (by omega)]
    refine x_iret rfl d_X3_count_74 ?_
    have e9 : F_count g w = (cntTo 0 (fun p => decide (gA g (24 + 3 * p + 1) = -1)) (pn (gA g)), g) := by simp [F_count, x_b_f, x_b_t, k3, hn7]
    rw [e9]
    exact ⟨rfl, ⟨hL, hH, hX, hD⟩, hF⟩
  by_cases k4 : w = 3
  · have k4T : (w).toInt = 3 := by rw [k4]; decide
    refine x_tswIn 75 (off := 74) d_X3_count_1 (by rw [k4T]; decide) (by rw [k4T]; decide) (by rw [k4T]; decide) (by decide) ?_
    refine x_aload_n 0 d_X3_count_75 rfl rfl ?_
    refine x_getr (j := 0) 1 x_c3 rfl (Nat.le_of_ble_eq_true rfl) q147 rfl d_X3_count_76 ?_
    refine x_cvip (k := 1) (as := []) (c_X0_thereSet l E μ x_pr1 hL hWF) v_X0_thereSet w_X0_thereSet q296 (p_ob x_pr1) rfl ⟨Nat.le_of_ble_eq_true rfl, Nat.le_of_ble_eq_true rfl⟩ rfl (Nat.le_of_ble_eq_true rfl) d_X3_count_79 ?_
    rw [thereN]
    refine x_csip (as := [.int (nI (setN (thereB (gA g)) 16))]) (c_J_bitCount l E μ (s := (setN (thereB (gA g)) 16)) (by omega)) v_J_bitCount q370 q369 rfl ⟨Nat.le_of_ble_eq_true rfl, Nat.le_of_ble_eq_true rfl⟩ rfl (Nat.le_of_ble_eq_true rfl) d_X3_count_82 ?_
    rw [pop_set (by decide)]
    refine x_iret rfl d_X3_count_85 ?_
    have e9 : F_count g w = (cntTo 0 (thereB (gA g)) 16, g) := by simp [F_count, x_b_f, x_b_t, k4, hn7]
    rw [e9]
    exact ⟨rfl, ⟨hL, hH, hX, hD⟩, hF⟩
  by_cases k5 : w = 4
  · have k5T : (w).toInt = 4 := by rw [k5]; decide
    refine x_tswIn 86 (off := 85) d_X3_count_1 (by rw [k5T]; decide) (by rw [k5T]; decide) (by rw [k5T]; decide) (by decide) ?_
    refine x_aload_n 0 d_X3_count_86 rfl rfl ?_
    refine x_getr (j := 0) 1 x_c3 rfl (Nat.le_of_ble_eq_true rfl) q147 rfl d_X3_count_87 ?_
    refine x_cvip (k := 1) (as := []) (c_X0_beliefOfAll l E μ x_pr1 hL hWF) v_X0_beliefOfAll w_X0_beliefOfAll q301 (p_ob x_pr1) rfl ⟨Nat.le_of_ble_eq_true rfl, Nat.le_of_ble_eq_true rfl⟩ rfl (Nat.le_of_ble_eq_true rfl) d_X3_count_90 ?_
    refine x_iret rfl d_X3_count_93 ?_
    have e9 : F_count g w = (beliefsF (gA g), g) := by simp [F_count, x_b_f, x_b_t, k5, hn7]
    rw [e9]
    exact ⟨rfl, ⟨hL, hH, hX, hD⟩, hF⟩
  by_cases k6 : w = 5
  · have k6T : (w).toInt = 5 := by rw [k6]; decide
    refine x_tswIn 94 (off := 93) d_X3_count_1 (by rw [k6T]; decide) (by rw [k6T]; decide) (by rw [k6T]; decide) (by decide) ?_
    refine x_aload_n 0 d_X3_count_94 rfl rfl ?_
    refine x_getr (j := 4) 28 x_c3 rfl (Nat.le_of_ble_eq_true rfl) q151 rfl d_X3_count_95 ?_
    refine x_getiV (j := 1) (z := nI (gT g)) x_c2 rfl (Nat.le_of_ble_eq_true rfl) q108 rfl (hX.2.2.1) d_X3_count_98 ?_
    refine x_iret rfl d_X3_count_101 ?_
    have e9 : F_count g w = (nI (gT g), g) := by simp [F_count, x_b_f, x_b_t, k6, hn7]
    rw [e9]
    exact ⟨rfl, ⟨hL, hH, hX, hD⟩, hF⟩
  by_cases k7 : w = 6
  · have k7T : (w).toInt = 6 := by rw [k7]; decide
    refine x_tswIn 102 (off := 101) d_X3_count_1 (by rw [k7T]; decide) (by rw [k7T]; decide) (by rw [k7T]; decide) (by decide) ?_
    refine x_aload_n 0 d_X3_count_102 rfl rfl ?_
    refine x_getr (j := 0) 1 x_c3 rfl (Nat.le_of_ble_eq_true rfl) q147 rfl d_X3_count_103 ?_
    refine x_getiV (j := 12) (z := (gA g) 6) x_c0 (p_kd x_pr1) (Nat.le_of_ble_eq_true rfl) q62 (p_n12 x_pr1) (PR.f12 hL) d_X3_count_106 ?_
    refine x_iret rfl d_X3_count_109 ?_
    have e9 : F_count g w = ((gA g) 6, g) := by simp [F_count, x_b_f, x_b_t, k7, hn7]
    rw [e9]
    exact ⟨rfl, ⟨hL, hH, hX, hD⟩, hF⟩
  by_cases k8 : w = 7
  · have k8T : (w).toInt = 7 := by rw [k8]; decide
    refine x_tswIn 110 (off := 109) d_X3_count_1 (by rw [k8T]; decide) (by rw [k8T]; decide) (by rw [k8T]; decide) (by decide) ?_
    refine x_aload_n 0 d_X3_count_110 rfl rfl ?_
    refine x_getr (j := 0) 1 x_c3 rfl (Nat.le_of_ble_eq_true rfl) q147 rfl d_X3_count_111 ?_
    refine x_cvip (k := 1) (as := []) (c_X0_spotsInUse l E μ x_pr1 hL) v_X0_spotsInUse w_X0_spotsInUse q654 (p_ob x_pr1) rfl ⟨Nat.le_of_ble_eq_true rfl, Nat.le_of_ble_eq_true rfl⟩ rfl (Nat.le_of_ble_eq_true rfl) d_X3_count_114 ?_
    refine x_iret rfl d_X3_count_117 ?_
    have e9 : F_count g w = (spotsF (gA g), g) := by simp [F_count, x_b_f, x_b_t, k8, hn7]
    rw [e9]
    exact ⟨rfl, ⟨hL, hH, hX, hD⟩, hF⟩
  have k1T : ¬ (w).toInt = 0 := lv_neT k1 (by decide)
  have k2T : ¬ (w).toInt = 1 := lv_neT k2 (by decide)
  have k3T : ¬ (w).toInt = 2 := lv_neT k3 (by decide)
  have k4T : ¬ (w).toInt = 3 := lv_neT k4 (by decide)
  have k5T : ¬ (w).toInt = 4 := lv_neT k5 (by decide)
  have k6T : ¬ (w).toInt = 5 := lv_neT k6 (by decide)
  have k7T : ¬ (w).toInt = 6 := lv_neT k7 (by decide)
  have k8T : ¬ (w).toInt = 7 := lv_neT k8 (by decide)
  refine x_tswOut 118 d_X3_count_1 (by omega) (by decide) ?_
  refine x_aload_n 0 d_X3_count_118 rfl rfl ?_
  refine x_ldc q182 d_X3_count_119 ?_
  refine x_cvi (k := 0) (as := [.int (-1000001)]) (c_X3_finding l E μ (i := 0) hD (by decide) (w := (-1000001)) (by decide)) v_X3_finding w_X3_finding q183 o_X rfl ⟨Nat.le_of_ble_eq_true rfl, Nat.le_of_ble_eq_true rfl⟩ rfl (Nat.le_of_ble_eq_true rfl) d_X3_count_121 ?_
  rintro _ μ9 ⟨rfl, hD10, hF11⟩
  have hL12 := PR.cg hL (μ' := μ9) (fun id hid => (hF11 _ (by omega)))
  have hLH13 := hH
  rw [← (show μ9 1 = μ 1 from (hF11 _ (by omega)))] at hLH13
  have hX14 := XR.cg hX (μ' := μ9) (fun id hid => (hF11 _ (by omega)))
  have hF15 : ∀ id, 41 ≤ id → μ9 id = μ id := fun id hid => (show μ9 id = μ id from (hF11 _ (by omega))).trans (hF id hid)
  refine x_iret rfl d_X3_count_124 ?_
  have e9 : F_count g w = fin g 0 := by simp [F_count, x_b_f, x_b_t, k1, k2, k3, k4, k5, k6, k7, k8, hn7]
  rw [e9]
  exact ⟨rfl, XS.fin hL12 hLH13 hX14 hD10, hF15⟩
def m_X3_status : x_M := (yX3_status, prog_1_method_55_code, 4, (some FieldType.int), 1, 22)
theorem v_X3_status : x_VM m_X3_status 1 := ⟨q661, q1, by decide +kernel, by decide +kernel, by decide +kernel⟩
theorem w_X3_status : x_VI m_X3_status := ⟨q659, q660⟩
theorem d_X3_status_0 : x_dec m_X3_status 0 (.iload_n 1) 1 1 := ⟨by decide +kernel, rfl⟩
theorem d_X3_status_1 : x_dec m_X3_status 1 (.iconst (-1)) 1 2 := ⟨by decide +kernel, rfl⟩
theorem d_X3_status_2 : x_dec m_X3_status 2 (.if_icmp .ne 30) 3 5 := ⟨by decide +kernel, rfl⟩
theorem d_X3_status_5 : x_dec m_X3_status 5 (.iconst 0) 1 6 := ⟨by decide +kernel, rfl⟩
theorem d_X3_status_6 : x_dec m_X3_status 6 (.istore_n 2) 1 7 := ⟨by decide +kernel, rfl⟩
theorem d_X3_status_7 : x_dec m_X3_status 7 (.iconst 0) 1 8 := ⟨by decide +kernel, rfl⟩
theorem d_X3_status_8 : x_dec m_X3_status 8 (.istore_n 3) 1 9 := ⟨by decide +kernel, rfl⟩
theorem d_X3_status_9 : x_dec m_X3_status 9 (.iload_n 3) 1 10 := ⟨by decide +kernel, rfl⟩
theorem d_X3_status_10 : x_dec m_X3_status 10 (.bipush 7) 2 12 := ⟨by decide +kernel, rfl⟩
theorem d_X3_status_12 : x_dec m_X3_status 12 (.if_icmp .ge 18) 3 15 := ⟨by decide +kernel, rfl⟩
theorem d_X3_status_15 : x_dec m_X3_status 15 (.iload_n 2) 1 16 := ⟨by decide +kernel, rfl⟩
theorem d_X3_status_16 : x_dec m_X3_status 16 (.aload_n 0) 1 17 := ⟨by decide +kernel, rfl⟩
theorem d_X3_status_17 : x_dec m_X3_status 17 (.getfield 43) 3 20 := ⟨by decide +kernel, rfl⟩
theorem d_X3_status_20 : x_dec m_X3_status 20 (.iload_n 3) 1 21 := ⟨by decide +kernel, rfl⟩
theorem d_X3_status_21 : x_dec m_X3_status 21 (.iaload) 1 22 := ⟨by decide +kernel, rfl⟩
theorem d_X3_status_22 : x_dec m_X3_status 22 (.iadd) 1 23 := ⟨by decide +kernel, rfl⟩
theorem d_X3_status_23 : x_dec m_X3_status 23 (.istore_n 2) 1 24 := ⟨by decide +kernel, rfl⟩
theorem d_X3_status_24 : x_dec m_X3_status 24 (.iinc 3 1) 3 27 := ⟨by decide +kernel, rfl⟩
theorem d_X3_status_27 : x_dec m_X3_status 27 (.goto (-18)) 3 30 := ⟨by decide +kernel, rfl⟩
theorem d_X3_status_30 : x_dec m_X3_status 30 (.iload_n 2) 1 31 := ⟨by decide +kernel, rfl⟩
theorem d_X3_status_31 : x_dec m_X3_status 31 (.ireturn) 1 32 := ⟨by decide +kernel, rfl⟩
theorem d_X3_status_32 : x_dec m_X3_status 32 (.iload_n 1) 1 33 := ⟨by decide +kernel, rfl⟩
theorem d_X3_status_33 : x_dec m_X3_status 33 (.ifCond .lt 9) 3 36 := ⟨by decide +kernel, rfl⟩
theorem d_X3_status_36 : x_dec m_X3_status 36 (.iload_n 1) 1 37 := ⟨by decide +kernel, rfl⟩
theorem d_X3_status_37 : x_dec m_X3_status 37 (.bipush 7) 2 39 := ⟨by decide +kernel, rfl⟩
theorem d_X3_status_39 : x_dec m_X3_status 39 (.if_icmp .lt 10) 3 42 := ⟨by decide +kernel, rfl⟩
theorem d_X3_status_42 : x_dec m_X3_status 42 (.aload_n 0) 1 43 := ⟨by decide +kernel, rfl⟩
theorem d_X3_status_43 : x_dec m_X3_status 43 (.ldc 55) 2 45 := ⟨by decide +kernel, rfl⟩
theorem d_X3_status_45 : x_dec m_X3_status 45 (.invokevirtual 56) 3 48 := ⟨by decide +kernel, rfl⟩
theorem d_X3_status_48 : x_dec m_X3_status 48 (.ireturn) 1 49 := ⟨by decide +kernel, rfl⟩
theorem d_X3_status_49 : x_dec m_X3_status 49 (.aload_n 0) 1 50 := ⟨by decide +kernel, rfl⟩
theorem d_X3_status_50 : x_dec m_X3_status 50 (.getfield 43) 3 53 := ⟨by decide +kernel, rfl⟩
theorem d_X3_status_53 : x_dec m_X3_status 53 (.iload_n 1) 1 54 := ⟨by decide +kernel, rfl⟩
theorem d_X3_status_54 : x_dec m_X3_status 54 (.iaload) 1 55 := ⟨by decide +kernel, rfl⟩
theorem d_X3_status_55 : x_dec m_X3_status 55 (.ireturn) 1 56 := ⟨by decide +kernel, rfl⟩
set_option maxHeartbeats 4000000 in
set_option maxRecDepth 100000 in
theorem c_X3_status (l : Launch) (E : x_E) (μ : x_Mem) (g : x_SG) (hS : XS g μ) (hI : Inv g) (w : Int32) : x_Met l m_X3_status E [.ref (E.1 + 0), .int w] μ (x_I (fun z m => z = (F_status g w).1 ∧ XS (F_status g w).2 m ∧ ∀ id, 41 ≤ id → m id = μ id)) := by
  obtain ⟨hL, hH, hX, hD⟩ := hS
  have hWF := hI.1.1
  have hn7 := hWF.2.1
  have hpn := hWF.1
  have hF : ∀ id, 41 ≤ id → μ id = μ id := fun _ _ => rfl
  refine x_enter (lv := [(0, .ref (E.1 + 0)), (1, .int w)]) (by decide +kernel) (Nat.le_of_ble_eq_true rfl) rfl ?_
  refine x_iload_n 1 d_X3_status_0 rfl rfl ?_
  refine x_iconst (x := (-1)) d_X3_status_1 (by decide) ?_
  refine x_icmp_ne 32 d_X3_status_2 (by decide) (fun c1 => ?_) (fun c1 => ?_)
  · skip
    refine x_iload_n 1 d_X3_status_32 rfl rfl ?_
    refine x_if_lt 42 d_X3_status_33 (by decide) (fun c2 => ?_) (fun c2 => ?_)
    · skip
      refine x_aload_n 0 d_X3_status_42 rfl rfl ?_
      refine x_ldc q182 d_X3_status_43 ?_
      refine x_cvi (k := 0) (as := [.int (-1000001)]) (c_X3_finding l E μ (i := 0) hD (by decide) (w := (-1000001)) (by decide)) v_X3_finding w_X3_finding q183 o_X rfl ⟨Nat.le_of_ble_eq_true rfl, Nat.le_of_ble_eq_true rfl⟩ rfl (Nat.le_of_ble_eq_true rfl) d_X3_status_45 ?_
      rintro _ μ3 ⟨rfl, hD4, hF5⟩
      have hL6 := PR.cg hL (μ' := μ3) (fun id hid => (hF5 _ (by omega)))
      have hLH7 := hH
      rw [← (show μ3 1 = μ 1 from (hF5 _ (by omega)))] at hLH7
      have hX8 := XR.cg hX (μ' := μ3) (fun id hid => (hF5 _ (by omega)))
      have hF9 : ∀ id, 41 ≤ id → μ3 id = μ id := fun id hid => (show μ3 id = μ id from (hF5 _ (by omega))).trans (hF id hid)
      refine x_iret rfl d_X3_status_48 ?_
      have e9 : F_status g w = fin g 0 := status_lo g c1 c2
      rw [e9]
      exact ⟨rfl, XS.fin hL6 hLH7 hX8 hD4, hF9⟩
    · skip
      refine x_iload_n 1 d_X3_status_36 rfl rfl ?_
      refine x_bipush (x := 7) d_X3_status_37 (by decide) ?_
      refine x_icmp_lt 49 d_X3_status_39 (by decide) (fun c10 => ?_) (fun c10 => ?_)
      · skip
        obtain ⟨i, hi0, rfl⟩ := nI_of c2
        have hi7 : i < 7 := (nI_ltI (a := i) (b := 7) (by omega) (by decide)).mp c10
        refine x_aload_n 0 d_X3_status_49 rfl rfl ?_
        refine x_getr (j := 7) 32 x_c3 rfl (Nat.le_of_ble_eq_true rfl) q154 rfl d_X3_status_50 ?_
        refine x_iload_n 1 d_X3_status_53 rfl rfl ?_
        refine x_ialdN (z := gF g i) 7 i rfl rfl (by omega) (by decide) (hD i (by omega)) d_X3_status_54 ?_
        refine x_iret rfl d_X3_status_55 ?_
        have e9 : F_status g (nI i) = (gF g i, g) := status_one g hi7
        rw [e9]
        exact ⟨rfl, ⟨hL, hH, hX, hD⟩, hF⟩
      · skip
        refine x_aload_n 0 d_X3_status_42 rfl rfl ?_
        refine x_ldc q182 d_X3_status_43 ?_
        refine x_cvi (k := 0) (as := [.int (-1000001)]) (c_X3_finding l E μ (i := 0) hD (by decide) (w := (-1000001)) (by decide)) v_X3_finding w_X3_finding q183 o_X rfl ⟨Nat.le_of_ble_eq_true rfl, Nat.le_of_ble_eq_true rfl⟩ rfl (Nat.le_of_ble_eq_true rfl) d_X3_status_45 ?_
        rintro _ μ11 ⟨rfl, hD12, hF13⟩
        have hL14 := PR.cg hL (μ' := μ11) (fun id hid => (hF13 _ (by omega)))
        have hLH15 := hH
        rw [← (show μ11 1 = μ 1 from (hF13 _ (by omega)))] at hLH15
        have hX16 := XR.cg hX (μ' := μ11) (fun id hid => (hF13 _ (by omega)))
        have hF17 : ∀ id, 41 ≤ id → μ11 id = μ id := fun id hid => (show μ11 id = μ id from (hF13 _ (by omega))).trans (hF id hid)
        refine x_iret rfl d_X3_status_48 ?_
        have e9 : F_status g w = fin g 0 := status_hi g (Int32.not_lt.mp c10)
        rw [e9]
        exact ⟨rfl, XS.fin hL14 hLH15 hX16 hD12, hF17⟩
  · skip
    refine x_iconst (x := 0) d_X3_status_5 (by decide) ?_
    refine x_istore_n [(2, .int 0), (0, .ref (E.1 + 0)), (1, .int w)] d_X3_status_6 rfl (Nat.le_of_ble_eq_true rfl) rfl ?_
    refine x_iconst (x := 0) d_X3_status_7 (by decide) ?_
    refine x_istore_n [(3, .int 0), (2, .int 0), (0, .ref (E.1 + 0)), (1, .int w)] d_X3_status_8 rfl (Nat.le_of_ble_eq_true rfl) rfl ?_
    have L18 : ∀ i : Nat, i ≤ 7 → ∀ r : Int32, (r = sumTo (gF g) i) → x_G l E m_X3_status (x_mv E m_X3_status (x_I (fun z m => z = (F_status g w).1 ∧ XS (F_status g w).2 m ∧ ∀ id, 41 ≤ id → m id = μ id))) μ 9 [(3, .int (nI i)), (2, .int r), (0, .ref (E.1 + 0)), (1, .int w)] [] := by
      refine x_down _ 7 (fun i hi20 ih19 => ?_)
      intro r hr
      refine x_iload_n 0 d_X3_status_9 rfl rfl ?_
      refine x_bipush (x := 7) d_X3_status_10 (by decide) ?_
      refine x_icmp_ge 30 d_X3_status_12 (by decide) (fun c21 => ?_) (fun c21 => ?_)
      · skip
        have hN := x_ge (N := 7) c21 rfl rfl (by omega) (by omega)
        refine x_iload_n 1 d_X3_status_30 rfl rfl ?_
        refine x_iret rfl d_X3_status_31 ?_
        have e7 : i = 7 := by omega
        subst e7
        have e9 : F_status g w = (r, g) := by rw [c1, hr]; exact status_all g
        rw [e9]
        exact ⟨rfl, ⟨hL, hH, hX, hD⟩, hF⟩
      · skip
        have hN := x_lt (N := 7) c21 rfl rfl (by omega) (by omega)
        refine x_iload_n 1 d_X3_status_15 rfl rfl ?_
        refine x_aload_n 2 d_X3_status_16 rfl rfl ?_
        refine x_getr (j := 7) 32 x_c3 rfl (Nat.le_of_ble_eq_true rfl) q154 rfl d_X3_status_17 ?_
        refine x_iload_n 0 d_X3_status_20 rfl rfl ?_
        refine x_ialdN (z := gF g i) 7 i rfl rfl (by omega) (by decide) (hD i (by omega)) d_X3_status_21 ?_
        refine x_iadd d_X3_status_22 ?_
        refine x_istore_n [(2, .int (r + (gF g i))), (3, .int (nI i)), (0, .ref (E.1 + 0)), (1, .int w)] d_X3_status_23 rfl (Nat.le_of_ble_eq_true rfl) rfl ?_
        refine x_iinc [(3, .int (nI (i + 1))), (2, .int (r + (gF g i))), (0, .ref (E.1 + 0)), (1, .int w)] 1 d_X3_status_24 rfl (x_inc _) (Nat.le_of_ble_eq_true rfl) rfl ?_
        refine x_goto 9 d_X3_status_27 (by decide) ?_
        exact ih19 (i + 1) (by omega) (by omega) (r + (gF g i)) (by rw [hr, sumTo])
    exact L18 0 (by omega) 0 (by rfl)
