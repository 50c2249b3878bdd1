def m_X4_text : x_M := (yX4_text, prog_6_method_87_code, 2, (some FieldType.int), 7, 155)
theorem v_X4_text : x_VM m_X4_text 0 := ⟨q1023, q6, by decide +kernel, by decide +kernel, by decide +kernel⟩
theorem w_X4_text : x_VI m_X4_text := ⟨q1021, q1022⟩
theorem d_X4_text_0 : x_dec m_X4_text 0 (.aload_n 0) 1 1 := ⟨by decide +kernel, rfl⟩
theorem d_X4_text_1 : x_dec m_X4_text 1 (.invokevirtual 134) 3 4 := ⟨by decide +kernel, rfl⟩
theorem d_X4_text_4 : x_dec m_X4_text 4 (.aload_n 0) 1 5 := ⟨by decide +kernel, rfl⟩
theorem d_X4_text_5 : x_dec m_X4_text 5 (.iconst 0) 1 6 := ⟨by decide +kernel, rfl⟩
theorem d_X4_text_6 : x_dec m_X4_text 6 (.putfield 193) 3 9 := ⟨by decide +kernel, rfl⟩
theorem d_X4_text_9 : x_dec m_X4_text 9 (.aload_n 0) 1 10 := ⟨by decide +kernel, rfl⟩
theorem d_X4_text_10 : x_dec m_X4_text 10 (.iconst 0) 1 11 := ⟨by decide +kernel, rfl⟩
theorem d_X4_text_11 : x_dec m_X4_text 11 (.putfield 211) 3 14 := ⟨by decide +kernel, rfl⟩
theorem d_X4_text_14 : x_dec m_X4_text 14 (.aload_n 0) 1 15 := ⟨by decide +kernel, rfl⟩
theorem d_X4_text_15 : x_dec m_X4_text 15 (.invokevirtual 215) 3 18 := ⟨by decide +kernel, rfl⟩
theorem d_X4_text_18 : x_dec m_X4_text 18 (.aload_n 0) 1 19 := ⟨by decide +kernel, rfl⟩
theorem d_X4_text_19 : x_dec m_X4_text 19 (.invokevirtual 234) 3 22 := ⟨by decide +kernel, rfl⟩
theorem d_X4_text_22 : x_dec m_X4_text 22 (.iconst 1) 1 23 := ⟨by decide +kernel, rfl⟩
theorem d_X4_text_23 : x_dec m_X4_text 23 (.istore_n 1) 1 24 := ⟨by decide +kernel, rfl⟩
theorem d_X4_text_24 : x_dec m_X4_text 24 (.aload_n 0) 1 25 := ⟨by decide +kernel, rfl⟩
theorem d_X4_text_25 : x_dec m_X4_text 25 (.bipush 21) 2 27 := ⟨by decide +kernel, rfl⟩
theorem d_X4_text_27 : x_dec m_X4_text 27 (.invokevirtual 218) 3 30 := ⟨by decide +kernel, rfl⟩
theorem d_X4_text_30 : x_dec m_X4_text 30 (.ifCond .eq 13) 3 33 := ⟨by decide +kernel, rfl⟩
theorem d_X4_text_33 : x_dec m_X4_text 33 (.aload_n 0) 1 34 := ⟨by decide +kernel, rfl⟩
theorem d_X4_text_34 : x_dec m_X4_text 34 (.invokevirtual 234) 3 37 := ⟨by decide +kernel, rfl⟩
theorem d_X4_text_37 : x_dec m_X4_text 37 (.iinc 1 1) 3 40 := ⟨by decide +kernel, rfl⟩
theorem d_X4_text_40 : x_dec m_X4_text 40 (.goto (-16)) 3 43 := ⟨by decide +kernel, rfl⟩
theorem d_X4_text_43 : x_dec m_X4_text 43 (.aload_n 0) 1 44 := ⟨by decide +kernel, rfl⟩
theorem d_X4_text_44 : x_dec m_X4_text 44 (.aload_n 0) 1 45 := ⟨by decide +kernel, rfl⟩
theorem d_X4_text_45 : x_dec m_X4_text 45 (.getfield 211) 3 48 := ⟨by decide +kernel, rfl⟩
theorem d_X4_text_48 : x_dec m_X4_text 48 (.ifCond .ne 12) 3 51 := ⟨by decide +kernel, rfl⟩
theorem d_X4_text_51 : x_dec m_X4_text 51 (.aload_n 0) 1 52 := ⟨by decide +kernel, rfl⟩
theorem d_X4_text_52 : x_dec m_X4_text 52 (.getfield 205) 3 55 := ⟨by decide +kernel, rfl⟩
theorem d_X4_text_55 : x_dec m_X4_text 55 (.bipush 22) 2 57 := ⟨by decide +kernel, rfl⟩
theorem d_X4_text_57 : x_dec m_X4_text 57 (.if_icmp .eq 7) 3 60 := ⟨by decide +kernel, rfl⟩
theorem d_X4_text_60 : x_dec m_X4_text 60 (.iconst 1) 1 61 := ⟨by decide +kernel, rfl⟩
theorem d_X4_text_61 : x_dec m_X4_text 61 (.goto 4) 3 64 := ⟨by decide +kernel, rfl⟩
theorem d_X4_text_64 : x_dec m_X4_text 64 (.iconst 0) 1 65 := ⟨by decide +kernel, rfl⟩
theorem d_X4_text_65 : x_dec m_X4_text 65 (.putfield 211) 3 68 := ⟨by decide +kernel, rfl⟩
theorem d_X4_text_68 : x_dec m_X4_text 68 (.aload_n 0) 1 69 := ⟨by decide +kernel, rfl⟩
theorem d_X4_text_69 : x_dec m_X4_text 69 (.iconst 0) 1 70 := ⟨by decide +kernel, rfl⟩
theorem d_X4_text_70 : x_dec m_X4_text 70 (.putfield 183) 3 73 := ⟨by decide +kernel, rfl⟩
theorem d_X4_text_73 : x_dec m_X4_text 73 (.aload_n 0) 1 74 := ⟨by decide +kernel, rfl⟩
theorem d_X4_text_74 : x_dec m_X4_text 74 (.getfield 211) 3 77 := ⟨by decide +kernel, rfl⟩
theorem d_X4_text_77 : x_dec m_X4_text 77 (.ifCond .ne 5) 3 80 := ⟨by decide +kernel, rfl⟩
theorem d_X4_text_80 : x_dec m_X4_text 80 (.iload_n 1) 1 81 := ⟨by decide +kernel, rfl⟩
theorem d_X4_text_81 : x_dec m_X4_text 81 (.ireturn) 1 82 := ⟨by decide +kernel, rfl⟩
theorem d_X4_text_82 : x_dec m_X4_text 82 (.aload_n 0) 1 83 := ⟨by decide +kernel, rfl⟩
theorem d_X4_text_83 : x_dec m_X4_text 83 (.invokevirtual 131) 3 86 := ⟨by decide +kernel, rfl⟩
theorem d_X4_text_86 : x_dec m_X4_text 86 (.iconst (-1)) 1 87 := ⟨by decide +kernel, rfl⟩
theorem d_X4_text_87 : x_dec m_X4_text 87 (.aload_n 0) 1 88 := ⟨by decide +kernel, rfl⟩
theorem d_X4_text_88 : x_dec m_X4_text 88 (.getfield 190) 3 91 := ⟨by decide +kernel, rfl⟩
theorem d_X4_text_91 : x_dec m_X4_text 91 (.isub) 1 92 := ⟨by decide +kernel, rfl⟩
theorem d_X4_text_92 : x_dec m_X4_text 92 (.ireturn) 1 93 := ⟨by decide +kernel, rfl⟩
set_option maxHeartbeats 4000000 in
set_option maxRecDepth 100000 in
theorem c_X4_text (l : Launch) (E : x_E) (μ : x_Mem) (g : x_SG) (hS : MS g μ) (hI : Inv g) : x_Met l m_X4_text E [.ref (E.1 + 41)] μ (x_I (fun z m => z = (F_text g).1 ∧ MS (F_text g).2 m ∧ ∀ id, id < 41 → m id = μ id)) := by
  obtain ⟨hR, hX, hD⟩ := hS
  have hWF := hI.1.1
  have hn7 := hWF.2.1
  have hpn := hWF.1
  have hF : ∀ id, id < 41 → μ id = μ id := fun _ _ => rfl
  refine x_enter (lv := [(0, .ref (E.1 + 41))]) (by decide +kernel) (Nat.le_of_ble_eq_true rfl) rfl ?_
  refine x_aload_n 0 d_X4_text_0 rfl rfl ?_
  refine x_cvv (k := 41) (as := []) (c_X4_thinks l E μ hR) v_X4_thinks w_X4_thinks q859 o_M rfl ⟨Nat.le_of_ble_eq_true rfl, Nat.le_of_ble_eq_true rfl⟩ rfl (Nat.le_of_ble_eq_true rfl) d_X4_text_1 ?_
  rintro μ1 ⟨hW2, hF3⟩
  have hR4 := MR.cg hR (μ' := μ1) (fun id hid => (hF3 _ (by omega)))
  have hX5 := MX.cg hX (μ' := μ1) (fun id hid => (hF3 _ (by omega)))
  have hD6 := MD.cg hD (μ' := μ1) (fun id hid => (hF3 _ (by omega)))
  have hF7 : ∀ id, id < 41 → μ1 id = μ id := fun id hid => (show μ1 id = μ id from (hF3 _ (by omega))).trans (hF id hid)
  obtain ⟨S, hS9⟩ : ∃ S, S = tS g := ⟨_, rfl⟩
  obtain ⟨n, hn9⟩ : ∃ n, n = gT g := ⟨_, rfl⟩
  have hn : n ≤ 120 := by rw [hn9]; exact hI.2.2.1
  have hRW : RW S n μ1 := by rw [hS9, hn9]; exact RW.mx hX5 hI.2.2.2.1
  refine x_aload_n 0 d_X4_text_4 rfl rfl ?_
  refine x_iconst (x := 0) d_X4_text_5 (by decide) ?_
  refine x_putiG (j := 14) x_c4 rfl (Nat.le_of_ble_eq_true rfl) q682 rfl rfl rfl d_X4_text_6 (fun μ8 eμ8 => ?_)
  have hX10 := MX.cw hX5 eμ8 (by decide)
  have hW14 := RW.cw hRW eμ8 (by decide)
  have hf14_15 : μ8 41 14 = 0 := by rw [eμ8, upd2_at, upd_s]
  have hR16 := MR.cg hR4 (μ' := μ8) (fun id hid => (by rw [eμ8, upd2_ne _ _ _ (by omega)]))
  have hD17 := MD.cg hD6 (μ' := μ8) (fun id hid => (by rw [eμ8, upd2_ne _ _ _ (by omega)]))
  have hF18 : ∀ id, id < 41 → μ8 id = μ id := fun id hid => (show μ8 id = μ1 id from (by rw [eμ8, upd2_ne _ _ _ (by omega)])).trans (hF7 id hid)
  have hWAS19 := MW.cg hW2 (μ' := μ8) (fun id hid => (by rw [eμ8, upd2_ne _ _ _ (by omega)]))
  refine x_aload_n 0 d_X4_text_9 rfl rfl ?_
  refine x_iconst (x := 0) d_X4_text_10 (by decide) ?_
  refine x_putzG (j := 16) (q := false) x_c4 rfl (Nat.le_of_ble_eq_true rfl) q684 rfl rfl rfl d_X4_text_11 (fun μ20 eμ20 => ?_)
  have hX22 := MX.cw hX10 eμ20 (by decide)
  have hW26 := RW.cw hW14 eμ20 (by decide)
  have hf1427 : μ20 41 14 = 0 := by rw [eμ20, upd2_at, upd_n _ _ (by decide)]; exact hf14_15
  have hf16_28 : μ20 41 16 = (x_b false) := by rw [eμ20, upd2_at, upd_s]
  have hR29 := MR.cg hR16 (μ' := μ20) (fun id hid => (by rw [eμ20, upd2_ne _ _ _ (by omega)]))
  have hD30 := MD.cg hD17 (μ' := μ20) (fun id hid => (by rw [eμ20, upd2_ne _ _ _ (by omega)]))
  have hF31 : ∀ id, id < 41 → μ20 id = μ id := fun id hid => (show μ20 id = μ8 id from (by rw [eμ20, upd2_ne _ _ _ (by omega)])).trans (hF18 id hid)
  have hWAS32 := MW.cg hWAS19 (μ' := μ20) (fun id hid => (by rw [eμ20, upd2_ne _ _ _ (by omega)]))
  refine x_aload_n 0 d_X4_text_14 rfl rfl ?_
  refine x_cvv (k := 41) (as := []) (c_X4_reads l E μ20 hn hW26 (p := 0) (Nat.zero_le n) hf1427) v_X4_reads w_X4_reads q1024 o_M rfl ⟨Nat.le_of_ble_eq_true rfl, Nat.le_of_ble_eq_true rfl⟩ rfl (Nat.le_of_ble_eq_true rfl) d_X4_text_15 ?_
  rintro μ33 ⟨hK34, hm35, hF36⟩
  have hW37 : RW S n μ33 := RW.of hW26 (hm35 11 (by omega)) (hF36 51 (by omega))
  have hX39 := MX.of hX22 (fun j hj => hm35 j (by omega)) (fun id hid => hF36 id (by omega))
  have hf1644 : μ33 41 16 = (x_b false) := (hm35 16 (Or.inr rfl)).trans hf16_28
  have hR45 := MR.cg hR29 (μ' := μ33) (fun id hid => (hF36 _ (by omega)))
  have hD46 := MD.cg hD30 (μ' := μ33) (fun id hid => (hF36 _ (by omega)))
  have hF47 : ∀ id, id < 41 → μ33 id = μ id := fun id hid => (show μ33 id = μ20 id from (hF36 _ (by omega))).trans (hF31 id hid)
  have hWAS48 := MW.cg hWAS32 (μ' := μ33) (fun id hid => (hF36 _ (by omega)))
  refine x_aload_n 0 d_X4_text_18 rfl rfl ?_
  refine x_cvv (k := 41) (as := []) (c_X4_item l E μ33 hn hW37 hK34 (tok_TO S (Nat.zero_le n)) (tok_c S n _) hf1644 hR45 hWF) v_X4_item w_X4_item q1042 o_M rfl ⟨Nat.le_of_ble_eq_true rfl, Nat.le_of_ble_eq_true rfl⟩ rfl (Nat.le_of_ble_eq_true rfl) d_X4_text_19 ?_
  rintro μ49 ⟨hi50, hm51, hF52⟩
  have hW53 : RW S n μ49 := RW.of hW37 (hm51 11 (by omega)) (hF52 51 (by omega))
  have hX54 := MX.of hX39 hm51 (fun id hid => hF52 id (by omega))
  have hK55 := hi50.2.1
  have hb56 := hi50.1
  have hD57 := MD.cg hD46 (μ' := μ49) (fun id hid => (hF52 _ (by omega)))
  have hF58 : ∀ id, id < 41 → μ49 id = μ id := fun id hid => (show μ49 id = μ33 id from (hF52 _ (by omega))).trans (hF47 id hid)
  have hWAS59 := MW.cg hWAS48 (μ' := μ49) (fun id hid => (hF52 _ (by omega)))
  refine x_iconst (x := 1) d_X4_text_22 (by decide) ?_
  refine x_istore_n [(1, .int 1), (0, .ref (E.1 + 41))] d_X4_text_23 rfl (Nat.le_of_ble_eq_true rfl) rfl ?_
  have L60 : ∀ i : Nat, i ≤ 121 → ∀ r : Bool × x_St × x_Tk, ∀ μ63 : x_Mem, (RW S n μ63) → (RK r.2.2 μ63) → (μ63 41 16 = x_b (!r.1)) → (r.1 = true → MR r.2.1 μ63) → (WF r.2.1) → (TO S n r.2.2) → (tkC r.2.2 < 30) → (r.1 = true → i ≤ tkB r.2.2) → (tellF S n 121 0 (gA g) (tokAt S n 0) = tellR S n (121 - i) i r) → (MW (gA g) μ63) → (MX g μ63) → (MD (gF g) μ63) → (∀ id, id < 41 → μ63 id = μ id) → x_G l E m_X4_text (x_mv E m_X4_text (x_I (fun z m => z = (F_text g).1 ∧ MS (F_text g).2 m ∧ ∀ id, id < 41 → m id = μ id))) μ63 24 [(1, .int (nI i)), (0, .ref (E.1 + 41))] [] := by
    refine x_down _ 121 (fun i hi62 ih61 => ?_)
    intro r μ63 hRWl hKl hBl hRl hIl hOl hcl hil htl hW1 hX1 hD1 hF1
    refine x_aload_n 1 d_X4_text_24 rfl rfl ?_
    have hc42 : ∀ id, id = 42 → μ63 id = μ63 id := fun _ _ => rfl
    refine x_bipush (x := 21) d_X4_text_25 (by decide) ?_
    refine x_cvi (k := 41) (as := [.int 21]) (c_X4_takes l E μ63 hn hRWl hKl hOl hcl hBl (w := 21) (by omega)) v_X4_takes w_X4_takes q1054 o_M rfl ⟨Nat.le_of_ble_eq_true rfl, Nat.le_of_ble_eq_true rfl⟩ rfl (Nat.le_of_ble_eq_true rfl) d_X4_text_27 ?_
    rintro _ μ64 ⟨rfl, hK65, hm66, hF67⟩
    obtain ⟨bb, hT68⟩ : ∃ bb, takB (!r.1) r.2.2 21 = bb := ⟨_, rfl⟩
    cases bb
    · refine x_eqst (st' := [.int 0]) (by rw [hT68]; rfl) ?_
      rw [hT68, if_neg Bool.false_ne_true] at hK65
      have hW69 : RW S n μ64 := RW.of hRWl (hm66 11 (by omega)) (hF67 51 (by omega))
      have hX70 := MX.of hX1 (fun j hj => hm66 j (by omega)) (fun id hid => hF67 id (by omega))
      have hf1675 : μ64 41 16 = x_b (!r.1) := (hm66 16 (Or.inr rfl)).trans hBl
      have hD77 := MD.cg hD1 (μ' := μ64) (fun id hid => (hF67 _ (by omega)))
      have hF78 : ∀ id, id < 41 → μ64 id = μ id := fun id hid => (show μ64 id = μ63 id from (hF67 _ (by omega))).trans (hF1 id hid)
      have hWAS79 := MW.cg hW1 (μ' := μ64) (fun id hid => (hF67 _ (by omega)))
      have hC4280 : ∀ id, id = 42 → μ64 id = μ63 id := fun id hid => (show μ64 id = μ63 id from (hF67 _ (by omega))).trans (hc42 id hid)
      refine x_if_eq 43 d_X4_text_30 (by decide) (fun c81 => ?_) (fun c81 => ?_)
      rotate_left
      · exact absurd c81 (by decide)
      refine x_aload_n 1 d_X4_text_43 rfl rfl ?_
      refine x_aload_n 1 d_X4_text_44 rfl rfl ?_
      refine x_getiV (j := 16) (z := (x_b (!r.1))) x_c4 rfl (Nat.le_of_ble_eq_true rfl) q684 rfl hf1675 d_X4_text_45 ?_
      refine x_ifb_ne 60 d_X4_text_48 (by decide) (fun c82 => ?_) (fun c82 => ?_)
      · skip
        refine x_iconst (x := 1) d_X4_text_60 (by decide) ?_
        refine x_goto 65 d_X4_text_61 (by decide) ?_
        refine x_putzG (j := 16) (q := true) x_c4 rfl (Nat.le_of_ble_eq_true rfl) q684 rfl rfl rfl d_X4_text_65 (fun μ83 eμ83 => ?_)
        have hX84 := MX.cw hX70 eμ83 (by decide)
        have hW88 := RW.cw hW69 eμ83 (by decide)
        have hK91 := RK.cw hK65 eμ83 (by decide)
        have hf16_92 : μ83 41 16 = (x_b true) := by rw [eμ83, upd2_at, upd_s]
        have hD93 := MD.cg hD77 (μ' := μ83) (fun id hid => (by rw [eμ83, upd2_ne _ _ _ (by omega)]))
        have hF94 : ∀ id, id < 41 → μ83 id = μ id := fun id hid => (show μ83 id = μ64 id from (by rw [eμ83, upd2_ne _ _ _ (by omega)])).trans (hF78 id hid)
        have hWAS95 := MW.cg hWAS79 (μ' := μ83) (fun id hid => (by rw [eμ83, upd2_ne _ _ _ (by omega)]))
        have hC4296 : ∀ id, id = 42 → μ83 id = μ63 id := fun id hid => (show μ83 id = μ64 id from (by rw [eμ83, upd2_ne _ _ _ (by omega)])).trans (hC4280 id hid)
        refine x_aload_n 1 d_X4_text_68 rfl rfl ?_
        refine x_iconst (x := 0) d_X4_text_69 (by decide) ?_
        refine x_putiG (j := 11) x_c4 rfl (Nat.le_of_ble_eq_true rfl) q679 rfl rfl rfl d_X4_text_70 (fun μ97 eμ97 => ?_)
        have hX98 : MX (sT g 0 (gB g)) μ97 := MX.tape hX84 (by rw [eμ97, upd2_at, upd_n _ _ (by decide)]) (by rw [eμ97, upd2_at, upd_s]; rfl) (fun _ hj => absurd hj (Nat.not_lt_zero _)) (fun id hid => by rw [eμ97, upd2_ne _ _ _ (by omega)])
        have hK104 := RK.cw hK91 eμ97 (by decide)
        have hf16105 : μ97 41 16 = (x_b true) := by rw [eμ97, upd2_at, upd_n _ _ (by decide)]; exact hf16_92
        have hf11_106 : μ97 41 11 = 0 := by rw [eμ97, upd2_at, upd_s]
        have hD107 := MD.cg hD93 (μ' := μ97) (fun id hid => (by rw [eμ97, upd2_ne _ _ _ (by omega)]))
        have hF108 : ∀ id, id < 41 → μ97 id = μ id := fun id hid => (show μ97 id = μ83 id from (by rw [eμ97, upd2_ne _ _ _ (by omega)])).trans (hF94 id hid)
        have hWAS109 := MW.cg hWAS95 (μ' := μ97) (fun id hid => (by rw [eμ97, upd2_ne _ _ _ (by omega)]))
        have hC42110 : ∀ id, id = 42 → μ97 id = μ63 id := fun id hid => (show μ97 id = μ83 id from (by rw [eμ97, upd2_ne _ _ _ (by omega)])).trans (hC4296 id hid)
        refine x_aload_n 1 d_X4_text_73 rfl rfl ?_
        refine x_getiV (j := 16) (z := (x_b true)) x_c4 rfl (Nat.le_of_ble_eq_true rfl) q684 rfl hf16105 d_X4_text_74 ?_
        refine x_ifb_ne 82 d_X4_text_77 (by decide) (fun c111 => ?_) (fun c111 => ?_)
        · skip
          refine x_aload_n 1 d_X4_text_82 rfl rfl ?_
          refine x_cvv (k := 41) (as := []) (c_X4_putsBack l E μ97 hWAS109) v_X4_putsBack w_X4_putsBack q870 o_M rfl ⟨Nat.le_of_ble_eq_true rfl, Nat.le_of_ble_eq_true rfl⟩ rfl (Nat.le_of_ble_eq_true rfl) d_X4_text_83 ?_
          rintro μ112 ⟨hR113, hF114⟩
          have hD115 := MD.cg hD107 (μ' := μ112) (fun id hid => (hF114 _ (by omega)))
          have hF116 : ∀ id, id < 41 → μ112 id = μ id := fun id hid => (show μ112 id = μ97 id from (hF114 _ (by omega))).trans (hF108 id hid)
          have hW117 := MW.cg hWAS109 (μ' := μ112) (fun id hid => (hF114 _ (by omega)))
          have hK118 := RK.cg hK104 (μ' := μ112) (fun id hid => (hF114 _ (by omega)))
          have hf16119 := FLD.cg hf16105 (μ' := μ112) (fun id hid => (hF114 _ (by omega)))
          have hf11120 := FLD.cg hf11_106 (μ' := μ112) (fun id hid => (hF114 _ (by omega)))
          have hX121 := MX.cg hX98 (μ' := μ112) (fun id hid => (hF114 _ (by omega)))
          refine x_iconst (x := (-1)) d_X4_text_86 (by decide) ?_
          refine x_aload_n 1 d_X4_text_87 rfl rfl ?_
          refine x_getiV (j := 13) (z := nI (tkB r.2.2)) x_c4 rfl (Nat.le_of_ble_eq_true rfl) q681 rfl (hK118.1) d_X4_text_88 ?_
          refine x_isub d_X4_text_91 ?_
          refine x_iret rfl d_X4_text_92 ?_
          have hb9 : tkB r.2.2 ≤ 120 := by have q2 := hOl.1; have q3 := hOl.2.1; omega
          rw [text_no hS9 hn9 hb9 htl (Or.inl (not_f c82))]
          exact ⟨rfl, ⟨hR113, hX121, hD115⟩, hF116⟩
        · skip
          exact absurd ((rfl : true = true).symm.trans c111) (by decide)
      · skip
        refine x_aload_n 1 d_X4_text_51 rfl rfl ?_
        refine x_getiV (j := 12) (z := nI (rT (tkC r.2.2))) x_c4 rfl (Nat.le_of_ble_eq_true rfl) q680 rfl (hK65.2.2.1) d_X4_text_52 ?_
        refine x_bipush (x := 22) d_X4_text_55 (by decide) ?_
        refine x_icmp_eq 64 d_X4_text_57 (by decide) (fun c122 => ?_) (fun c122 => ?_)
        · skip
          refine x_iconst (x := 0) d_X4_text_64 (by decide) ?_
          refine x_putzG (j := 16) (q := false) x_c4 rfl (Nat.le_of_ble_eq_true rfl) q684 rfl rfl rfl d_X4_text_65 (fun μ123 eμ123 => ?_)
          have hX124 := MX.cw hX70 eμ123 (by decide)
          have hW128 := RW.cw hW69 eμ123 (by decide)
          have hK131 := RK.cw hK65 eμ123 (by decide)
          have hf16_132 : μ123 41 16 = (x_b false) := by rw [eμ123, upd2_at, upd_s]
          have hD133 := MD.cg hD77 (μ' := μ123) (fun id hid => (by rw [eμ123, upd2_ne _ _ _ (by omega)]))
          have hF134 : ∀ id, id < 41 → μ123 id = μ id := fun id hid => (show μ123 id = μ64 id from (by rw [eμ123, upd2_ne _ _ _ (by omega)])).trans (hF78 id hid)
          have hWAS135 := MW.cg hWAS79 (μ' := μ123) (fun id hid => (by rw [eμ123, upd2_ne _ _ _ (by omega)]))
          have hC42136 : ∀ id, id = 42 → μ123 id = μ63 id := fun id hid => (show μ123 id = μ64 id from (by rw [eμ123, upd2_ne _ _ _ (by omega)])).trans (hC4280 id hid)
          refine x_aload_n 1 d_X4_text_68 rfl rfl ?_
          refine x_iconst (x := 0) d_X4_text_69 (by decide) ?_
          refine x_putiG (j := 11) x_c4 rfl (Nat.le_of_ble_eq_true rfl) q679 rfl rfl rfl d_X4_text_70 (fun μ137 eμ137 => ?_)
          have hX138 : MX (sT g 0 (gB g)) μ137 := MX.tape hX124 (by rw [eμ137, upd2_at, upd_n _ _ (by decide)]) (by rw [eμ137, upd2_at, upd_s]; rfl) (fun _ hj => absurd hj (Nat.not_lt_zero _)) (fun id hid => by rw [eμ137, upd2_ne _ _ _ (by omega)])
          have hK144 := RK.cw hK131 eμ137 (by decide)
          have hf16145 : μ137 41 16 = (x_b false) := by rw [eμ137, upd2_at, upd_n _ _ (by decide)]; exact hf16_132
          have hf11_146 : μ137 41 11 = 0 := by rw [eμ137, upd2_at, upd_s]
          have hD147 := MD.cg hD133 (μ' := μ137) (fun id hid => (by rw [eμ137, upd2_ne _ _ _ (by omega)]))
          have hF148 : ∀ id, id < 41 → μ137 id = μ id := fun id hid => (show μ137 id = μ123 id from (by rw [eμ137, upd2_ne _ _ _ (by omega)])).trans (hF134 id hid)
          have hWAS149 := MW.cg hWAS135 (μ' := μ137) (fun id hid => (by rw [eμ137, upd2_ne _ _ _ (by omega)]))
          have hC42150 : ∀ id, id = 42 → μ137 id = μ63 id := fun id hid => (show μ137 id = μ123 id from (by rw [eμ137, upd2_ne _ _ _ (by omega)])).trans (hC42136 id hid)
          refine x_aload_n 1 d_X4_text_73 rfl rfl ?_
          refine x_getiV (j := 16) (z := (x_b false)) x_c4 rfl (Nat.le_of_ble_eq_true rfl) q684 rfl hf16145 d_X4_text_74 ?_
          refine x_ifb_ne 82 d_X4_text_77 (by decide) (fun c151 => ?_) (fun c151 => ?_)
          · skip
            exact absurd ((rfl : false = false).symm.trans c151) (by decide)
          · skip
            refine x_iload_n 0 d_X4_text_80 rfl rfl ?_
            refine x_iret rfl d_X4_text_81 ?_
            have hr1 : r.1 = true := not_t c82
            have h22 : tkC r.2.2 = 22 := (rT_eq (w := 22) (by omega) hcl).mp c122
            rw [text_ok hS9 hn9 hi62 htl hr1 h22]
            exact ⟨rfl, MS.line (g := sT g 0 (gB g)) ((hRl hr1).cg hC42150) hX138 hD147, hF148⟩
        · skip
          refine x_iconst (x := 1) d_X4_text_60 (by decide) ?_
          refine x_goto 65 d_X4_text_61 (by decide) ?_
          refine x_putzG (j := 16) (q := true) x_c4 rfl (Nat.le_of_ble_eq_true rfl) q684 rfl rfl rfl d_X4_text_65 (fun μ152 eμ152 => ?_)
          have hX153 := MX.cw hX70 eμ152 (by decide)
          have hW157 := RW.cw hW69 eμ152 (by decide)
          have hK160 := RK.cw hK65 eμ152 (by decide)
          have hf16_161 : μ152 41 16 = (x_b true) := by rw [eμ152, upd2_at, upd_s]
          have hD162 := MD.cg hD77 (μ' := μ152) (fun id hid => (by rw [eμ152, upd2_ne _ _ _ (by omega)]))
          have hF163 : ∀ id, id < 41 → μ152 id = μ id := fun id hid => (show μ152 id = μ64 id from (by rw [eμ152, upd2_ne _ _ _ (by omega)])).trans (hF78 id hid)
          have hWAS164 := MW.cg hWAS79 (μ' := μ152) (fun id hid => (by rw [eμ152, upd2_ne _ _ _ (by omega)]))
          have hC42165 : ∀ id, id = 42 → μ152 id = μ63 id := fun id hid => (show μ152 id = μ64 id from (by rw [eμ152, upd2_ne _ _ _ (by omega)])).trans (hC4280 id hid)
          refine x_aload_n 1 d_X4_text_68 rfl rfl ?_
          refine x_iconst (x := 0) d_X4_text_69 (by decide) ?_
          refine x_putiG (j := 11) x_c4 rfl (Nat.le_of_ble_eq_true rfl) q679 rfl rfl rfl d_X4_text_70 (fun μ166 eμ166 => ?_)
          have hX167 : MX (sT g 0 (gB g)) μ166 := MX.tape hX153 (by rw [eμ166, upd2_at, upd_n _ _ (by decide)]) (by rw [eμ166, upd2_at, upd_s]; rfl) (fun _ hj => absurd hj (Nat.not_lt_zero _)) (fun id hid => by rw [eμ166, upd2_ne _ _ _ (by omega)])
          have hK173 := RK.cw hK160 eμ166 (by decide)
          have hf16174 : μ166 41 16 = (x_b true) := by rw [eμ166, upd2_at, upd_n _ _ (by decide)]; exact hf16_161
          have hf11_175 : μ166 41 11 = 0 := by rw [eμ166, upd2_at, upd_s]
          have hD176 := MD.cg hD162 (μ' := μ166) (fun id hid => (by rw [eμ166, upd2_ne _ _ _ (by omega)]))
          have hF177 : ∀ id, id < 41 → μ166 id = μ id := fun id hid => (show μ166 id = μ152 id from (by rw [eμ166, upd2_ne _ _ _ (by omega)])).trans (hF163 id hid)
          have hWAS178 := MW.cg hWAS164 (μ' := μ166) (fun id hid => (by rw [eμ166, upd2_ne _ _ _ (by omega)]))
          have hC42179 : ∀ id, id = 42 → μ166 id = μ63 id := fun id hid => (show μ166 id = μ152 id from (by rw [eμ166, upd2_ne _ _ _ (by omega)])).trans (hC42165 id hid)
          refine x_aload_n 1 d_X4_text_73 rfl rfl ?_
          refine x_getiV (j := 16) (z := (x_b true)) x_c4 rfl (Nat.le_of_ble_eq_true rfl) q684 rfl hf16174 d_X4_text_74 ?_
          refine x_ifb_ne 82 d_X4_text_77 (by decide) (fun c180 => ?_) (fun c180 => ?_)
          · skip
            refine x_aload_n 1 d_X4_text_82 rfl rfl ?_
            refine x_cvv (k := 41) (as := []) (c_X4_putsBack l E μ166 hWAS178) v_X4_putsBack w_X4_putsBack q870 o_M rfl ⟨Nat.le_of_ble_eq_true rfl, Nat.le_of_ble_eq_true rfl⟩ rfl (Nat.le_of_ble_eq_true rfl) d_X4_text_83 ?_
            rintro μ181 ⟨hR182, hF183⟩
            have hD184 := MD.cg hD176 (μ' := μ181) (fun id hid => (hF183 _ (by omega)))
            have hF185 : ∀ id, id < 41 → μ181 id = μ id := fun id hid => (show μ181 id = μ166 id from (hF183 _ (by omega))).trans (hF177 id hid)
            have hW186 := MW.cg hWAS178 (μ' := μ181) (fun id hid => (hF183 _ (by omega)))
            have hK187 := RK.cg hK173 (μ' := μ181) (fun id hid => (hF183 _ (by omega)))
            have hf16188 := FLD.cg hf16174 (μ' := μ181) (fun id hid => (hF183 _ (by omega)))
            have hf11189 := FLD.cg hf11_175 (μ' := μ181) (fun id hid => (hF183 _ (by omega)))
            have hX190 := MX.cg hX167 (μ' := μ181) (fun id hid => (hF183 _ (by omega)))
            refine x_iconst (x := (-1)) d_X4_text_86 (by decide) ?_
            refine x_aload_n 1 d_X4_text_87 rfl rfl ?_
            refine x_getiV (j := 13) (z := nI (tkB r.2.2)) x_c4 rfl (Nat.le_of_ble_eq_true rfl) q681 rfl (hK187.1) d_X4_text_88 ?_
            refine x_isub d_X4_text_91 ?_
            refine x_iret rfl d_X4_text_92 ?_
            have hb9 : tkB r.2.2 ≤ 120 := by have q2 := hOl.1; have q3 := hOl.2.1; omega
            rw [text_no hS9 hn9 hb9 htl (Or.inr ⟨fun z => c122 ((rT_eq (w := 22) (by omega) hcl).mpr z), tak_N hT68 c82⟩)]
            exact ⟨rfl, ⟨hR182, hX190, hD184⟩, hF185⟩
          · skip
            exact absurd ((rfl : true = true).symm.trans c180) (by decide)
    · refine x_eqst (st' := [.int 1]) (by rw [hT68]; rfl) ?_
      rw [hT68, if_pos rfl] at hK65
      have hW191 : RW S n μ64 := RW.of hRWl (hm66 11 (by omega)) (hF67 51 (by omega))
      have hX192 := MX.of hX1 (fun j hj => hm66 j (by omega)) (fun id hid => hF67 id (by omega))
      have hf16197 : μ64 41 16 = x_b (!r.1) := (hm66 16 (Or.inr rfl)).trans hBl
      have hD199 := MD.cg hD1 (μ' := μ64) (fun id hid => (hF67 _ (by omega)))
      have hF200 : ∀ id, id < 41 → μ64 id = μ id := fun id hid => (show μ64 id = μ63 id from (hF67 _ (by omega))).trans (hF1 id hid)
      have hWAS201 := MW.cg hW1 (μ' := μ64) (fun id hid => (hF67 _ (by omega)))
      have hC42202 : ∀ id, id = 42 → μ64 id = μ63 id := fun id hid => (show μ64 id = μ63 id from (hF67 _ (by omega))).trans (hc42 id hid)
      refine x_if_eq 43 d_X4_text_30 (by decide) (fun c203 => ?_) (fun c203 => ?_)
      · exact absurd c203 (by decide)
      obtain ⟨hr0, hr2⟩ := tak_B hT68
      have hr1 : r.1 = true := not_t hr0
      have hN : i < 121 := by have q1 := hil hr1; have q2 := hOl.1; have q3 := hOl.2.1; omega
      have hb204 : μ64 41 16 = x_b false := by rw [← hr0]; exact hf16197
      have hR205 : MR r.2.1 μ64 := (hRl hr1).cg hC42202
      refine x_aload_n 1 d_X4_text_33 rfl rfl ?_
      refine x_cvv (k := 41) (as := []) (c_X4_item l E μ64 hn hW191 hK65 (tok_TO S (hOl.2.1)) (tok_c S n _) hb204 hR205 hIl) v_X4_item w_X4_item q1042 o_M rfl ⟨Nat.le_of_ble_eq_true rfl, Nat.le_of_ble_eq_true rfl⟩ rfl (Nat.le_of_ble_eq_true rfl) d_X4_text_34 ?_
      rintro μ206 ⟨hi207, hm208, hF209⟩
      have hW210 : RW S n μ206 := RW.of hW191 (hm208 11 (by omega)) (hF209 51 (by omega))
      have hX211 := MX.of hX192 hm208 (fun id hid => hF209 id (by omega))
      have hK212 := hi207.2.1
      have hb213 := hi207.1
      have hD214 := MD.cg hD199 (μ' := μ206) (fun id hid => (hF209 _ (by omega)))
      have hF215 : ∀ id, id < 41 → μ206 id = μ id := fun id hid => (show μ206 id = μ64 id from (hF209 _ (by omega))).trans (hF200 id hid)
      have hWAS216 := MW.cg hWAS201 (μ' := μ206) (fun id hid => (hF209 _ (by omega)))
      refine x_iinc [(1, .int (nI (i + 1))), (0, .ref (E.1 + 41))] 0 d_X4_text_37 rfl (x_inc _) (Nat.le_of_ble_eq_true rfl) rfl ?_
      refine x_goto 24 d_X4_text_40 (by decide) ?_
      exact ih61 (i + 1) (by omega) (by omega) (itemF S n r.2.1 (tokAt S n (tkE r.2.2))) μ206 hW210 hK212 hb213 hi207.2.2 ((item_ok (S := S) (n := n) hIl (tok_TO S (hOl.2.1))).1) ((item_ok (S := S) (n := n) hIl (tok_TO S (hOl.2.1))).2) (item_c (tok_c S n _)) (fun hh => item_1 (i := i) hOl.2.1 (Nat.le_trans (hil hr1) hOl.1) hh) (htl.trans (tell_21 hN hr1 hr2)) hWAS216 hX211 hD214 hF215
  exact L60 1 (by omega) (itemF S n (gA g) (tokAt S n 0)) μ49 hW53 hK55 hb56 hi50.2.2 ((item_ok (S := S) (n := n) hWF (tok_TO S (Nat.zero_le n))).1) ((item_ok (S := S) (n := n) hWF (tok_TO S (Nat.zero_le n))).2) (item_c (tok_c S n _)) (fun hh => item_1 (Nat.zero_le n) (Nat.zero_le 0) hh) (tell_R S n 120 0 _ _) hWAS59 hX54 hD57 hF58
