def m_X4_comes : x_M := (yX4_comes, prog_6_method_23_code, 5, (some FieldType.int), 1, 23)
theorem v_X4_comes : x_VM m_X4_comes 3 := ⟨q782, q6, by decide +kernel, by decide +kernel, by decide +kernel⟩
theorem w_X4_comes : x_VI m_X4_comes := ⟨q781, qs28⟩
theorem d_X4_comes_0 : x_dec m_X4_comes 0 (.aload_n 0) 1 1 := ⟨by decide +kernel, rfl⟩
theorem d_X4_comes_1 : x_dec m_X4_comes 1 (.getfield 9) 3 4 := ⟨by decide +kernel, rfl⟩
theorem d_X4_comes_4 : x_dec m_X4_comes 4 (.bipush 7) 2 6 := ⟨by decide +kernel, rfl⟩
theorem d_X4_comes_6 : x_dec m_X4_comes 6 (.iaload) 1 7 := ⟨by decide +kernel, rfl⟩
theorem d_X4_comes_7 : x_dec m_X4_comes 7 (.istore 4) 2 9 := ⟨by decide +kernel, rfl⟩
theorem d_X4_comes_9 : x_dec m_X4_comes 9 (.aload_n 0) 1 10 := ⟨by decide +kernel, rfl⟩
theorem d_X4_comes_10 : x_dec m_X4_comes 10 (.getfield 9) 3 13 := ⟨by decide +kernel, rfl⟩
theorem d_X4_comes_13 : x_dec m_X4_comes 13 (.bipush 7) 2 15 := ⟨by decide +kernel, rfl⟩
theorem d_X4_comes_15 : x_dec m_X4_comes 15 (.dup2) 1 16 := ⟨by decide +kernel, rfl⟩
theorem d_X4_comes_16 : x_dec m_X4_comes 16 (.iaload) 1 17 := ⟨by decide +kernel, rfl⟩
theorem d_X4_comes_17 : x_dec m_X4_comes 17 (.iconst 1) 1 18 := ⟨by decide +kernel, rfl⟩
theorem d_X4_comes_18 : x_dec m_X4_comes 18 (.iadd) 1 19 := ⟨by decide +kernel, rfl⟩
theorem d_X4_comes_19 : x_dec m_X4_comes 19 (.iastore) 1 20 := ⟨by decide +kernel, rfl⟩
theorem d_X4_comes_20 : x_dec m_X4_comes 20 (.aload_n 0) 1 21 := ⟨by decide +kernel, rfl⟩
theorem d_X4_comes_21 : x_dec m_X4_comes 21 (.iload 4) 2 23 := ⟨by decide +kernel, rfl⟩
theorem d_X4_comes_23 : x_dec m_X4_comes 23 (.iconst 0) 1 24 := ⟨by decide +kernel, rfl⟩
theorem d_X4_comes_24 : x_dec m_X4_comes 24 (.iload_n 1) 1 25 := ⟨by decide +kernel, rfl⟩
theorem d_X4_comes_25 : x_dec m_X4_comes 25 (.invokevirtual 84) 3 28 := ⟨by decide +kernel, rfl⟩
theorem d_X4_comes_28 : x_dec m_X4_comes 28 (.aload_n 0) 1 29 := ⟨by decide +kernel, rfl⟩
theorem d_X4_comes_29 : x_dec m_X4_comes 29 (.iload 4) 2 31 := ⟨by decide +kernel, rfl⟩
theorem d_X4_comes_31 : x_dec m_X4_comes 31 (.iconst 1) 1 32 := ⟨by decide +kernel, rfl⟩
theorem d_X4_comes_32 : x_dec m_X4_comes 32 (.iload_n 2) 1 33 := ⟨by decide +kernel, rfl⟩
theorem d_X4_comes_33 : x_dec m_X4_comes 33 (.invokevirtual 84) 3 36 := ⟨by decide +kernel, rfl⟩
theorem d_X4_comes_36 : x_dec m_X4_comes 36 (.aload_n 0) 1 37 := ⟨by decide +kernel, rfl⟩
theorem d_X4_comes_37 : x_dec m_X4_comes 37 (.iload 4) 2 39 := ⟨by decide +kernel, rfl⟩
theorem d_X4_comes_39 : x_dec m_X4_comes 39 (.iconst 2) 1 40 := ⟨by decide +kernel, rfl⟩
theorem d_X4_comes_40 : x_dec m_X4_comes 40 (.iload_n 3) 1 41 := ⟨by decide +kernel, rfl⟩
theorem d_X4_comes_41 : x_dec m_X4_comes 41 (.invokevirtual 84) 3 44 := ⟨by decide +kernel, rfl⟩
theorem d_X4_comes_44 : x_dec m_X4_comes 44 (.iload 4) 2 46 := ⟨by decide +kernel, rfl⟩
theorem d_X4_comes_46 : x_dec m_X4_comes 46 (.ireturn) 1 47 := ⟨by decide +kernel, rfl⟩
set_option maxHeartbeats 4000000 in
set_option maxRecDepth 100000 in
theorem c_X4_comes (l : Launch) (E : x_E) (μ : x_Mem) {a : x_St} (hR : MR a μ) (hI : WF a) (hlt : pn a < 8) (k w b : Int32) : x_Met l m_X4_comes E [.ref (E.1 + 41), .int k, .int w, .int b] μ (x_I (fun z m => z = nI (pn a) ∧ MR (comeF a k w b) m ∧ ∀ id, id ≠ 42 → m id = μ id)) := by
  have hn7 := hI.2.1
  have hpn := hI.1
  have hF : ∀ id, id ≠ 42 → μ id = μ id := fun _ _ => rfl
  refine x_enter (lv := [(0, .ref (E.1 + 41)), (1, .int k), (2, .int w), (3, .int b)]) (by decide +kernel) (Nat.le_of_ble_eq_true rfl) rfl ?_
  refine x_aload_n 0 d_X4_comes_0 rfl rfl ?_
  refine x_getr (j := 0) 42 x_c4 rfl (Nat.le_of_ble_eq_true rfl) q668 rfl d_X4_comes_1 ?_
  refine x_bipush (x := 7) d_X4_comes_4 (by decide) ?_
  refine x_ialdN (z := nI (pn a)) 58 7 rfl rfl (by omega) (by decide) ((hR 7 (by decide)).trans hn7) d_X4_comes_6 ?_
  refine x_istore [(4, .int (nI (pn a))), (0, .ref (E.1 + 41)), (1, .int k), (2, .int w), (3, .int b)] d_X4_comes_7 (Nat.le_of_ble_eq_true rfl) rfl ?_
  refine x_aload_n 1 d_X4_comes_9 rfl rfl ?_
  refine x_getr (j := 0) 42 x_c4 rfl (Nat.le_of_ble_eq_true rfl) q668 rfl d_X4_comes_10 ?_
  refine x_bipush (x := 7) d_X4_comes_13 (by decide) ?_
  refine x_dup2 d_X4_comes_15 rfl rfl ?_
  refine x_ialdN (z := nI (pn a)) 58 7 rfl rfl (by omega) (by decide) ((hR 7 (by decide)).trans hn7) d_X4_comes_16 ?_
  refine x_iconst (x := 1) d_X4_comes_17 (by decide) ?_
  refine x_iadd d_X4_comes_18 ?_
  rw [show (nI (pn a)) + (1 : Int32) = nI ((pn a) + 1) from nI_add (pn a) 1]
  refine x_iastNG 58 7 rfl rfl (by omega) (by decide) d_X4_comes_19 (fun μ1 eμ1 => ?_)
  have hR2 : MR (upd a (7) (nI ((pn a) + 1))) μ1 := MR.w hR eμ1
  have hF3 : ∀ id, id ≠ 42 → μ1 id = μ id := fun id hid => (show μ1 id = μ id from (by rw [eμ1, upd2_ne _ _ _ (by omega)])).trans (hF id hid)
  refine x_aload_n 1 d_X4_comes_20 rfl rfl ?_
  refine x_iload 0 d_X4_comes_21 rfl ?_
  refine x_iconst (x := 0) d_X4_comes_23 (by decide) ?_
  refine x_iload_n 2 d_X4_comes_24 rfl rfl ?_
  refine x_cvv (k := 41) (as := [.int (nI (pn a)), .int 0, .int k]) (c_X4_put l E μ1 (p := (pn a)) (w := 0) (j := 24 + 3 * (pn a)) rfl (by omega) k) v_X4_put w_X4_put q783 o_M rfl ⟨Nat.le_of_ble_eq_true rfl, Nat.le_of_ble_eq_true rfl⟩ rfl (Nat.le_of_ble_eq_true rfl) d_X4_comes_25 ?_
  intro μ4 eμ4
  have hR5 : MR (upd (upd a (7) (nI ((pn a) + 1))) (24 + 3 * (pn a)) k) μ4 := MR.w hR2 eμ4
  have hF6 : ∀ id, id ≠ 42 → μ4 id = μ id := fun id hid => (show μ4 id = μ1 id from (by rw [eμ4, upd2_ne _ _ _ (by omega)])).trans (hF3 id hid)
  refine x_aload_n 1 d_X4_comes_28 rfl rfl ?_
  refine x_iload 0 d_X4_comes_29 rfl ?_
  refine x_iconst (x := 1) d_X4_comes_31 (by decide) ?_
  refine x_iload_n 3 d_X4_comes_32 rfl rfl ?_
  refine x_cvv (k := 41) (as := [.int (nI (pn a)), .int 1, .int w]) (c_X4_put l E μ4 (p := (pn a)) (w := 1) (j := 24 + 3 * (pn a) + 1) rfl (by omega) w) v_X4_put w_X4_put q783 o_M rfl ⟨Nat.le_of_ble_eq_true rfl, Nat.le_of_ble_eq_true rfl⟩ rfl (Nat.le_of_ble_eq_true rfl) d_X4_comes_33 ?_
  intro μ7 eμ7
  have hR8 : MR (upd (upd (upd a (7) (nI ((pn a) + 1))) (24 + 3 * (pn a)) k) (24 + 3 * (pn a) + 1) w) μ7 := MR.w hR5 eμ7
  have hF9 : ∀ id, id ≠ 42 → μ7 id = μ id := fun id hid => (show μ7 id = μ4 id from (by rw [eμ7, upd2_ne _ _ _ (by omega)])).trans (hF6 id hid)
  refine x_aload_n 1 d_X4_comes_36 rfl rfl ?_
  refine x_iload 0 d_X4_comes_37 rfl ?_
  refine x_iconst (x := 2) d_X4_comes_39 (by decide) ?_
  refine x_iload_n 4 d_X4_comes_40 rfl rfl ?_
  refine x_cvv (k := 41) (as := [.int (nI (pn a)), .int 2, .int b]) (c_X4_put l E μ7 (p := (pn a)) (w := 2) (j := 24 + 3 * (pn a) + 2) rfl (by omega) b) v_X4_put w_X4_put q783 o_M rfl ⟨Nat.le_of_ble_eq_true rfl, Nat.le_of_ble_eq_true rfl⟩ rfl (Nat.le_of_ble_eq_true rfl) d_X4_comes_41 ?_
  intro μ10 eμ10
  have hR11 : MR (upd (upd (upd (upd a (7) (nI ((pn a) + 1))) (24 + 3 * (pn a)) k) (24 + 3 * (pn a) + 1) w) (24 + 3 * (pn a) + 2) b) μ10 := MR.w hR8 eμ10
  have hF12 : ∀ id, id ≠ 42 → μ10 id = μ id := fun id hid => (show μ10 id = μ7 id from (by rw [eμ10, upd2_ne _ _ _ (by omega)])).trans (hF9 id hid)
  refine x_iload 0 d_X4_comes_44 rfl ?_
  refine x_iret rfl d_X4_comes_46 ?_
  exact ⟨rfl, MR.eq hR11 (fun j hj => come_eq hn7 j), hF12⟩
def m_X4_meanWith : x_M := (yX4_meanWith, prog_6_method_31_code, 6, (some FieldType.int), 1, 22)
theorem v_X4_meanWith : x_VM m_X4_meanWith 1 := ⟨q838, q6, by decide +kernel, by decide +kernel, by decide +kernel⟩
theorem w_X4_meanWith : x_VI m_X4_meanWith := ⟨q837, qs35⟩
theorem d_X4_meanWith_0 : x_dec m_X4_meanWith 0 (.iconst 0) 1 1 := ⟨by decide +kernel, rfl⟩
theorem d_X4_meanWith_1 : x_dec m_X4_meanWith 1 (.istore_n 2) 1 2 := ⟨by decide +kernel, rfl⟩
theorem d_X4_meanWith_2 : x_dec m_X4_meanWith 2 (.iconst 0) 1 3 := ⟨by decide +kernel, rfl⟩
theorem d_X4_meanWith_3 : x_dec m_X4_meanWith 3 (.istore_n 3) 1 4 := ⟨by decide +kernel, rfl⟩
theorem d_X4_meanWith_4 : x_dec m_X4_meanWith 4 (.iconst 0) 1 5 := ⟨by decide +kernel, rfl⟩
theorem d_X4_meanWith_5 : x_dec m_X4_meanWith 5 (.istore 4) 2 7 := ⟨by decide +kernel, rfl⟩
theorem d_X4_meanWith_7 : x_dec m_X4_meanWith 7 (.iload 4) 2 9 := ⟨by decide +kernel, rfl⟩
theorem d_X4_meanWith_9 : x_dec m_X4_meanWith 9 (.aload_n 0) 1 10 := ⟨by decide +kernel, rfl⟩
theorem d_X4_meanWith_10 : x_dec m_X4_meanWith 10 (.getfield 9) 3 13 := ⟨by decide +kernel, rfl⟩
theorem d_X4_meanWith_13 : x_dec m_X4_meanWith 13 (.bipush 7) 2 15 := ⟨by decide +kernel, rfl⟩
theorem d_X4_meanWith_15 : x_dec m_X4_meanWith 15 (.iaload) 1 16 := ⟨by decide +kernel, rfl⟩
theorem d_X4_meanWith_16 : x_dec m_X4_meanWith 16 (.if_icmp .ge 64) 3 19 := ⟨by decide +kernel, rfl⟩
theorem d_X4_meanWith_19 : x_dec m_X4_meanWith 19 (.aload_n 0) 1 20 := ⟨by decide +kernel, rfl⟩
theorem d_X4_meanWith_20 : x_dec m_X4_meanWith 20 (.iload 4) 2 22 := ⟨by decide +kernel, rfl⟩
theorem d_X4_meanWith_22 : x_dec m_X4_meanWith 22 (.iconst 1) 1 23 := ⟨by decide +kernel, rfl⟩
theorem d_X4_meanWith_23 : x_dec m_X4_meanWith 23 (.invokevirtual 50) 3 26 := ⟨by decide +kernel, rfl⟩
theorem d_X4_meanWith_26 : x_dec m_X4_meanWith 26 (.aload_n 0) 1 27 := ⟨by decide +kernel, rfl⟩
theorem d_X4_meanWith_27 : x_dec m_X4_meanWith 27 (.iload_n 1) 1 28 := ⟨by decide +kernel, rfl⟩
theorem d_X4_meanWith_28 : x_dec m_X4_meanWith 28 (.iconst 1) 1 29 := ⟨by decide +kernel, rfl⟩
theorem d_X4_meanWith_29 : x_dec m_X4_meanWith 29 (.invokevirtual 50) 3 32 := ⟨by decide +kernel, rfl⟩
theorem d_X4_meanWith_32 : x_dec m_X4_meanWith 32 (.if_icmp .ne 7) 3 35 := ⟨by decide +kernel, rfl⟩
theorem d_X4_meanWith_35 : x_dec m_X4_meanWith 35 (.iconst 1) 1 36 := ⟨by decide +kernel, rfl⟩
theorem d_X4_meanWith_36 : x_dec m_X4_meanWith 36 (.goto 4) 3 39 := ⟨by decide +kernel, rfl⟩
theorem d_X4_meanWith_39 : x_dec m_X4_meanWith 39 (.iconst 0) 1 40 := ⟨by decide +kernel, rfl⟩
theorem d_X4_meanWith_40 : x_dec m_X4_meanWith 40 (.istore 5) 2 42 := ⟨by decide +kernel, rfl⟩
theorem d_X4_meanWith_42 : x_dec m_X4_meanWith 42 (.iload_n 2) 1 43 := ⟨by decide +kernel, rfl⟩
theorem d_X4_meanWith_43 : x_dec m_X4_meanWith 43 (.iload 5) 2 45 := ⟨by decide +kernel, rfl⟩
theorem d_X4_meanWith_45 : x_dec m_X4_meanWith 45 (.ifCond .eq 13) 3 48 := ⟨by decide +kernel, rfl⟩
theorem d_X4_meanWith_48 : x_dec m_X4_meanWith 48 (.aload_n 0) 1 49 := ⟨by decide +kernel, rfl⟩
theorem d_X4_meanWith_49 : x_dec m_X4_meanWith 49 (.iload 4) 2 51 := ⟨by decide +kernel, rfl⟩
theorem d_X4_meanWith_51 : x_dec m_X4_meanWith 51 (.iconst 2) 1 52 := ⟨by decide +kernel, rfl⟩
theorem d_X4_meanWith_52 : x_dec m_X4_meanWith 52 (.invokevirtual 50) 3 55 := ⟨by decide +kernel, rfl⟩
theorem d_X4_meanWith_55 : x_dec m_X4_meanWith 55 (.goto 4) 3 58 := ⟨by decide +kernel, rfl⟩
theorem d_X4_meanWith_58 : x_dec m_X4_meanWith 58 (.iconst 0) 1 59 := ⟨by decide +kernel, rfl⟩
theorem d_X4_meanWith_59 : x_dec m_X4_meanWith 59 (.iadd) 1 60 := ⟨by decide +kernel, rfl⟩
theorem d_X4_meanWith_60 : x_dec m_X4_meanWith 60 (.istore_n 2) 1 61 := ⟨by decide +kernel, rfl⟩
theorem d_X4_meanWith_61 : x_dec m_X4_meanWith 61 (.iload_n 3) 1 62 := ⟨by decide +kernel, rfl⟩
theorem d_X4_meanWith_62 : x_dec m_X4_meanWith 62 (.iload 5) 2 64 := ⟨by decide +kernel, rfl⟩
theorem d_X4_meanWith_64 : x_dec m_X4_meanWith 64 (.ifCond .eq 7) 3 67 := ⟨by decide +kernel, rfl⟩
theorem d_X4_meanWith_67 : x_dec m_X4_meanWith 67 (.iconst 1) 1 68 := ⟨by decide +kernel, rfl⟩
theorem d_X4_meanWith_68 : x_dec m_X4_meanWith 68 (.goto 4) 3 71 := ⟨by decide +kernel, rfl⟩
theorem d_X4_meanWith_71 : x_dec m_X4_meanWith 71 (.iconst 0) 1 72 := ⟨by decide +kernel, rfl⟩
theorem d_X4_meanWith_72 : x_dec m_X4_meanWith 72 (.iadd) 1 73 := ⟨by decide +kernel, rfl⟩
theorem d_X4_meanWith_73 : x_dec m_X4_meanWith 73 (.istore_n 3) 1 74 := ⟨by decide +kernel, rfl⟩
theorem d_X4_meanWith_74 : x_dec m_X4_meanWith 74 (.iinc 4 1) 3 77 := ⟨by decide +kernel, rfl⟩
theorem d_X4_meanWith_77 : x_dec m_X4_meanWith 77 (.goto (-70)) 3 80 := ⟨by decide +kernel, rfl⟩
theorem d_X4_meanWith_80 : x_dec m_X4_meanWith 80 (.iload_n 2) 1 81 := ⟨by decide +kernel, rfl⟩
theorem d_X4_meanWith_81 : x_dec m_X4_meanWith 81 (.iload_n 3) 1 82 := ⟨by decide +kernel, rfl⟩
theorem d_X4_meanWith_82 : x_dec m_X4_meanWith 82 (.idiv) 1 83 := ⟨by decide +kernel, rfl⟩
theorem d_X4_meanWith_83 : x_dec m_X4_meanWith 83 (.ireturn) 1 84 := ⟨by decide +kernel, rfl⟩
set_option maxHeartbeats 4000000 in
set_option maxRecDepth 100000 in
theorem c_X4_meanWith (l : Launch) (E : x_E) (μ : x_Mem) {a : x_St} (hR : MR a μ) (hI : WF a) {p : Nat} (hp : p < pn a) : x_Met l m_X4_meanWith E [.ref (E.1 + 41), .int (nI p)] μ (x_I (fun z m => z = meanF a p ∧ m = μ)) := by
  have hn7 := hI.2.1
  have hpn := hI.1
  refine x_enter (lv := [(0, .ref (E.1 + 41)), (1, .int (nI p))]) (by decide +kernel) (Nat.le_of_ble_eq_true rfl) rfl ?_
  refine x_iconst (x := 0) d_X4_meanWith_0 (by decide) ?_
  refine x_istore_n [(2, .int 0), (0, .ref (E.1 + 41)), (1, .int (nI p))] d_X4_meanWith_1 rfl (Nat.le_of_ble_eq_true rfl) rfl ?_
  refine x_iconst (x := 0) d_X4_meanWith_2 (by decide) ?_
  refine x_istore_n [(3, .int 0), (2, .int 0), (0, .ref (E.1 + 41)), (1, .int (nI p))] d_X4_meanWith_3 rfl (Nat.le_of_ble_eq_true rfl) rfl ?_
  refine x_iconst (x := 0) d_X4_meanWith_4 (by decide) ?_
  refine x_istore [(4, .int 0), (3, .int 0), (2, .int 0), (0, .ref (E.1 + 41)), (1, .int (nI p))] d_X4_meanWith_5 (Nat.le_of_ble_eq_true rfl) rfl ?_
  have L1 : ∀ i : Nat, i ≤ pn a → ∀ q : Int32, ∀ r : Int32, (q = sumTo (fun o => if withB a p o = true then a (24 + 3 * o + 2) else 0) i) → (r = cntTo 0 (withB a p) i) → x_G l E m_X4_meanWith (x_mv E m_X4_meanWith (x_I (fun z m => z = meanF a p ∧ m = μ))) μ 7 [(4, .int (nI i)), (3, .int r), (2, .int q), (0, .ref (E.1 + 41)), (1, .int (nI p))] [] := by
    refine x_down _ (pn a) (fun i hi3 ih2 => ?_)
    intro q r hq hr
    refine x_iload 0 d_X4_meanWith_7 rfl ?_
    refine x_aload_n 3 d_X4_meanWith_9 rfl rfl ?_
    refine x_getr (j := 0) 42 x_c4 rfl (Nat.le_of_ble_eq_true rfl) q668 rfl d_X4_meanWith_10 ?_
    refine x_bipush (x := 7) d_X4_meanWith_13 (by decide) ?_
    refine x_ialdN (z := nI (pn a)) 58 7 rfl rfl (by omega) (by decide) ((hR 7 (by decide)).trans hn7) d_X4_meanWith_15 ?_
    refine x_icmp_ge 80 d_X4_meanWith_16 (by decide) (fun c4 => ?_) (fun c4 => ?_)
    · skip
      have hN := x_ge (N := pn a) c4 rfl rfl (by omega) (by omega)
      refine x_iload_n 2 d_X4_meanWith_80 rfl rfl ?_
      refine x_iload_n 1 d_X4_meanWith_81 rfl rfl ?_
      refine x_idiv d_X4_meanWith_82 (num_ne hI hp hr (by omega)) ?_
      refine x_iret rfl d_X4_meanWith_83 ?_
      have e7 : i = pn a := by omega
      subst e7
      subst hq hr
      exact ⟨rfl, rfl⟩
    · skip
      have hN := x_lt (N := pn a) c4 rfl rfl (by omega) (by omega)
      refine x_aload_n 3 d_X4_meanWith_19 rfl rfl ?_
      refine x_iload 0 d_X4_meanWith_20 rfl ?_
      refine x_iconst (x := 1) d_X4_meanWith_22 (by decide) ?_
      refine x_cvip (k := 41) (as := [.int (nI i), .int 1]) (c_X4_told l E μ hR (p := i) (w := 1) (j := 24 + 3 * i + 1) rfl (by omega)) v_X4_told w_X4_told q755 o_M rfl ⟨Nat.le_of_ble_eq_true rfl, Nat.le_of_ble_eq_true rfl⟩ rfl (Nat.le_of_ble_eq_true rfl) d_X4_meanWith_23 ?_
      refine x_aload_n 3 d_X4_meanWith_26 rfl rfl ?_
      refine x_iload_n 4 d_X4_meanWith_27 rfl rfl ?_
      refine x_iconst (x := 1) d_X4_meanWith_28 (by decide) ?_
      refine x_cvip (k := 41) (as := [.int (nI p), .int 1]) (c_X4_told l E μ hR (p := p) (w := 1) (j := 24 + 3 * p + 1) rfl (by omega)) v_X4_told w_X4_told q755 o_M rfl ⟨Nat.le_of_ble_eq_true rfl, Nat.le_of_ble_eq_true rfl⟩ rfl (Nat.le_of_ble_eq_true rfl) d_X4_meanWith_29 ?_
      refine x_icmp_ne 39 d_X4_meanWith_32 (by decide) (fun c5 => ?_) (fun c5 => ?_)
      · skip
        refine x_iconst (x := 0) d_X4_meanWith_39 (by decide) ?_
        refine x_istore [(5, .int 0), (4, .int (nI i)), (3, .int r), (2, .int q), (0, .ref (E.1 + 41)), (1, .int (nI p))] d_X4_meanWith_40 (Nat.le_of_ble_eq_true rfl) rfl ?_
        refine x_iload_n 3 d_X4_meanWith_42 rfl rfl ?_
        refine x_iload 0 d_X4_meanWith_43 rfl ?_
        refine x_if_eq 58 d_X4_meanWith_45 (by decide) (fun c6 => ?_) (fun c6 => ?_)
        rotate_left
        · exact absurd c6 (by decide)
        refine x_iconst (x := 0) d_X4_meanWith_58 (by decide) ?_
        refine x_iadd d_X4_meanWith_59 ?_
        refine x_istore_n [(2, .int (q + 0)), (5, .int 0), (4, .int (nI i)), (3, .int r), (0, .ref (E.1 + 41)), (1, .int (nI p))] d_X4_meanWith_60 rfl (Nat.le_of_ble_eq_true rfl) rfl ?_
        refine x_iload_n 3 d_X4_meanWith_61 rfl rfl ?_
        refine x_iload 1 d_X4_meanWith_62 rfl ?_
        refine x_if_eq 71 d_X4_meanWith_64 (by decide) (fun c7 => ?_) (fun c7 => ?_)
        rotate_left
        · exact absurd c7 (by decide)
        refine x_iconst (x := 0) d_X4_meanWith_71 (by decide) ?_
        refine x_iadd d_X4_meanWith_72 ?_
        refine x_istore_n [(3, .int (r + 0)), (2, .int (q + 0)), (5, .int 0), (4, .int (nI i)), (0, .ref (E.1 + 41)), (1, .int (nI p))] d_X4_meanWith_73 rfl (Nat.le_of_ble_eq_true rfl) rfl ?_
        refine x_iinc [(4, .int (nI (i + 1))), (3, .int (r + 0)), (2, .int (q + 0)), (5, .int 0), (0, .ref (E.1 + 41)), (1, .int (nI p))] 3 d_X4_meanWith_74 rfl (x_inc _) (Nat.le_of_ble_eq_true rfl) rfl ?_
        refine x_goto 7 d_X4_meanWith_77 (by decide) ?_
        refine x_lv [0, 1, 2, 4, 5] rfl ?_
        exact ih2 (i + 1) (by omega) (by omega) (q + 0) (r + 0) (by rw [hq, sumTo, if_neg (by unfold withB; rw [decide_eq_false c5]; decide)]) (by rw [hr, cntTo, if_neg (by unfold withB; rw [decide_eq_false c5]; decide), Int32.add_zero])
      · skip
        refine x_iconst (x := 1) d_X4_meanWith_35 (by decide) ?_
        refine x_goto 40 d_X4_meanWith_36 (by decide) ?_
        refine x_istore [(5, .int 1), (4, .int (nI i)), (3, .int r), (2, .int q), (0, .ref (E.1 + 41)), (1, .int (nI p))] d_X4_meanWith_40 (Nat.le_of_ble_eq_true rfl) rfl ?_
        refine x_iload_n 3 d_X4_meanWith_42 rfl rfl ?_
        refine x_iload 0 d_X4_meanWith_43 rfl ?_
        refine x_if_eq 58 d_X4_meanWith_45 (by decide) (fun c8 => ?_) (fun c8 => ?_)
        · exact absurd c8 (by decide)
        refine x_aload_n 4 d_X4_meanWith_48 rfl rfl ?_
        refine x_iload 1 d_X4_meanWith_49 rfl ?_
        refine x_iconst (x := 2) d_X4_meanWith_51 (by decide) ?_
        refine x_cvip (k := 41) (as := [.int (nI i), .int 2]) (c_X4_told l E μ hR (p := i) (w := 2) (j := 24 + 3 * i + 2) rfl (by omega)) v_X4_told w_X4_told q755 o_M rfl ⟨Nat.le_of_ble_eq_true rfl, Nat.le_of_ble_eq_true rfl⟩ rfl (Nat.le_of_ble_eq_true rfl) d_X4_meanWith_52 ?_
        refine x_goto 59 d_X4_meanWith_55 (by decide) ?_
        refine x_iadd d_X4_meanWith_59 ?_
        refine x_istore_n [(2, .int (q + (a (24 + 3 * i + 2)))), (5, .int 1), (4, .int (nI i)), (3, .int r), (0, .ref (E.1 + 41)), (1, .int (nI p))] d_X4_meanWith_60 rfl (Nat.le_of_ble_eq_true rfl) rfl ?_
        refine x_iload_n 3 d_X4_meanWith_61 rfl rfl ?_
        refine x_iload 1 d_X4_meanWith_62 rfl ?_
        refine x_if_eq 71 d_X4_meanWith_64 (by decide) (fun c9 => ?_) (fun c9 => ?_)
        · exact absurd c9 (by decide)
        refine x_iconst (x := 1) d_X4_meanWith_67 (by decide) ?_
        refine x_goto 72 d_X4_meanWith_68 (by decide) ?_
        refine x_iadd d_X4_meanWith_72 ?_
        refine x_istore_n [(3, .int (r + 1)), (2, .int (q + (a (24 + 3 * i + 2)))), (5, .int 1), (4, .int (nI i)), (0, .ref (E.1 + 41)), (1, .int (nI p))] d_X4_meanWith_73 rfl (Nat.le_of_ble_eq_true rfl) rfl ?_
        refine x_iinc [(4, .int (nI (i + 1))), (3, .int (r + 1)), (2, .int (q + (a (24 + 3 * i + 2)))), (5, .int 1), (0, .ref (E.1 + 41)), (1, .int (nI p))] 3 d_X4_meanWith_74 rfl (x_inc _) (Nat.le_of_ble_eq_true rfl) rfl ?_
        refine x_goto 7 d_X4_meanWith_77 (by decide) ?_
        refine x_lv [0, 1, 2, 4, 5] rfl ?_
        exact ih2 (i + 1) (by omega) (by omega) (q + (a (24 + 3 * i + 2))) (r + 1) (by rw [hq, sumTo, if_pos (show withB a p i = true from decide_eq_true c5)]) (by rw [hr, cntTo, if_pos (show withB a p i = true from decide_eq_true c5)])
  exact L1 0 (by omega) 0 0 (by rfl) (by rfl)
def m_X4_sways : x_M := (yX4_sways, prog_6_method_32_code, 4, none, 2, 47)
theorem v_X4_sways : x_VM m_X4_sways 0 := ⟨q834, q6, by decide +kernel, by decide +kernel, by decide +kernel⟩
theorem w_X4_sways : x_VI m_X4_sways := ⟨q833, qs34⟩
theorem d_X4_sways_0 : x_dec m_X4_sways 0 (.iconst 0) 1 1 := ⟨by decide +kernel, rfl⟩
theorem d_X4_sways_1 : x_dec m_X4_sways 1 (.istore_n 1) 1 2 := ⟨by decide +kernel, rfl⟩
theorem d_X4_sways_2 : x_dec m_X4_sways 2 (.iload_n 1) 1 3 := ⟨by decide +kernel, rfl⟩
theorem d_X4_sways_3 : x_dec m_X4_sways 3 (.aload_n 0) 1 4 := ⟨by decide +kernel, rfl⟩
theorem d_X4_sways_4 : x_dec m_X4_sways 4 (.getfield 9) 3 7 := ⟨by decide +kernel, rfl⟩
theorem d_X4_sways_7 : x_dec m_X4_sways 7 (.bipush 7) 2 9 := ⟨by decide +kernel, rfl⟩
theorem d_X4_sways_9 : x_dec m_X4_sways 9 (.iaload) 1 10 := ⟨by decide +kernel, rfl⟩
theorem d_X4_sways_10 : x_dec m_X4_sways 10 (.if_icmp .ge 51) 3 13 := ⟨by decide +kernel, rfl⟩
theorem d_X4_sways_13 : x_dec m_X4_sways 13 (.aload_n 0) 1 14 := ⟨by decide +kernel, rfl⟩
theorem d_X4_sways_14 : x_dec m_X4_sways 14 (.iload_n 1) 1 15 := ⟨by decide +kernel, rfl⟩
theorem d_X4_sways_15 : x_dec m_X4_sways 15 (.invokevirtual 100) 3 18 := ⟨by decide +kernel, rfl⟩
theorem d_X4_sways_18 : x_dec m_X4_sways 18 (.istore_n 2) 1 19 := ⟨by decide +kernel, rfl⟩
theorem d_X4_sways_19 : x_dec m_X4_sways 19 (.aload_n 0) 1 20 := ⟨by decide +kernel, rfl⟩
theorem d_X4_sways_20 : x_dec m_X4_sways 20 (.iload_n 1) 1 21 := ⟨by decide +kernel, rfl⟩
theorem d_X4_sways_21 : x_dec m_X4_sways 21 (.iconst 2) 1 22 := ⟨by decide +kernel, rfl⟩
theorem d_X4_sways_22 : x_dec m_X4_sways 22 (.invokevirtual 50) 3 25 := ⟨by decide +kernel, rfl⟩
theorem d_X4_sways_25 : x_dec m_X4_sways 25 (.istore_n 3) 1 26 := ⟨by decide +kernel, rfl⟩
theorem d_X4_sways_26 : x_dec m_X4_sways 26 (.aload_n 0) 1 27 := ⟨by decide +kernel, rfl⟩
theorem d_X4_sways_27 : x_dec m_X4_sways 27 (.getfield 22) 3 30 := ⟨by decide +kernel, rfl⟩
theorem d_X4_sways_30 : x_dec m_X4_sways 30 (.iload_n 1) 1 31 := ⟨by decide +kernel, rfl⟩
theorem d_X4_sways_31 : x_dec m_X4_sways 31 (.iload_n 3) 1 32 := ⟨by decide +kernel, rfl⟩
theorem d_X4_sways_32 : x_dec m_X4_sways 32 (.iload_n 2) 1 33 := ⟨by decide +kernel, rfl⟩
theorem d_X4_sways_33 : x_dec m_X4_sways 33 (.if_icmp .ge 9) 3 36 := ⟨by decide +kernel, rfl⟩
theorem d_X4_sways_36 : x_dec m_X4_sways 36 (.iload_n 3) 1 37 := ⟨by decide +kernel, rfl⟩
theorem d_X4_sways_37 : x_dec m_X4_sways 37 (.iconst 1) 1 38 := ⟨by decide +kernel, rfl⟩
theorem d_X4_sways_38 : x_dec m_X4_sways 38 (.iadd) 1 39 := ⟨by decide +kernel, rfl⟩
theorem d_X4_sways_39 : x_dec m_X4_sways 39 (.goto 15) 3 42 := ⟨by decide +kernel, rfl⟩
theorem d_X4_sways_42 : x_dec m_X4_sways 42 (.iload_n 3) 1 43 := ⟨by decide +kernel, rfl⟩
theorem d_X4_sways_43 : x_dec m_X4_sways 43 (.iload_n 2) 1 44 := ⟨by decide +kernel, rfl⟩
theorem d_X4_sways_44 : x_dec m_X4_sways 44 (.if_icmp .le 9) 3 47 := ⟨by decide +kernel, rfl⟩
theorem d_X4_sways_47 : x_dec m_X4_sways 47 (.iload_n 3) 1 48 := ⟨by decide +kernel, rfl⟩
theorem d_X4_sways_48 : x_dec m_X4_sways 48 (.iconst 1) 1 49 := ⟨by decide +kernel, rfl⟩
theorem d_X4_sways_49 : x_dec m_X4_sways 49 (.isub) 1 50 := ⟨by decide +kernel, rfl⟩
theorem d_X4_sways_50 : x_dec m_X4_sways 50 (.goto 4) 3 53 := ⟨by decide +kernel, rfl⟩
theorem d_X4_sways_53 : x_dec m_X4_sways 53 (.iload_n 3) 1 54 := ⟨by decide +kernel, rfl⟩
theorem d_X4_sways_54 : x_dec m_X4_sways 54 (.iastore) 1 55 := ⟨by decide +kernel, rfl⟩
theorem d_X4_sways_55 : x_dec m_X4_sways 55 (.iinc 1 1) 3 58 := ⟨by decide +kernel, rfl⟩
theorem d_X4_sways_58 : x_dec m_X4_sways 58 (.goto (-56)) 3 61 := ⟨by decide +kernel, rfl⟩
theorem d_X4_sways_61 : x_dec m_X4_sways 61 (.iconst 0) 1 62 := ⟨by decide +kernel, rfl⟩
theorem d_X4_sways_62 : x_dec m_X4_sways 62 (.istore_n 1) 1 63 := ⟨by decide +kernel, rfl⟩
theorem d_X4_sways_63 : x_dec m_X4_sways 63 (.iload_n 1) 1 64 := ⟨by decide +kernel, rfl⟩
theorem d_X4_sways_64 : x_dec m_X4_sways 64 (.aload_n 0) 1 65 := ⟨by decide +kernel, rfl⟩
theorem d_X4_sways_65 : x_dec m_X4_sways 65 (.getfield 9) 3 68 := ⟨by decide +kernel, rfl⟩
theorem d_X4_sways_68 : x_dec m_X4_sways 68 (.bipush 7) 2 70 := ⟨by decide +kernel, rfl⟩
theorem d_X4_sways_70 : x_dec m_X4_sways 70 (.iaload) 1 71 := ⟨by decide +kernel, rfl⟩
theorem d_X4_sways_71 : x_dec m_X4_sways 71 (.if_icmp .ge 21) 3 74 := ⟨by decide +kernel, rfl⟩
theorem d_X4_sways_74 : x_dec m_X4_sways 74 (.aload_n 0) 1 75 := ⟨by decide +kernel, rfl⟩
theorem d_X4_sways_75 : x_dec m_X4_sways 75 (.iload_n 1) 1 76 := ⟨by decide +kernel, rfl⟩
theorem d_X4_sways_76 : x_dec m_X4_sways 76 (.iconst 2) 1 77 := ⟨by decide +kernel, rfl⟩
theorem d_X4_sways_77 : x_dec m_X4_sways 77 (.aload_n 0) 1 78 := ⟨by decide +kernel, rfl⟩
theorem d_X4_sways_78 : x_dec m_X4_sways 78 (.getfield 22) 3 81 := ⟨by decide +kernel, rfl⟩
theorem d_X4_sways_81 : x_dec m_X4_sways 81 (.iload_n 1) 1 82 := ⟨by decide +kernel, rfl⟩
theorem d_X4_sways_82 : x_dec m_X4_sways 82 (.iaload) 1 83 := ⟨by decide +kernel, rfl⟩
theorem d_X4_sways_83 : x_dec m_X4_sways 83 (.invokevirtual 84) 3 86 := ⟨by decide +kernel, rfl⟩
theorem d_X4_sways_86 : x_dec m_X4_sways 86 (.iinc 1 1) 3 89 := ⟨by decide +kernel, rfl⟩
theorem d_X4_sways_89 : x_dec m_X4_sways 89 (.goto (-26)) 3 92 := ⟨by decide +kernel, rfl⟩
theorem d_X4_sways_92 : x_dec m_X4_sways 92 (.return_) 1 93 := ⟨by decide +kernel, rfl⟩
set_option maxHeartbeats 4000000 in
set_option maxRecDepth 100000 in
theorem c_X4_sways (l : Launch) (E : x_E) (μ : x_Mem) {a : x_St} (hR : MR a μ) (hI : WF a) : x_Met l m_X4_sways E [.ref (E.1 + 41)] μ (x_J (fun m => MR (swayF a) m ∧ ∀ id, (id ≠ 42 ∧ id ≠ 46) → m id = μ id)) := by
  have hn7 := hI.2.1
  have hpn := hI.1
  have hF : ∀ id, (id ≠ 42 ∧ id ≠ 46) → μ id = μ id := fun _ _ => rfl
  refine x_enter (lv := [(0, .ref (E.1 + 41))]) (by decide +kernel) (Nat.le_of_ble_eq_true rfl) rfl ?_
  refine x_iconst (x := 0) d_X4_sways_0 (by decide) ?_
  refine x_istore_n [(1, .int 0), (0, .ref (E.1 + 41))] d_X4_sways_1 rfl (Nat.le_of_ble_eq_true rfl) rfl ?_
  have L1 : ∀ i : Nat, i ≤ pn a → ∀ μ4 : x_Mem, (MR a μ4) → (∀ j, j < i → μ4 46 j = swayV a j) → (∀ id, (id ≠ 42 ∧ id ≠ 46) → μ4 id = μ id) → x_G l E m_X4_sways (x_mv E m_X4_sways (x_J (fun m => MR (swayF a) m ∧ ∀ id, (id ≠ 42 ∧ id ≠ 46) → m id = μ id))) μ4 2 [(1, .int (nI i)), (0, .ref (E.1 + 41))] [] := by
    refine x_down _ (pn a) (fun i hi3 ih2 => ?_)
    intro μ4 hR1 hT1 hF1
    refine x_iload_n 0 d_X4_sways_2 rfl rfl ?_
    refine x_aload_n 1 d_X4_sways_3 rfl rfl ?_
    refine x_getr (j := 0) 42 x_c4 rfl (Nat.le_of_ble_eq_true rfl) q668 rfl d_X4_sways_4 ?_
    refine x_bipush (x := 7) d_X4_sways_7 (by decide) ?_
    refine x_ialdN (z := nI (pn a)) 58 7 rfl rfl (by omega) (by decide) ((hR1 7 (by decide)).trans hn7) d_X4_sways_9 ?_
    refine x_icmp_ge 61 d_X4_sways_10 (by decide) (fun c5 => ?_) (fun c5 => ?_)
    · skip
      have hN := x_ge (N := pn a) c5 rfl rfl (by omega) (by omega)
      refine x_iconst (x := 0) d_X4_sways_61 (by decide) ?_
      refine x_istore_n [(1, .int 0), (0, .ref (E.1 + 41))] d_X4_sways_62 rfl (Nat.le_of_ble_eq_true rfl) rfl ?_
      have L6 : ∀ i : Nat, i ≤ pn a → ∀ μ9 : x_Mem, (MR (swayTo a i) μ9) → (∀ j, j < pn a → μ9 46 j = swayV a j) → (∀ id, (id ≠ 42 ∧ id ≠ 46) → μ9 id = μ id) → x_G l E m_X4_sways (x_mv E m_X4_sways (x_J (fun m => MR (swayF a) m ∧ ∀ id, (id ≠ 42 ∧ id ≠ 46) → m id = μ id))) μ9 63 [(1, .int (nI i)), (0, .ref (E.1 + 41))] [] := by
        refine x_down _ (pn a) (fun i hi8 ih7 => ?_)
        intro μ9 hR1 hT1 hF1
        refine x_iload_n 0 d_X4_sways_63 rfl rfl ?_
        refine x_aload_n 1 d_X4_sways_64 rfl rfl ?_
        refine x_getr (j := 0) 42 x_c4 rfl (Nat.le_of_ble_eq_true rfl) q668 rfl d_X4_sways_65 ?_
        refine x_bipush (x := 7) d_X4_sways_68 (by decide) ?_
        refine x_ialdN (z := nI (pn a)) 58 7 rfl rfl (by omega) (by decide) ((hR1 7 (by decide)).trans ((sway_7 a _).trans hn7)) d_X4_sways_70 ?_
        refine x_icmp_ge 92 d_X4_sways_71 (by decide) (fun c10 => ?_) (fun c10 => ?_)
        · skip
          have hN := x_ge (N := pn a) c10 rfl rfl (by omega) (by omega)
          refine x_vret rfl d_X4_sways_92 ?_
          have e7 : i = pn a := by omega
          subst e7
          exact ⟨hR1, hF1⟩
        · skip
          have hN := x_lt (N := pn a) c10 rfl rfl (by omega) (by omega)
          refine x_aload_n 1 d_X4_sways_74 rfl rfl ?_
          refine x_iload_n 0 d_X4_sways_75 rfl rfl ?_
          refine x_iconst (x := 2) d_X4_sways_76 (by decide) ?_
          refine x_aload_n 1 d_X4_sways_77 rfl rfl ?_
          refine x_getr (j := 5) 46 x_c4 rfl (Nat.le_of_ble_eq_true rfl) q673 rfl d_X4_sways_78 ?_
          refine x_iload_n 0 d_X4_sways_81 rfl rfl ?_
          refine x_ialdN (z := swayV a i) 8 i rfl rfl (by omega) (by decide) (hT1 i (by omega)) d_X4_sways_82 ?_
          refine x_cvv (k := 41) (as := [.int (nI i), .int 2, .int (swayV a i)]) (c_X4_put l E μ9 (p := i) (w := 2) (j := 24 + 3 * i + 2) rfl (by omega) (swayV a i)) v_X4_put w_X4_put q783 o_M rfl ⟨Nat.le_of_ble_eq_true rfl, Nat.le_of_ble_eq_true rfl⟩ rfl (Nat.le_of_ble_eq_true rfl) d_X4_sways_83 ?_
          intro μ11 eμ11
          have hR12 : MR (upd (swayTo a i) (24 + 3 * i + 2) (swayV a i)) μ11 := MR.w hR1 eμ11
          have hF13 : ∀ id, (id ≠ 42 ∧ id ≠ 46) → μ11 id = μ id := fun id hid => (show μ11 id = μ9 id from (by rw [eμ11, upd2_ne _ _ _ (by omega)])).trans (hF1 id hid)
          have hT14 := T46.cg hT1 (μ' := μ11) (fun id hid => (by rw [eμ11, upd2_ne _ _ _ (by omega)]))
          refine x_iinc [(1, .int (nI (i + 1))), (0, .ref (E.1 + 41))] 0 d_X4_sways_86 rfl (x_inc _) (Nat.le_of_ble_eq_true rfl) rfl ?_
          refine x_goto 63 d_X4_sways_89 (by decide) ?_
          exact ih7 (i + 1) (by omega) (by omega) μ11 hR12 hT14 hF13
      exact L6 0 (by omega) μ4 hR1 (fun j hj => hT1 j (by omega)) hF1
    · skip
      have hN := x_lt (N := pn a) c5 rfl rfl (by omega) (by omega)
      refine x_aload_n 1 d_X4_sways_13 rfl rfl ?_
      refine x_iload_n 0 d_X4_sways_14 rfl rfl ?_
      refine x_cvip (k := 41) (as := [.int (nI i)]) (c_X4_meanWith l E μ4 hR1 hI (p := i) (by omega)) v_X4_meanWith w_X4_meanWith q835 o_M rfl ⟨Nat.le_of_ble_eq_true rfl, Nat.le_of_ble_eq_true rfl⟩ rfl (Nat.le_of_ble_eq_true rfl) d_X4_sways_15 ?_
      refine x_istore_n [(2, .int (meanF a i)), (1, .int (nI i)), (0, .ref (E.1 + 41))] d_X4_sways_18 rfl (Nat.le_of_ble_eq_true rfl) rfl ?_
      refine x_aload_n 2 d_X4_sways_19 rfl rfl ?_
      refine x_iload_n 1 d_X4_sways_20 rfl rfl ?_
      refine x_iconst (x := 2) d_X4_sways_21 (by decide) ?_
      refine x_cvip (k := 41) (as := [.int (nI i), .int 2]) (c_X4_told l E μ4 hR1 (p := i) (w := 2) (j := 24 + 3 * i + 2) rfl (by omega)) v_X4_told w_X4_told q755 o_M rfl ⟨Nat.le_of_ble_eq_true rfl, Nat.le_of_ble_eq_true rfl⟩ rfl (Nat.le_of_ble_eq_true rfl) d_X4_sways_22 ?_
      refine x_istore_n [(3, .int (a (24 + 3 * i + 2))), (2, .int (meanF a i)), (1, .int (nI i)), (0, .ref (E.1 + 41))] d_X4_sways_25 rfl (Nat.le_of_ble_eq_true rfl) rfl ?_
      refine x_aload_n 3 d_X4_sways_26 rfl rfl ?_
      refine x_getr (j := 5) 46 x_c4 rfl (Nat.le_of_ble_eq_true rfl) q673 rfl d_X4_sways_27 ?_
      refine x_iload_n 2 d_X4_sways_30 rfl rfl ?_
      refine x_iload_n 0 d_X4_sways_31 rfl rfl ?_
      refine x_iload_n 1 d_X4_sways_32 rfl rfl ?_
      refine x_icmp_ge 42 d_X4_sways_33 (by decide) (fun c15 => ?_) (fun c15 => ?_)
      · skip
        refine x_iload_n 0 d_X4_sways_42 rfl rfl ?_
        refine x_iload_n 1 d_X4_sways_43 rfl rfl ?_
        refine x_icmp_le 53 d_X4_sways_44 (by decide) (fun c16 => ?_) (fun c16 => ?_)
        · skip
          refine x_iload_n 0 d_X4_sways_53 rfl rfl ?_
          refine x_iastNG 8 i rfl rfl (by omega) (by decide) d_X4_sways_54 (fun μ17 eμ17 => ?_)
          have hT9 : ∀ j, j < i + 1 → μ17 46 j = swayV a j := fun j hj => by rw [eμ17, upd2_at]; unfold upd; split; (rename_i q; rw [q]; exact (sv_3 c15 c16).symm); exact hT1 j (by omega)
          have hR18 := MR.cg hR1 (μ' := μ17) (fun id hid => (by rw [eμ17, upd2_ne _ _ _ (by omega)]))
          have hF19 : ∀ id, (id ≠ 42 ∧ id ≠ 46) → μ17 id = μ id := fun id hid => (show μ17 id = μ4 id from (by rw [eμ17, upd2_ne _ _ _ (by omega)])).trans (hF1 id hid)
          refine x_iinc [(1, .int (nI (i + 1))), (3, .int (a (24 + 3 * i + 2))), (2, .int (meanF a i)), (0, .ref (E.1 + 41))] 2 d_X4_sways_55 rfl (x_inc _) (Nat.le_of_ble_eq_true rfl) rfl ?_
          refine x_goto 2 d_X4_sways_58 (by decide) ?_
          refine x_lv [0, 3] rfl ?_
          exact ih2 (i + 1) (by omega) (by omega) μ17 hR18 hT9 hF19
        · skip
          refine x_iload_n 0 d_X4_sways_47 rfl rfl ?_
          refine x_iconst (x := 1) d_X4_sways_48 (by decide) ?_
          refine x_isub d_X4_sways_49 ?_
          refine x_goto 54 d_X4_sways_50 (by decide) ?_
          refine x_iastNG 8 i rfl rfl (by omega) (by decide) d_X4_sways_54 (fun μ20 eμ20 => ?_)
          have hT9 : ∀ j, j < i + 1 → μ20 46 j = swayV a j := fun j hj => by rw [eμ20, upd2_at]; unfold upd; split; (rename_i q; rw [q]; exact (sv_2 c15 c16).symm); exact hT1 j (by omega)
          have hR21 := MR.cg hR1 (μ' := μ20) (fun id hid => (by rw [eμ20, upd2_ne _ _ _ (by omega)]))
          have hF22 : ∀ id, (id ≠ 42 ∧ id ≠ 46) → μ20 id = μ id := fun id hid => (show μ20 id = μ4 id from (by rw [eμ20, upd2_ne _ _ _ (by omega)])).trans (hF1 id hid)
          refine x_iinc [(1, .int (nI (i + 1))), (3, .int (a (24 + 3 * i + 2))), (2, .int (meanF a i)), (0, .ref (E.1 + 41))] 2 d_X4_sways_55 rfl (x_inc _) (Nat.le_of_ble_eq_true rfl) rfl ?_
          refine x_goto 2 d_X4_sways_58 (by decide) ?_
          refine x_lv [0, 3] rfl ?_
          exact ih2 (i + 1) (by omega) (by omega) μ20 hR21 hT9 hF22
      · skip
        refine x_iload_n 0 d_X4_sways_36 rfl rfl ?_
        refine x_iconst (x := 1) d_X4_sways_37 (by decide) ?_
        refine x_iadd d_X4_sways_38 ?_
        refine x_goto 54 d_X4_sways_39 (by decide) ?_
        refine x_iastNG 8 i rfl rfl (by omega) (by decide) d_X4_sways_54 (fun μ23 eμ23 => ?_)
        have hT9 : ∀ j, j < i + 1 → μ23 46 j = swayV a j := fun j hj => by rw [eμ23, upd2_at]; unfold upd; split; (rename_i q; rw [q]; exact (sv_1 (Int32.not_le.mp c15)).symm); exact hT1 j (by omega)
        have hR24 := MR.cg hR1 (μ' := μ23) (fun id hid => (by rw [eμ23, upd2_ne _ _ _ (by omega)]))
        have hF25 : ∀ id, (id ≠ 42 ∧ id ≠ 46) → μ23 id = μ id := fun id hid => (show μ23 id = μ4 id from (by rw [eμ23, upd2_ne _ _ _ (by omega)])).trans (hF1 id hid)
        refine x_iinc [(1, .int (nI (i + 1))), (3, .int (a (24 + 3 * i + 2))), (2, .int (meanF a i)), (0, .ref (E.1 + 41))] 2 d_X4_sways_55 rfl (x_inc _) (Nat.le_of_ble_eq_true rfl) rfl ?_
        refine x_goto 2 d_X4_sways_58 (by decide) ?_
        refine x_lv [0, 3] rfl ?_
        exact ih2 (i + 1) (by omega) (by omega) μ23 hR24 hT9 hF25
  exact L1 0 (by omega) μ hR (fun _ hj => absurd hj (Nat.not_lt_zero _)) hF
def m_X4_willFall : x_M := (yX4_willFall, prog_6_method_33_code, 1, (some FieldType.boolean), 6, 136)
theorem v_X4_willFall : x_VM m_X4_willFall 0 := ⟨q830, q6, by decide +kernel, by decide +kernel, by decide +kernel⟩
theorem w_X4_willFall : x_VI m_X4_willFall := ⟨q829, qs33⟩
theorem d_X4_willFall_0 : x_dec m_X4_willFall 0 (.aload_n 0) 1 1 := ⟨by decide +kernel, rfl⟩
theorem d_X4_willFall_1 : x_dec m_X4_willFall 1 (.getfield 9) 3 4 := ⟨by decide +kernel, rfl⟩
theorem d_X4_willFall_4 : x_dec m_X4_willFall 4 (.iconst 1) 1 5 := ⟨by decide +kernel, rfl⟩
theorem d_X4_willFall_5 : x_dec m_X4_willFall 5 (.iaload) 1 6 := ⟨by decide +kernel, rfl⟩
theorem d_X4_willFall_6 : x_dec m_X4_willFall 6 (.bipush 16) 2 8 := ⟨by decide +kernel, rfl⟩
theorem d_X4_willFall_8 : x_dec m_X4_willFall 8 (.if_icmp .ge 20) 3 11 := ⟨by decide +kernel, rfl⟩
theorem d_X4_willFall_11 : x_dec m_X4_willFall 11 (.aload_n 0) 1 12 := ⟨by decide +kernel, rfl⟩
theorem d_X4_willFall_12 : x_dec m_X4_willFall 12 (.aload_n 0) 1 13 := ⟨by decide +kernel, rfl⟩
theorem d_X4_willFall_13 : x_dec m_X4_willFall 13 (.getfield 9) 3 16 := ⟨by decide +kernel, rfl⟩
theorem d_X4_willFall_16 : x_dec m_X4_willFall 16 (.iconst 1) 1 17 := ⟨by decide +kernel, rfl⟩
theorem d_X4_willFall_17 : x_dec m_X4_willFall 17 (.iaload) 1 18 := ⟨by decide +kernel, rfl⟩
theorem d_X4_willFall_18 : x_dec m_X4_willFall 18 (.invokevirtual 74) 3 21 := ⟨by decide +kernel, rfl⟩
theorem d_X4_willFall_21 : x_dec m_X4_willFall 21 (.ifCond .ne 7) 3 24 := ⟨by decide +kernel, rfl⟩
theorem d_X4_willFall_24 : x_dec m_X4_willFall 24 (.iconst 1) 1 25 := ⟨by decide +kernel, rfl⟩
theorem d_X4_willFall_25 : x_dec m_X4_willFall 25 (.goto 4) 3 28 := ⟨by decide +kernel, rfl⟩
theorem d_X4_willFall_28 : x_dec m_X4_willFall 28 (.iconst 0) 1 29 := ⟨by decide +kernel, rfl⟩
theorem d_X4_willFall_29 : x_dec m_X4_willFall 29 (.ireturn) 1 30 := ⟨by decide +kernel, rfl⟩
set_option maxHeartbeats 4000000 in
set_option maxRecDepth 100000 in
theorem c_X4_willFall (l : Launch) (E : x_E) (μ : x_Mem) {a : x_St} (hR : MR a μ) (hI : WF a) : x_Met l m_X4_willFall E [.ref (E.1 + 41)] μ (x_I (fun z m => z = x_b (fallB a) ∧ m = μ)) := by
  have hn7 := hI.2.1
  have hpn := hI.1
  obtain ⟨t, ht17, ht⟩ := hI.2.2.2.2.2.1
  refine x_enter (lv := [(0, .ref (E.1 + 41))]) (by decide +kernel) (Nat.le_of_ble_eq_true rfl) rfl ?_
  refine x_aload_n 0 d_X4_willFall_0 rfl rfl ?_
  refine x_getr (j := 0) 42 x_c4 rfl (Nat.le_of_ble_eq_true rfl) q668 rfl d_X4_willFall_1 ?_
  refine x_iconst (x := 1) d_X4_willFall_4 (by decide) ?_
  refine x_ialdN (z := nI t) 58 1 rfl rfl (by omega) (by decide) ((hR 1 (by decide)).trans ht) d_X4_willFall_5 ?_
  refine x_bipush (x := 16) d_X4_willFall_6 (by decide) ?_
  refine x_icmp_ge 28 d_X4_willFall_8 (by decide) (fun c1 => ?_) (fun c1 => ?_)
  · skip
    refine x_iconst (x := 0) d_X4_willFall_28 (by decide) ?_
    refine x_zret0 rfl d_X4_willFall_29 ?_
    exact ⟨congrArg x_b (fallB_f1 ht (x_ge (N := 16) c1 rfl rfl (by omega) (by omega)) ht17).symm, rfl⟩
  · skip
    have h16 := x_lt (N := 16) c1 rfl rfl (by omega) (by omega)
    refine x_aload_n 0 d_X4_willFall_11 rfl rfl ?_
    refine x_aload_n 0 d_X4_willFall_12 rfl rfl ?_
    refine x_getr (j := 0) 42 x_c4 rfl (Nat.le_of_ble_eq_true rfl) q668 rfl d_X4_willFall_13 ?_
    refine x_iconst (x := 1) d_X4_willFall_16 (by decide) ?_
    refine x_ialdN (z := nI t) 58 1 rfl rfl (by omega) (by decide) ((hR 1 (by decide)).trans ht) d_X4_willFall_17 ?_
    refine x_cvip (k := 41) (as := [.int (nI t)]) (c_X4_isThere l E μ hR hI (k := t) (by omega)) v_X4_isThere w_X4_isThere q770 o_M rfl ⟨Nat.le_of_ble_eq_true rfl, Nat.le_of_ble_eq_true rfl⟩ rfl (Nat.le_of_ble_eq_true rfl) d_X4_willFall_18 ?_
    refine x_ifb_ne 28 d_X4_willFall_21 (by decide) (fun c2 => ?_) (fun c2 => ?_)
    · skip
      refine x_iconst (x := 0) d_X4_willFall_28 (by decide) ?_
      refine x_zret0 rfl d_X4_willFall_29 ?_
      exact ⟨congrArg x_b (fallB_f2 ht ht17 c2).symm, rfl⟩
    · skip
      refine x_iconst (x := 1) d_X4_willFall_24 (by decide) ?_
      refine x_goto 29 d_X4_willFall_25 (by decide) ?_
      refine x_zret1 rfl d_X4_willFall_29 ?_
      exact ⟨congrArg x_b (fallB_t ht h16 c2).symm, rfl⟩
def m_X4_hour : x_M := (yX4_hour, prog_6_method_34_code, 4, none, 7, 156)
theorem v_X4_hour : x_VM m_X4_hour 0 := ⟨q826, q6, by decide +kernel, by decide +kernel, by decide +kernel⟩
theorem w_X4_hour : x_VI m_X4_hour := ⟨q825, qs32⟩
theorem d_X4_hour_0 : x_dec m_X4_hour 0 (.aload_n 0) 1 1 := ⟨by decide +kernel, rfl⟩
theorem d_X4_hour_1 : x_dec m_X4_hour 1 (.invokevirtual 103) 3 4 := ⟨by decide +kernel, rfl⟩
theorem d_X4_hour_4 : x_dec m_X4_hour 4 (.istore_n 1) 1 5 := ⟨by decide +kernel, rfl⟩
theorem d_X4_hour_5 : x_dec m_X4_hour 5 (.aload_n 0) 1 6 := ⟨by decide +kernel, rfl⟩
theorem d_X4_hour_6 : x_dec m_X4_hour 6 (.getfield 9) 3 9 := ⟨by decide +kernel, rfl⟩
theorem d_X4_hour_9 : x_dec m_X4_hour 9 (.iconst 1) 1 10 := ⟨by decide +kernel, rfl⟩
theorem d_X4_hour_10 : x_dec m_X4_hour 10 (.iaload) 1 11 := ⟨by decide +kernel, rfl⟩
theorem d_X4_hour_11 : x_dec m_X4_hour 11 (.bipush 16) 2 13 := ⟨by decide +kernel, rfl⟩
theorem d_X4_hour_13 : x_dec m_X4_hour 13 (.if_icmp .ne 7) 3 16 := ⟨by decide +kernel, rfl⟩
theorem d_X4_hour_16 : x_dec m_X4_hour 16 (.iconst 0) 1 17 := ⟨by decide +kernel, rfl⟩
theorem d_X4_hour_17 : x_dec m_X4_hour 17 (.goto 23) 3 20 := ⟨by decide +kernel, rfl⟩
theorem d_X4_hour_20 : x_dec m_X4_hour 20 (.iload_n 1) 1 21 := ⟨by decide +kernel, rfl⟩
theorem d_X4_hour_21 : x_dec m_X4_hour 21 (.ifCond .eq 13) 3 24 := ⟨by decide +kernel, rfl⟩
theorem d_X4_hour_24 : x_dec m_X4_hour 24 (.aload_n 0) 1 25 := ⟨by decide +kernel, rfl⟩
theorem d_X4_hour_25 : x_dec m_X4_hour 25 (.getfield 9) 3 28 := ⟨by decide +kernel, rfl⟩
theorem d_X4_hour_28 : x_dec m_X4_hour 28 (.iconst 4) 1 29 := ⟨by decide +kernel, rfl⟩
theorem d_X4_hour_29 : x_dec m_X4_hour 29 (.iaload) 1 30 := ⟨by decide +kernel, rfl⟩
theorem d_X4_hour_30 : x_dec m_X4_hour 30 (.ineg) 1 31 := ⟨by decide +kernel, rfl⟩
theorem d_X4_hour_31 : x_dec m_X4_hour 31 (.goto 9) 3 34 := ⟨by decide +kernel, rfl⟩
theorem d_X4_hour_34 : x_dec m_X4_hour 34 (.aload_n 0) 1 35 := ⟨by decide +kernel, rfl⟩
theorem d_X4_hour_35 : x_dec m_X4_hour 35 (.getfield 9) 3 38 := ⟨by decide +kernel, rfl⟩
theorem d_X4_hour_38 : x_dec m_X4_hour 38 (.iconst 3) 1 39 := ⟨by decide +kernel, rfl⟩
theorem d_X4_hour_39 : x_dec m_X4_hour 39 (.iaload) 1 40 := ⟨by decide +kernel, rfl⟩
theorem d_X4_hour_40 : x_dec m_X4_hour 40 (.istore_n 2) 1 41 := ⟨by decide +kernel, rfl⟩
theorem d_X4_hour_41 : x_dec m_X4_hour 41 (.aload_n 0) 1 42 := ⟨by decide +kernel, rfl⟩
theorem d_X4_hour_42 : x_dec m_X4_hour 42 (.getfield 9) 3 45 := ⟨by decide +kernel, rfl⟩
theorem d_X4_hour_45 : x_dec m_X4_hour 45 (.iconst 1) 1 46 := ⟨by decide +kernel, rfl⟩
theorem d_X4_hour_46 : x_dec m_X4_hour 46 (.dup2) 1 47 := ⟨by decide +kernel, rfl⟩
theorem d_X4_hour_47 : x_dec m_X4_hour 47 (.iaload) 1 48 := ⟨by decide +kernel, rfl⟩
theorem d_X4_hour_48 : x_dec m_X4_hour 48 (.aload_n 0) 1 49 := ⟨by decide +kernel, rfl⟩
theorem d_X4_hour_49 : x_dec m_X4_hour 49 (.getfield 9) 3 52 := ⟨by decide +kernel, rfl⟩
theorem d_X4_hour_52 : x_dec m_X4_hour 52 (.iconst 1) 1 53 := ⟨by decide +kernel, rfl⟩
theorem d_X4_hour_53 : x_dec m_X4_hour 53 (.iaload) 1 54 := ⟨by decide +kernel, rfl⟩
theorem d_X4_hour_54 : x_dec m_X4_hour 54 (.bipush 16) 2 56 := ⟨by decide +kernel, rfl⟩
theorem d_X4_hour_56 : x_dec m_X4_hour 56 (.if_icmp .eq 7) 3 59 := ⟨by decide +kernel, rfl⟩
theorem d_X4_hour_59 : x_dec m_X4_hour 59 (.iload_n 1) 1 60 := ⟨by decide +kernel, rfl⟩
theorem d_X4_hour_60 : x_dec m_X4_hour 60 (.ifCond .eq 7) 3 63 := ⟨by decide +kernel, rfl⟩
theorem d_X4_hour_63 : x_dec m_X4_hour 63 (.iconst 0) 1 64 := ⟨by decide +kernel, rfl⟩
theorem d_X4_hour_64 : x_dec m_X4_hour 64 (.goto 4) 3 67 := ⟨by decide +kernel, rfl⟩
theorem d_X4_hour_67 : x_dec m_X4_hour 67 (.iconst 1) 1 68 := ⟨by decide +kernel, rfl⟩
theorem d_X4_hour_68 : x_dec m_X4_hour 68 (.iadd) 1 69 := ⟨by decide +kernel, rfl⟩
theorem d_X4_hour_69 : x_dec m_X4_hour 69 (.iastore) 1 70 := ⟨by decide +kernel, rfl⟩
theorem d_X4_hour_70 : x_dec m_X4_hour 70 (.aload_n 0) 1 71 := ⟨by decide +kernel, rfl⟩
theorem d_X4_hour_71 : x_dec m_X4_hour 71 (.getfield 9) 3 74 := ⟨by decide +kernel, rfl⟩
theorem d_X4_hour_74 : x_dec m_X4_hour 74 (.iconst 5) 1 75 := ⟨by decide +kernel, rfl⟩
theorem d_X4_hour_75 : x_dec m_X4_hour 75 (.aload_n 0) 1 76 := ⟨by decide +kernel, rfl⟩
theorem d_X4_hour_76 : x_dec m_X4_hour 76 (.getfield 9) 3 79 := ⟨by decide +kernel, rfl⟩
theorem d_X4_hour_79 : x_dec m_X4_hour 79 (.iconst 5) 1 80 := ⟨by decide +kernel, rfl⟩
theorem d_X4_hour_80 : x_dec m_X4_hour 80 (.iaload) 1 81 := ⟨by decide +kernel, rfl⟩
theorem d_X4_hour_81 : x_dec m_X4_hour 81 (.iload_n 1) 1 82 := ⟨by decide +kernel, rfl⟩
theorem d_X4_hour_82 : x_dec m_X4_hour 82 (.ifCond .eq 7) 3 85 := ⟨by decide +kernel, rfl⟩
theorem d_X4_hour_85 : x_dec m_X4_hour 85 (.iconst 1) 1 86 := ⟨by decide +kernel, rfl⟩
theorem d_X4_hour_86 : x_dec m_X4_hour 86 (.goto 4) 3 89 := ⟨by decide +kernel, rfl⟩
theorem d_X4_hour_89 : x_dec m_X4_hour 89 (.iconst 0) 1 90 := ⟨by decide +kernel, rfl⟩
theorem d_X4_hour_90 : x_dec m_X4_hour 90 (.iadd) 1 91 := ⟨by decide +kernel, rfl⟩
theorem d_X4_hour_91 : x_dec m_X4_hour 91 (.iconst 0) 1 92 := ⟨by decide +kernel, rfl⟩
theorem d_X4_hour_92 : x_dec m_X4_hour 92 (.ldc 67) 2 94 := ⟨by decide +kernel, rfl⟩
theorem d_X4_hour_94 : x_dec m_X4_hour 94 (.invokestatic 54) 3 97 := ⟨by decide +kernel, rfl⟩
theorem d_X4_hour_97 : x_dec m_X4_hour 97 (.iastore) 1 98 := ⟨by decide +kernel, rfl⟩
theorem d_X4_hour_98 : x_dec m_X4_hour 98 (.iconst 0) 1 99 := ⟨by decide +kernel, rfl⟩
theorem d_X4_hour_99 : x_dec m_X4_hour 99 (.istore_n 3) 1 100 := ⟨by decide +kernel, rfl⟩
theorem d_X4_hour_100 : x_dec m_X4_hour 100 (.iload_n 3) 1 101 := ⟨by decide +kernel, rfl⟩
theorem d_X4_hour_101 : x_dec m_X4_hour 101 (.aload_n 0) 1 102 := ⟨by decide +kernel, rfl⟩
theorem d_X4_hour_102 : x_dec m_X4_hour 102 (.getfield 9) 3 105 := ⟨by decide +kernel, rfl⟩
theorem d_X4_hour_105 : x_dec m_X4_hour 105 (.bipush 7) 2 107 := ⟨by decide +kernel, rfl⟩
theorem d_X4_hour_107 : x_dec m_X4_hour 107 (.iaload) 1 108 := ⟨by decide +kernel, rfl⟩
theorem d_X4_hour_108 : x_dec m_X4_hour 108 (.if_icmp .ge 39) 3 111 := ⟨by decide +kernel, rfl⟩
theorem d_X4_hour_111 : x_dec m_X4_hour 111 (.aload_n 0) 1 112 := ⟨by decide +kernel, rfl⟩
theorem d_X4_hour_112 : x_dec m_X4_hour 112 (.iload_n 3) 1 113 := ⟨by decide +kernel, rfl⟩
theorem d_X4_hour_113 : x_dec m_X4_hour 113 (.iconst 1) 1 114 := ⟨by decide +kernel, rfl⟩
theorem d_X4_hour_114 : x_dec m_X4_hour 114 (.invokevirtual 50) 3 117 := ⟨by decide +kernel, rfl⟩
theorem d_X4_hour_117 : x_dec m_X4_hour 117 (.iconst (-1)) 1 118 := ⟨by decide +kernel, rfl⟩
theorem d_X4_hour_118 : x_dec m_X4_hour 118 (.if_icmp .ne 23) 3 121 := ⟨by decide +kernel, rfl⟩
theorem d_X4_hour_121 : x_dec m_X4_hour 121 (.aload_n 0) 1 122 := ⟨by decide +kernel, rfl⟩
theorem d_X4_hour_122 : x_dec m_X4_hour 122 (.iload_n 3) 1 123 := ⟨by decide +kernel, rfl⟩
theorem d_X4_hour_123 : x_dec m_X4_hour 123 (.iconst 2) 1 124 := ⟨by decide +kernel, rfl⟩
theorem d_X4_hour_124 : x_dec m_X4_hour 124 (.aload_n 0) 1 125 := ⟨by decide +kernel, rfl⟩
theorem d_X4_hour_125 : x_dec m_X4_hour 125 (.iload_n 3) 1 126 := ⟨by decide +kernel, rfl⟩
theorem d_X4_hour_126 : x_dec m_X4_hour 126 (.iconst 2) 1 127 := ⟨by decide +kernel, rfl⟩
theorem d_X4_hour_127 : x_dec m_X4_hour 127 (.invokevirtual 50) 3 130 := ⟨by decide +kernel, rfl⟩
theorem d_X4_hour_130 : x_dec m_X4_hour 130 (.iload_n 2) 1 131 := ⟨by decide +kernel, rfl⟩
theorem d_X4_hour_131 : x_dec m_X4_hour 131 (.iadd) 1 132 := ⟨by decide +kernel, rfl⟩
theorem d_X4_hour_132 : x_dec m_X4_hour 132 (.iconst 0) 1 133 := ⟨by decide +kernel, rfl⟩
theorem d_X4_hour_133 : x_dec m_X4_hour 133 (.bipush 99) 2 135 := ⟨by decide +kernel, rfl⟩
theorem d_X4_hour_135 : x_dec m_X4_hour 135 (.invokestatic 54) 3 138 := ⟨by decide +kernel, rfl⟩
theorem d_X4_hour_138 : x_dec m_X4_hour 138 (.invokevirtual 84) 3 141 := ⟨by decide +kernel, rfl⟩
theorem d_X4_hour_141 : x_dec m_X4_hour 141 (.iinc 3 1) 3 144 := ⟨by decide +kernel, rfl⟩
theorem d_X4_hour_144 : x_dec m_X4_hour 144 (.goto (-44)) 3 147 := ⟨by decide +kernel, rfl⟩
theorem d_X4_hour_147 : x_dec m_X4_hour 147 (.aload_n 0) 1 148 := ⟨by decide +kernel, rfl⟩
theorem d_X4_hour_148 : x_dec m_X4_hour 148 (.invokevirtual 107) 3 151 := ⟨by decide +kernel, rfl⟩
theorem d_X4_hour_151 : x_dec m_X4_hour 151 (.aload_n 0) 1 152 := ⟨by decide +kernel, rfl⟩
theorem d_X4_hour_152 : x_dec m_X4_hour 152 (.getfield 9) 3 155 := ⟨by decide +kernel, rfl⟩
theorem d_X4_hour_155 : x_dec m_X4_hour 155 (.iconst 0) 1 156 := ⟨by decide +kernel, rfl⟩
theorem d_X4_hour_156 : x_dec m_X4_hour 156 (.dup2) 1 157 := ⟨by decide +kernel, rfl⟩
theorem d_X4_hour_157 : x_dec m_X4_hour 157 (.iaload) 1 158 := ⟨by decide +kernel, rfl⟩
theorem d_X4_hour_158 : x_dec m_X4_hour 158 (.iconst 1) 1 159 := ⟨by decide +kernel, rfl⟩
theorem d_X4_hour_159 : x_dec m_X4_hour 159 (.iadd) 1 160 := ⟨by decide +kernel, rfl⟩
theorem d_X4_hour_160 : x_dec m_X4_hour 160 (.iastore) 1 161 := ⟨by decide +kernel, rfl⟩
theorem d_X4_hour_161 : x_dec m_X4_hour 161 (.return_) 1 162 := ⟨by decide +kernel, rfl⟩
set_option maxHeartbeats 4000000 in
set_option maxRecDepth 100000 in
theorem c_X4_hour (l : Launch) (E : x_E) (μ : x_Mem) {a : x_St} (hR : MR a μ) (hI : WF a) : x_Met l m_X4_hour E [.ref (E.1 + 41)] μ (x_J (fun m => MR (hourF a) m ∧ ∀ id, (id ≠ 42 ∧ id ≠ 46) → m id = μ id)) := by
  have hn7 := hI.2.1
  have hpn := hI.1
  have hF : ∀ id, (id ≠ 42 ∧ id ≠ 46) → μ id = μ id := fun _ _ => rfl
  refine x_enter (lv := [(0, .ref (E.1 + 41))]) (by decide +kernel) (Nat.le_of_ble_eq_true rfl) rfl ?_
  refine x_aload_n 0 d_X4_hour_0 rfl rfl ?_
  refine x_cvip (k := 41) (as := []) (c_X4_willFall l E μ hR hI) v_X4_willFall w_X4_willFall q827 o_M rfl ⟨Nat.le_of_ble_eq_true rfl, Nat.le_of_ble_eq_true rfl⟩ rfl (Nat.le_of_ble_eq_true rfl) d_X4_hour_1 ?_
  refine x_istore_n [(1, .int (x_b (fallB a))), (0, .ref (E.1 + 41))] d_X4_hour_4 rfl (Nat.le_of_ble_eq_true rfl) rfl ?_
  refine x_aload_n 1 d_X4_hour_5 rfl rfl ?_
  refine x_getr (j := 0) 42 x_c4 rfl (Nat.le_of_ble_eq_true rfl) q668 rfl d_X4_hour_6 ?_
  refine x_iconst (x := 1) d_X4_hour_9 (by decide) ?_
  refine x_ialdN (z := a 1) 58 1 rfl rfl (by omega) (by decide) (hR 1 (by omega)) d_X4_hour_10 ?_
  refine x_bipush (x := 16) d_X4_hour_11 (by decide) ?_
  refine x_icmp_ne 20 d_X4_hour_13 (by decide) (fun c1 => ?_) (fun c1 => ?_)
  · skip
    refine x_iload_n 0 d_X4_hour_20 rfl rfl ?_
    refine x_ifb_eq 34 d_X4_hour_21 (by decide) (fun c2 => ?_) (fun c2 => ?_)
    · skip
      refine x_aload_n 1 d_X4_hour_34 rfl rfl ?_
      refine x_getr (j := 0) 42 x_c4 rfl (Nat.le_of_ble_eq_true rfl) q668 rfl d_X4_hour_35 ?_
      refine x_iconst (x := 3) d_X4_hour_38 (by decide) ?_
      refine x_ialdN (z := a 3) 58 3 rfl rfl (by omega) (by decide) (hR 3 (by omega)) d_X4_hour_39 ?_
      refine x_istore_n [(2, .int (a 3)), (1, .int (x_b (fallB a))), (0, .ref (E.1 + 41))] d_X4_hour_40 rfl (Nat.le_of_ble_eq_true rfl) rfl ?_
      refine x_aload_n 2 d_X4_hour_41 rfl rfl ?_
      refine x_getr (j := 0) 42 x_c4 rfl (Nat.le_of_ble_eq_true rfl) q668 rfl d_X4_hour_42 ?_
      refine x_iconst (x := 1) d_X4_hour_45 (by decide) ?_
      refine x_dup2 d_X4_hour_46 rfl rfl ?_
      refine x_ialdN (z := a 1) 58 1 rfl rfl (by omega) (by decide) (hR 1 (by omega)) d_X4_hour_47 ?_
      refine x_aload_n 2 d_X4_hour_48 rfl rfl ?_
      refine x_getr (j := 0) 42 x_c4 rfl (Nat.le_of_ble_eq_true rfl) q668 rfl d_X4_hour_49 ?_
      refine x_iconst (x := 1) d_X4_hour_52 (by decide) ?_
      refine x_ialdN (z := a 1) 58 1 rfl rfl (by omega) (by decide) (hR 1 (by omega)) d_X4_hour_53 ?_
      refine x_bipush (x := 16) d_X4_hour_54 (by decide) ?_
      refine x_icmp_eq 63 d_X4_hour_56 (by decide) (fun c3 => ?_) (fun c3 => ?_)
      · skip
        exact absurd c3 c1
      · skip
        refine x_iload_n 1 d_X4_hour_59 rfl rfl ?_
        refine x_ifb_eq 67 d_X4_hour_60 (by decide) (fun c4 => ?_) (fun c4 => ?_)
        · skip
          refine x_iconst (x := 1) d_X4_hour_67 (by decide) ?_
          refine x_iadd d_X4_hour_68 ?_
          refine x_iastNG 58 1 rfl rfl (by omega) (by decide) d_X4_hour_69 (fun μ5 eμ5 => ?_)
          have hR6 : MR (upd a (1) ((a 1) + 1)) μ5 := MR.w hR eμ5
          have hF7 : ∀ id, (id ≠ 42 ∧ id ≠ 46) → μ5 id = μ id := fun id hid => (show μ5 id = μ id from (by rw [eμ5, upd2_ne _ _ _ (by omega)])).trans (hF id hid)
          refine x_aload_n 2 d_X4_hour_70 rfl rfl ?_
          refine x_getr (j := 0) 42 x_c4 rfl (Nat.le_of_ble_eq_true rfl) q668 rfl d_X4_hour_71 ?_
          refine x_iconst (x := 5) d_X4_hour_74 (by decide) ?_
          refine x_aload_n 2 d_X4_hour_75 rfl rfl ?_
          refine x_getr (j := 0) 42 x_c4 rfl (Nat.le_of_ble_eq_true rfl) q668 rfl d_X4_hour_76 ?_
          refine x_iconst (x := 5) d_X4_hour_79 (by decide) ?_
          refine x_ialdN (z := (upd a (1) ((a 1) + 1)) 5) 58 5 rfl rfl (by omega) (by decide) (hR6 5 (by omega)) d_X4_hour_80 ?_
          refine x_iload_n 1 d_X4_hour_81 rfl rfl ?_
          refine x_ifb_eq 89 d_X4_hour_82 (by decide) (fun c8 => ?_) (fun c8 => ?_)
          · skip
            refine x_iconst (x := 0) d_X4_hour_89 (by decide) ?_
            refine x_iadd d_X4_hour_90 ?_
            refine x_iconst (x := 0) d_X4_hour_91 (by decide) ?_
            refine x_ldc q769 d_X4_hour_92 ?_
            refine x_csip (as := [.int (((upd a (1) ((a 1) + 1)) 5) + 0), .int 0, .int 99999]) (c_X4_held l E μ5 (((upd a (1) ((a 1) + 1)) 5) + 0) 0 99999) v_X4_held q760 q759 rfl ⟨Nat.le_of_ble_eq_true rfl, Nat.le_of_ble_eq_true rfl⟩ rfl (Nat.le_of_ble_eq_true rfl) d_X4_hour_94 ?_
            refine x_iastNG 58 5 rfl rfl (by omega) (by decide) d_X4_hour_97 (fun μ9 eμ9 => ?_)
            have hR10 : MR (upd (upd a (1) ((a 1) + 1)) (5) (heldF (((upd a (1) ((a 1) + 1)) 5) + 0) 0 99999)) μ9 := MR.w hR6 eμ9
            have hF11 : ∀ id, (id ≠ 42 ∧ id ≠ 46) → μ9 id = μ id := fun id hid => (show μ9 id = μ5 id from (by rw [eμ9, upd2_ne _ _ _ (by omega)])).trans (hF7 id hid)
            have hn16 : ¬ a 1 = 16 := c1
            have hfb := c2
            have hR12 : MR (upd a 1 (a 1 + 1)) μ9 := MR.eq hR10 (fun j _ => hr_C hI j)
            have hpb : pn (upd a 1 (a 1 + 1)) = pn a := upd_pn (by decide) _
            have hb7 : (upd a 1 (a 1 + 1)) 7 = nI (pn a) := (upd_n _ _ (by decide)).trans hn7
            refine x_iconst (x := 0) d_X4_hour_98 (by decide) ?_
            refine x_istore_n [(3, .int 0), (2, .int (a 3)), (1, .int (x_b (fallB a))), (0, .ref (E.1 + 41))] d_X4_hour_99 rfl (Nat.le_of_ble_eq_true rfl) rfl ?_
            have L13 : ∀ i : Nat, i ≤ pn a → ∀ μ16 : x_Mem, (MR (moveTo (upd a 1 (a 1 + 1)) (a 3) i) μ16) → (∀ id, (id ≠ 42 ∧ id ≠ 46) → μ16 id = μ id) → x_G l E m_X4_hour (x_mv E m_X4_hour (x_J (fun m => MR (hourF a) m ∧ ∀ id, (id ≠ 42 ∧ id ≠ 46) → m id = μ id))) μ16 100 [(3, .int (nI i)), (2, .int (a 3)), (0, .ref (E.1 + 41))] [] := by
              refine x_down _ (pn a) (fun i hi15 ih14 => ?_)
              intro μ16 hR1 hF1
              refine x_iload_n 0 d_X4_hour_100 rfl rfl ?_
              refine x_aload_n 2 d_X4_hour_101 rfl rfl ?_
              refine x_getr (j := 0) 42 x_c4 rfl (Nat.le_of_ble_eq_true rfl) q668 rfl d_X4_hour_102 ?_
              refine x_bipush (x := 7) d_X4_hour_105 (by decide) ?_
              refine x_ialdN (z := nI (pn a)) 58 7 rfl rfl (by omega) (by decide) ((hR1 7 (by decide)).trans ((move_lo _ _ (by decide) _).trans hb7)) d_X4_hour_107 ?_
              refine x_icmp_ge 147 d_X4_hour_108 (by decide) (fun c17 => ?_) (fun c17 => ?_)
              · skip
                have hN := x_ge (N := pn a) c17 rfl rfl (by omega) (by omega)
                have e7 : i = pn a := by omega
                subst e7
                have hR18 : MR (rideF a) μ16 := by rw [← hr_eC hI hn16 hfb]; exact hR1
                refine x_aload_n 2 d_X4_hour_147 rfl rfl ?_
                refine x_cvv (k := 41) (as := []) (c_X4_sways l E μ16 hR18 hI.ride.1) v_X4_sways w_X4_sways q831 o_M rfl ⟨Nat.le_of_ble_eq_true rfl, Nat.le_of_ble_eq_true rfl⟩ rfl (Nat.le_of_ble_eq_true rfl) d_X4_hour_148 ?_
                rintro μ19 ⟨hR20, hF21⟩
                have hF22 : ∀ id, (id ≠ 42 ∧ id ≠ 46) → μ19 id = μ id := fun id hid => (show μ19 id = μ16 id from (hF21 _ (by omega))).trans (hF1 id hid)
                refine x_aload_n 2 d_X4_hour_151 rfl rfl ?_
                refine x_getr (j := 0) 42 x_c4 rfl (Nat.le_of_ble_eq_true rfl) q668 rfl d_X4_hour_152 ?_
                refine x_iconst (x := 0) d_X4_hour_155 (by decide) ?_
                refine x_dup2 d_X4_hour_156 rfl rfl ?_
                refine x_ialdN (z := (swayF (rideF a)) 0) 58 0 rfl rfl (by omega) (by decide) (hR20 0 (by omega)) d_X4_hour_157 ?_
                refine x_iconst (x := 1) d_X4_hour_158 (by decide) ?_
                refine x_iadd d_X4_hour_159 ?_
                refine x_iastNG 58 0 rfl rfl (by omega) (by decide) d_X4_hour_160 (fun μ23 eμ23 => ?_)
                have hR24 : MR (upd (swayF (rideF a)) (0) (((swayF (rideF a)) 0) + 1)) μ23 := MR.w hR20 eμ23
                have hF25 : ∀ id, (id ≠ 42 ∧ id ≠ 46) → μ23 id = μ id := fun id hid => (show μ23 id = μ19 id from (by rw [eμ23, upd2_ne _ _ _ (by omega)])).trans (hF22 id hid)
                refine x_vret rfl d_X4_hour_161 ?_
                rw [hour_end hI] at hR24
                exact ⟨hR24, hF25⟩
              · skip
                have hN := x_lt (N := pn a) c17 rfl rfl (by omega) (by omega)
                refine x_aload_n 2 d_X4_hour_111 rfl rfl ?_
                refine x_iload_n 0 d_X4_hour_112 rfl rfl ?_
                refine x_iconst (x := 1) d_X4_hour_113 (by decide) ?_
                refine x_cvip (k := 41) (as := [.int (nI i), .int 1]) (c_X4_told l E μ16 hR1 (p := i) (w := 1) (j := 24 + 3 * i + 1) rfl (by omega)) v_X4_told w_X4_told q755 o_M rfl ⟨Nat.le_of_ble_eq_true rfl, Nat.le_of_ble_eq_true rfl⟩ rfl (Nat.le_of_ble_eq_true rfl) d_X4_hour_114 ?_
                rw [move_w]
                refine x_iconst (x := (-1)) d_X4_hour_117 (by decide) ?_
                refine x_icmp_ne 141 d_X4_hour_118 (by decide) (fun c26 => ?_) (fun c26 => ?_)
                · skip
                  refine x_iinc [(3, .int (nI (i + 1))), (2, .int (a 3)), (0, .ref (E.1 + 41))] 0 d_X4_hour_141 rfl (x_inc _) (Nat.le_of_ble_eq_true rfl) rfl ?_
                  refine x_goto 100 d_X4_hour_144 (by decide) ?_
                  exact ih14 (i + 1) (by omega) (by omega) μ16 (by rw [moveTo_f c26]; exact hR1) hF1
                · skip
                  refine x_aload_n 2 d_X4_hour_121 rfl rfl ?_
                  refine x_iload_n 0 d_X4_hour_122 rfl rfl ?_
                  refine x_iconst (x := 2) d_X4_hour_123 (by decide) ?_
                  refine x_aload_n 2 d_X4_hour_124 rfl rfl ?_
                  refine x_iload_n 0 d_X4_hour_125 rfl rfl ?_
                  refine x_iconst (x := 2) d_X4_hour_126 (by decide) ?_
                  refine x_cvip (k := 41) (as := [.int (nI i), .int 2]) (c_X4_told l E μ16 hR1 (p := i) (w := 2) (j := 24 + 3 * i + 2) rfl (by omega)) v_X4_told w_X4_told q755 o_M rfl ⟨Nat.le_of_ble_eq_true rfl, Nat.le_of_ble_eq_true rfl⟩ rfl (Nat.le_of_ble_eq_true rfl) d_X4_hour_127 ?_
                  rw [moveTo_hi _ _ i i (Nat.le_refl i)]
                  refine x_iload_n 1 d_X4_hour_130 rfl rfl ?_
                  refine x_iadd d_X4_hour_131 ?_
                  refine x_iconst (x := 0) d_X4_hour_132 (by decide) ?_
                  refine x_bipush (x := 99) d_X4_hour_133 (by decide) ?_
                  refine x_csip (as := [.int (((upd a 1 (a 1 + 1)) (24 + 3 * i + 2)) + (a 3)), .int 0, .int 99]) (c_X4_held l E μ16 (((upd a 1 (a 1 + 1)) (24 + 3 * i + 2)) + (a 3)) 0 99) v_X4_held q760 q759 rfl ⟨Nat.le_of_ble_eq_true rfl, Nat.le_of_ble_eq_true rfl⟩ rfl (Nat.le_of_ble_eq_true rfl) d_X4_hour_135 ?_
                  refine x_cvv (k := 41) (as := [.int (nI i), .int 2, .int (heldF (((upd a 1 (a 1 + 1)) (24 + 3 * i + 2)) + (a 3)) 0 99)]) (c_X4_put l E μ16 (p := i) (w := 2) (j := 24 + 3 * i + 2) rfl (by omega) (heldF (((upd a 1 (a 1 + 1)) (24 + 3 * i + 2)) + (a 3)) 0 99)) v_X4_put w_X4_put q783 o_M rfl ⟨Nat.le_of_ble_eq_true rfl, Nat.le_of_ble_eq_true rfl⟩ rfl (Nat.le_of_ble_eq_true rfl) d_X4_hour_138 ?_
                  intro μ27 eμ27
                  have hR28 : MR (upd (moveTo (upd a 1 (a 1 + 1)) (a 3) i) (24 + 3 * i + 2) (heldF (((upd a 1 (a 1 + 1)) (24 + 3 * i + 2)) + (a 3)) 0 99)) μ27 := MR.w hR1 eμ27
                  have hF29 : ∀ id, (id ≠ 42 ∧ id ≠ 46) → μ27 id = μ id := fun id hid => (show μ27 id = μ16 id from (by rw [eμ27, upd2_ne _ _ _ (by omega)])).trans (hF1 id hid)
                  refine x_iinc [(3, .int (nI (i + 1))), (2, .int (a 3)), (0, .ref (E.1 + 41))] 0 d_X4_hour_141 rfl (x_inc _) (Nat.le_of_ble_eq_true rfl) rfl ?_
                  refine x_goto 100 d_X4_hour_144 (by decide) ?_
                  exact ih14 (i + 1) (by omega) (by omega) μ27 (by rw [moveTo_t c26, ← show heldF _ 0 99 = maxI 0 (minI 99 _) from held_clamp _]; exact hR28) hF29
            refine x_lv [0, 1, 3] rfl ?_
            exact L13 0 (by omega) μ9 hR12 hF11
          · skip
            exact absurd (c2.symm.trans c8) (by decide)
        · skip
          exact absurd (c2.symm.trans c4) (by decide)
    · skip
      refine x_aload_n 1 d_X4_hour_24 rfl rfl ?_
      refine x_getr (j := 0) 42 x_c4 rfl (Nat.le_of_ble_eq_true rfl) q668 rfl d_X4_hour_25 ?_
      refine x_iconst (x := 4) d_X4_hour_28 (by decide) ?_
      refine x_ialdN (z := a 4) 58 4 rfl rfl (by omega) (by decide) (hR 4 (by omega)) d_X4_hour_29 ?_
      refine x_ineg d_X4_hour_30 ?_
      refine x_goto 40 d_X4_hour_31 (by decide) ?_
      refine x_istore_n [(2, .int (-(a 4))), (1, .int (x_b (fallB a))), (0, .ref (E.1 + 41))] d_X4_hour_40 rfl (Nat.le_of_ble_eq_true rfl) rfl ?_
      refine x_aload_n 2 d_X4_hour_41 rfl rfl ?_
      refine x_getr (j := 0) 42 x_c4 rfl (Nat.le_of_ble_eq_true rfl) q668 rfl d_X4_hour_42 ?_
      refine x_iconst (x := 1) d_X4_hour_45 (by decide) ?_
      refine x_dup2 d_X4_hour_46 rfl rfl ?_
      refine x_ialdN (z := a 1) 58 1 rfl rfl (by omega) (by decide) (hR 1 (by omega)) d_X4_hour_47 ?_
      refine x_aload_n 2 d_X4_hour_48 rfl rfl ?_
      refine x_getr (j := 0) 42 x_c4 rfl (Nat.le_of_ble_eq_true rfl) q668 rfl d_X4_hour_49 ?_
      refine x_iconst (x := 1) d_X4_hour_52 (by decide) ?_
      refine x_ialdN (z := a 1) 58 1 rfl rfl (by omega) (by decide) (hR 1 (by omega)) d_X4_hour_53 ?_
      refine x_bipush (x := 16) d_X4_hour_54 (by decide) ?_
      refine x_icmp_eq 63 d_X4_hour_56 (by decide) (fun c30 => ?_) (fun c30 => ?_)
      · skip
        exact absurd c30 c1
      · skip
        refine x_iload_n 1 d_X4_hour_59 rfl rfl ?_
        refine x_ifb_eq 67 d_X4_hour_60 (by decide) (fun c31 => ?_) (fun c31 => ?_)
        · skip
          exact absurd (c2.symm.trans c31) (by decide)
        · skip
          refine x_iconst (x := 0) d_X4_hour_63 (by decide) ?_
          refine x_goto 68 d_X4_hour_64 (by decide) ?_
          refine x_iadd d_X4_hour_68 ?_
          refine x_iastNG 58 1 rfl rfl (by omega) (by decide) d_X4_hour_69 (fun μ32 eμ32 => ?_)
          have hR33 : MR (upd a (1) ((a 1) + 0)) μ32 := MR.w hR eμ32
          have hF34 : ∀ id, (id ≠ 42 ∧ id ≠ 46) → μ32 id = μ id := fun id hid => (show μ32 id = μ id from (by rw [eμ32, upd2_ne _ _ _ (by omega)])).trans (hF id hid)
          refine x_aload_n 2 d_X4_hour_70 rfl rfl ?_
          refine x_getr (j := 0) 42 x_c4 rfl (Nat.le_of_ble_eq_true rfl) q668 rfl d_X4_hour_71 ?_
          refine x_iconst (x := 5) d_X4_hour_74 (by decide) ?_
          refine x_aload_n 2 d_X4_hour_75 rfl rfl ?_
          refine x_getr (j := 0) 42 x_c4 rfl (Nat.le_of_ble_eq_true rfl) q668 rfl d_X4_hour_76 ?_
          refine x_iconst (x := 5) d_X4_hour_79 (by decide) ?_
          refine x_ialdN (z := (upd a (1) ((a 1) + 0)) 5) 58 5 rfl rfl (by omega) (by decide) (hR33 5 (by omega)) d_X4_hour_80 ?_
          refine x_iload_n 1 d_X4_hour_81 rfl rfl ?_
          refine x_ifb_eq 89 d_X4_hour_82 (by decide) (fun c35 => ?_) (fun c35 => ?_)
          · skip
            exact absurd (c2.symm.trans c35) (by decide)
          · skip
            refine x_iconst (x := 1) d_X4_hour_85 (by decide) ?_
            refine x_goto 90 d_X4_hour_86 (by decide) ?_
            refine x_iadd d_X4_hour_90 ?_
            refine x_iconst (x := 0) d_X4_hour_91 (by decide) ?_
            refine x_ldc q769 d_X4_hour_92 ?_
            refine x_csip (as := [.int (((upd a (1) ((a 1) + 0)) 5) + 1), .int 0, .int 99999]) (c_X4_held l E μ32 (((upd a (1) ((a 1) + 0)) 5) + 1) 0 99999) v_X4_held q760 q759 rfl ⟨Nat.le_of_ble_eq_true rfl, Nat.le_of_ble_eq_true rfl⟩ rfl (Nat.le_of_ble_eq_true rfl) d_X4_hour_94 ?_
            refine x_iastNG 58 5 rfl rfl (by omega) (by decide) d_X4_hour_97 (fun μ36 eμ36 => ?_)
            have hR37 : MR (upd (upd a (1) ((a 1) + 0)) (5) (heldF (((upd a (1) ((a 1) + 0)) 5) + 1) 0 99999)) μ36 := MR.w hR33 eμ36
            have hF38 : ∀ id, (id ≠ 42 ∧ id ≠ 46) → μ36 id = μ id := fun id hid => (show μ36 id = μ32 id from (by rw [eμ36, upd2_ne _ _ _ (by omega)])).trans (hF34 id hid)
            have hR39 : MR (upd a 5 (minI (a 5 + 1) 99999)) μ36 := MR.eq hR37 (fun j _ => hr_B hI j)
            have hpb : pn (upd a 5 (minI (a 5 + 1) 99999)) = pn a := upd_pn (by decide) _
            have hb7 : (upd a 5 (minI (a 5 + 1) 99999)) 7 = nI (pn a) := (upd_n _ _ (by decide)).trans hn7
            refine x_iconst (x := 0) d_X4_hour_98 (by decide) ?_
            refine x_istore_n [(3, .int 0), (2, .int (-(a 4))), (1, .int (x_b (fallB a))), (0, .ref (E.1 + 41))] d_X4_hour_99 rfl (Nat.le_of_ble_eq_true rfl) rfl ?_
            have L40 : ∀ i : Nat, i ≤ pn a → ∀ μ43 : x_Mem, (MR (moveTo (upd a 5 (minI (a 5 + 1) 99999)) (-a 4) i) μ43) → (∀ id, (id ≠ 42 ∧ id ≠ 46) → μ43 id = μ id) → x_G l E m_X4_hour (x_mv E m_X4_hour (x_J (fun m => MR (hourF a) m ∧ ∀ id, (id ≠ 42 ∧ id ≠ 46) → m id = μ id))) μ43 100 [(3, .int (nI i)), (2, .int (-(a 4))), (0, .ref (E.1 + 41))] [] := by
              refine x_down _ (pn a) (fun i hi42 ih41 => ?_)
              intro μ43 hR1 hF1
              refine x_iload_n 0 d_X4_hour_100 rfl rfl ?_
              refine x_aload_n 2 d_X4_hour_101 rfl rfl ?_
              refine x_getr (j := 0) 42 x_c4 rfl (Nat.le_of_ble_eq_true rfl) q668 rfl d_X4_hour_102 ?_
              refine x_bipush (x := 7) d_X4_hour_105 (by decide) ?_
              refine x_ialdN (z := nI (pn a)) 58 7 rfl rfl (by omega) (by decide) ((hR1 7 (by decide)).trans ((move_lo _ _ (by decide) _).trans hb7)) d_X4_hour_107 ?_
              refine x_icmp_ge 147 d_X4_hour_108 (by decide) (fun c44 => ?_) (fun c44 => ?_)
              · skip
                have hN := x_ge (N := pn a) c44 rfl rfl (by omega) (by omega)
                have e7 : i = pn a := by omega
                subst e7
                have hR45 : MR (rideF a) μ43 := by rw [← hr_eB c2]; exact hR1
                refine x_aload_n 2 d_X4_hour_147 rfl rfl ?_
                refine x_cvv (k := 41) (as := []) (c_X4_sways l E μ43 hR45 hI.ride.1) v_X4_sways w_X4_sways q831 o_M rfl ⟨Nat.le_of_ble_eq_true rfl, Nat.le_of_ble_eq_true rfl⟩ rfl (Nat.le_of_ble_eq_true rfl) d_X4_hour_148 ?_
                rintro μ46 ⟨hR47, hF48⟩
                have hF49 : ∀ id, (id ≠ 42 ∧ id ≠ 46) → μ46 id = μ id := fun id hid => (show μ46 id = μ43 id from (hF48 _ (by omega))).trans (hF1 id hid)
                refine x_aload_n 2 d_X4_hour_151 rfl rfl ?_
                refine x_getr (j := 0) 42 x_c4 rfl (Nat.le_of_ble_eq_true rfl) q668 rfl d_X4_hour_152 ?_
                refine x_iconst (x := 0) d_X4_hour_155 (by decide) ?_
                refine x_dup2 d_X4_hour_156 rfl rfl ?_
                refine x_ialdN (z := (swayF (rideF a)) 0) 58 0 rfl rfl (by omega) (by decide) (hR47 0 (by omega)) d_X4_hour_157 ?_
                refine x_iconst (x := 1) d_X4_hour_158 (by decide) ?_
                refine x_iadd d_X4_hour_159 ?_
                refine x_iastNG 58 0 rfl rfl (by omega) (by decide) d_X4_hour_160 (fun μ50 eμ50 => ?_)
                have hR51 : MR (upd (swayF (rideF a)) (0) (((swayF (rideF a)) 0) + 1)) μ50 := MR.w hR47 eμ50
                have hF52 : ∀ id, (id ≠ 42 ∧ id ≠ 46) → μ50 id = μ id := fun id hid => (show μ50 id = μ46 id from (by rw [eμ50, upd2_ne _ _ _ (by omega)])).trans (hF49 id hid)
                refine x_vret rfl d_X4_hour_161 ?_
                rw [hour_end hI] at hR51
                exact ⟨hR51, hF52⟩
              · skip
                have hN := x_lt (N := pn a) c44 rfl rfl (by omega) (by omega)
                refine x_aload_n 2 d_X4_hour_111 rfl rfl ?_
                refine x_iload_n 0 d_X4_hour_112 rfl rfl ?_
                refine x_iconst (x := 1) d_X4_hour_113 (by decide) ?_
                refine x_cvip (k := 41) (as := [.int (nI i), .int 1]) (c_X4_told l E μ43 hR1 (p := i) (w := 1) (j := 24 + 3 * i + 1) rfl (by omega)) v_X4_told w_X4_told q755 o_M rfl ⟨Nat.le_of_ble_eq_true rfl, Nat.le_of_ble_eq_true rfl⟩ rfl (Nat.le_of_ble_eq_true rfl) d_X4_hour_114 ?_
                rw [move_w]
                refine x_iconst (x := (-1)) d_X4_hour_117 (by decide) ?_
                refine x_icmp_ne 141 d_X4_hour_118 (by decide) (fun c53 => ?_) (fun c53 => ?_)
                · skip
                  refine x_iinc [(3, .int (nI (i + 1))), (2, .int (-(a 4))), (0, .ref (E.1 + 41))] 0 d_X4_hour_141 rfl (x_inc _) (Nat.le_of_ble_eq_true rfl) rfl ?_
                  refine x_goto 100 d_X4_hour_144 (by decide) ?_
                  exact ih41 (i + 1) (by omega) (by omega) μ43 (by rw [moveTo_f c53]; exact hR1) hF1
                · skip
                  refine x_aload_n 2 d_X4_hour_121 rfl rfl ?_
                  refine x_iload_n 0 d_X4_hour_122 rfl rfl ?_
                  refine x_iconst (x := 2) d_X4_hour_123 (by decide) ?_
                  refine x_aload_n 2 d_X4_hour_124 rfl rfl ?_
                  refine x_iload_n 0 d_X4_hour_125 rfl rfl ?_
                  refine x_iconst (x := 2) d_X4_hour_126 (by decide) ?_
                  refine x_cvip (k := 41) (as := [.int (nI i), .int 2]) (c_X4_told l E μ43 hR1 (p := i) (w := 2) (j := 24 + 3 * i + 2) rfl (by omega)) v_X4_told w_X4_told q755 o_M rfl ⟨Nat.le_of_ble_eq_true rfl, Nat.le_of_ble_eq_true rfl⟩ rfl (Nat.le_of_ble_eq_true rfl) d_X4_hour_127 ?_
                  rw [moveTo_hi _ _ i i (Nat.le_refl i)]
                  refine x_iload_n 1 d_X4_hour_130 rfl rfl ?_
                  refine x_iadd d_X4_hour_131 ?_
                  refine x_iconst (x := 0) d_X4_hour_132 (by decide) ?_
                  refine x_bipush (x := 99) d_X4_hour_133 (by decide) ?_
                  refine x_csip (as := [.int (((upd a 5 (minI (a 5 + 1) 99999)) (24 + 3 * i + 2)) + (-(a 4))), .int 0, .int 99]) (c_X4_held l E μ43 (((upd a 5 (minI (a 5 + 1) 99999)) (24 + 3 * i + 2)) + (-(a 4))) 0 99) v_X4_held q760 q759 rfl ⟨Nat.le_of_ble_eq_true rfl, Nat.le_of_ble_eq_true rfl⟩ rfl (Nat.le_of_ble_eq_true rfl) d_X4_hour_135 ?_
                  refine x_cvv (k := 41) (as := [.int (nI i), .int 2, .int (heldF (((upd a 5 (minI (a 5 + 1) 99999)) (24 + 3 * i + 2)) + (-(a 4))) 0 99)]) (c_X4_put l E μ43 (p := i) (w := 2) (j := 24 + 3 * i + 2) rfl (by omega) (heldF (((upd a 5 (minI (a 5 + 1) 99999)) (24 + 3 * i + 2)) + (-(a 4))) 0 99)) v_X4_put w_X4_put q783 o_M rfl ⟨Nat.le_of_ble_eq_true rfl, Nat.le_of_ble_eq_true rfl⟩ rfl (Nat.le_of_ble_eq_true rfl) d_X4_hour_138 ?_
                  intro μ54 eμ54
                  have hR55 : MR (upd (moveTo (upd a 5 (minI (a 5 + 1) 99999)) (-a 4) i) (24 + 3 * i + 2) (heldF (((upd a 5 (minI (a 5 + 1) 99999)) (24 + 3 * i + 2)) + (-(a 4))) 0 99)) μ54 := MR.w hR1 eμ54
                  have hF56 : ∀ id, (id ≠ 42 ∧ id ≠ 46) → μ54 id = μ id := fun id hid => (show μ54 id = μ43 id from (by rw [eμ54, upd2_ne _ _ _ (by omega)])).trans (hF1 id hid)
                  refine x_iinc [(3, .int (nI (i + 1))), (2, .int (-(a 4))), (0, .ref (E.1 + 41))] 0 d_X4_hour_141 rfl (x_inc _) (Nat.le_of_ble_eq_true rfl) rfl ?_
                  refine x_goto 100 d_X4_hour_144 (by decide) ?_
                  exact ih41 (i + 1) (by omega) (by omega) μ54 (by rw [moveTo_t c53, ← show heldF _ 0 99 = maxI 0 (minI 99 _) from held_clamp _]; exact hR55) hF56
            refine x_lv [0, 1, 3] rfl ?_
            exact L40 0 (by omega) μ36 hR39 hF38
  · skip
    refine x_iconst (x := 0) d_X4_hour_16 (by decide) ?_
    refine x_goto 40 d_X4_hour_17 (by decide) ?_
    refine x_istore_n [(2, .int 0), (1, .int (x_b (fallB a))), (0, .ref (E.1 + 41))] d_X4_hour_40 rfl (Nat.le_of_ble_eq_true rfl) rfl ?_
    refine x_aload_n 2 d_X4_hour_41 rfl rfl ?_
    refine x_getr (j := 0) 42 x_c4 rfl (Nat.le_of_ble_eq_true rfl) q668 rfl d_X4_hour_42 ?_
    refine x_iconst (x := 1) d_X4_hour_45 (by decide) ?_
    refine x_dup2 d_X4_hour_46 rfl rfl ?_
    refine x_ialdN (z := a 1) 58 1 rfl rfl (by omega) (by decide) (hR 1 (by omega)) d_X4_hour_47 ?_
    refine x_aload_n 2 d_X4_hour_48 rfl rfl ?_
    refine x_getr (j := 0) 42 x_c4 rfl (Nat.le_of_ble_eq_true rfl) q668 rfl d_X4_hour_49 ?_
    refine x_iconst (x := 1) d_X4_hour_52 (by decide) ?_
    refine x_ialdN (z := a 1) 58 1 rfl rfl (by omega) (by decide) (hR 1 (by omega)) d_X4_hour_53 ?_
    refine x_bipush (x := 16) d_X4_hour_54 (by decide) ?_
    refine x_icmp_eq 63 d_X4_hour_56 (by decide) (fun c57 => ?_) (fun c57 => ?_)
    · skip
      refine x_iconst (x := 0) d_X4_hour_63 (by decide) ?_
      refine x_goto 68 d_X4_hour_64 (by decide) ?_
      refine x_iadd d_X4_hour_68 ?_
      refine x_iastNG 58 1 rfl rfl (by omega) (by decide) d_X4_hour_69 (fun μ58 eμ58 => ?_)
      have hR59 : MR (upd a (1) ((a 1) + 0)) μ58 := MR.w hR eμ58
      have hF60 : ∀ id, (id ≠ 42 ∧ id ≠ 46) → μ58 id = μ id := fun id hid => (show μ58 id = μ id from (by rw [eμ58, upd2_ne _ _ _ (by omega)])).trans (hF id hid)
      refine x_aload_n 2 d_X4_hour_70 rfl rfl ?_
      refine x_getr (j := 0) 42 x_c4 rfl (Nat.le_of_ble_eq_true rfl) q668 rfl d_X4_hour_71 ?_
      refine x_iconst (x := 5) d_X4_hour_74 (by decide) ?_
      refine x_aload_n 2 d_X4_hour_75 rfl rfl ?_
      refine x_getr (j := 0) 42 x_c4 rfl (Nat.le_of_ble_eq_true rfl) q668 rfl d_X4_hour_76 ?_
      refine x_iconst (x := 5) d_X4_hour_79 (by decide) ?_
      refine x_ialdN (z := (upd a (1) ((a 1) + 0)) 5) 58 5 rfl rfl (by omega) (by decide) (hR59 5 (by omega)) d_X4_hour_80 ?_
      refine x_iload_n 1 d_X4_hour_81 rfl rfl ?_
      refine x_ifb_eq 89 d_X4_hour_82 (by decide) (fun c61 => ?_) (fun c61 => ?_)
      · skip
        refine x_iconst (x := 0) d_X4_hour_89 (by decide) ?_
        refine x_iadd d_X4_hour_90 ?_
        refine x_iconst (x := 0) d_X4_hour_91 (by decide) ?_
        refine x_ldc q769 d_X4_hour_92 ?_
        refine x_csip (as := [.int (((upd a (1) ((a 1) + 0)) 5) + 0), .int 0, .int 99999]) (c_X4_held l E μ58 (((upd a (1) ((a 1) + 0)) 5) + 0) 0 99999) v_X4_held q760 q759 rfl ⟨Nat.le_of_ble_eq_true rfl, Nat.le_of_ble_eq_true rfl⟩ rfl (Nat.le_of_ble_eq_true rfl) d_X4_hour_94 ?_
        refine x_iastNG 58 5 rfl rfl (by omega) (by decide) d_X4_hour_97 (fun μ62 eμ62 => ?_)
        have hR63 : MR (upd (upd a (1) ((a 1) + 0)) (5) (heldF (((upd a (1) ((a 1) + 0)) 5) + 0) 0 99999)) μ62 := MR.w hR59 eμ62
        have hF64 : ∀ id, (id ≠ 42 ∧ id ≠ 46) → μ62 id = μ id := fun id hid => (show μ62 id = μ58 id from (by rw [eμ62, upd2_ne _ _ _ (by omega)])).trans (hF60 id hid)
        have hR65 : MR a μ62 := MR.eq hR63 (fun j _ => hr_A hI j)
        have hpb : pn a = pn a := rfl
        have hb7 : a 7 = nI (pn a) := hn7
        refine x_iconst (x := 0) d_X4_hour_98 (by decide) ?_
        refine x_istore_n [(3, .int 0), (2, .int 0), (1, .int (x_b (fallB a))), (0, .ref (E.1 + 41))] d_X4_hour_99 rfl (Nat.le_of_ble_eq_true rfl) rfl ?_
        have L66 : ∀ i : Nat, i ≤ pn a → ∀ μ69 : x_Mem, (MR (moveTo a 0 i) μ69) → (∀ id, (id ≠ 42 ∧ id ≠ 46) → μ69 id = μ id) → x_G l E m_X4_hour (x_mv E m_X4_hour (x_J (fun m => MR (hourF a) m ∧ ∀ id, (id ≠ 42 ∧ id ≠ 46) → m id = μ id))) μ69 100 [(3, .int (nI i)), (2, .int 0), (0, .ref (E.1 + 41))] [] := by
          refine x_down _ (pn a) (fun i hi68 ih67 => ?_)
          intro μ69 hR1 hF1
          refine x_iload_n 0 d_X4_hour_100 rfl rfl ?_
          refine x_aload_n 2 d_X4_hour_101 rfl rfl ?_
          refine x_getr (j := 0) 42 x_c4 rfl (Nat.le_of_ble_eq_true rfl) q668 rfl d_X4_hour_102 ?_
          refine x_bipush (x := 7) d_X4_hour_105 (by decide) ?_
          refine x_ialdN (z := nI (pn a)) 58 7 rfl rfl (by omega) (by decide) ((hR1 7 (by decide)).trans ((move_lo _ _ (by decide) _).trans hb7)) d_X4_hour_107 ?_
          refine x_icmp_ge 147 d_X4_hour_108 (by decide) (fun c70 => ?_) (fun c70 => ?_)
          · skip
            have hN := x_ge (N := pn a) c70 rfl rfl (by omega) (by omega)
            have e7 : i = pn a := by omega
            subst e7
            have hR71 : MR (rideF a) μ69 := MR.eq hR1 (fun j _ => hr_eA hI (by simpa using c1) j)
            refine x_aload_n 2 d_X4_hour_147 rfl rfl ?_
            refine x_cvv (k := 41) (as := []) (c_X4_sways l E μ69 hR71 hI.ride.1) v_X4_sways w_X4_sways q831 o_M rfl ⟨Nat.le_of_ble_eq_true rfl, Nat.le_of_ble_eq_true rfl⟩ rfl (Nat.le_of_ble_eq_true rfl) d_X4_hour_148 ?_
            rintro μ72 ⟨hR73, hF74⟩
            have hF75 : ∀ id, (id ≠ 42 ∧ id ≠ 46) → μ72 id = μ id := fun id hid => (show μ72 id = μ69 id from (hF74 _ (by omega))).trans (hF1 id hid)
            refine x_aload_n 2 d_X4_hour_151 rfl rfl ?_
            refine x_getr (j := 0) 42 x_c4 rfl (Nat.le_of_ble_eq_true rfl) q668 rfl d_X4_hour_152 ?_
            refine x_iconst (x := 0) d_X4_hour_155 (by decide) ?_
            refine x_dup2 d_X4_hour_156 rfl rfl ?_
            refine x_ialdN (z := (swayF (rideF a)) 0) 58 0 rfl rfl (by omega) (by decide) (hR73 0 (by omega)) d_X4_hour_157 ?_
            refine x_iconst (x := 1) d_X4_hour_158 (by decide) ?_
            refine x_iadd d_X4_hour_159 ?_
            refine x_iastNG 58 0 rfl rfl (by omega) (by decide) d_X4_hour_160 (fun μ76 eμ76 => ?_)
            have hR77 : MR (upd (swayF (rideF a)) (0) (((swayF (rideF a)) 0) + 1)) μ76 := MR.w hR73 eμ76
            have hF78 : ∀ id, (id ≠ 42 ∧ id ≠ 46) → μ76 id = μ id := fun id hid => (show μ76 id = μ72 id from (by rw [eμ76, upd2_ne _ _ _ (by omega)])).trans (hF75 id hid)
            refine x_vret rfl d_X4_hour_161 ?_
            rw [hour_end hI] at hR77
            exact ⟨hR77, hF78⟩
          · skip
            have hN := x_lt (N := pn a) c70 rfl rfl (by omega) (by omega)
            refine x_aload_n 2 d_X4_hour_111 rfl rfl ?_
            refine x_iload_n 0 d_X4_hour_112 rfl rfl ?_
            refine x_iconst (x := 1) d_X4_hour_113 (by decide) ?_
            refine x_cvip (k := 41) (as := [.int (nI i), .int 1]) (c_X4_told l E μ69 hR1 (p := i) (w := 1) (j := 24 + 3 * i + 1) rfl (by omega)) v_X4_told w_X4_told q755 o_M rfl ⟨Nat.le_of_ble_eq_true rfl, Nat.le_of_ble_eq_true rfl⟩ rfl (Nat.le_of_ble_eq_true rfl) d_X4_hour_114 ?_
            rw [move_w]
            refine x_iconst (x := (-1)) d_X4_hour_117 (by decide) ?_
            refine x_icmp_ne 141 d_X4_hour_118 (by decide) (fun c79 => ?_) (fun c79 => ?_)
            · skip
              refine x_iinc [(3, .int (nI (i + 1))), (2, .int 0), (0, .ref (E.1 + 41))] 0 d_X4_hour_141 rfl (x_inc _) (Nat.le_of_ble_eq_true rfl) rfl ?_
              refine x_goto 100 d_X4_hour_144 (by decide) ?_
              exact ih67 (i + 1) (by omega) (by omega) μ69 (by rw [moveTo_f c79]; exact hR1) hF1
            · skip
              refine x_aload_n 2 d_X4_hour_121 rfl rfl ?_
              refine x_iload_n 0 d_X4_hour_122 rfl rfl ?_
              refine x_iconst (x := 2) d_X4_hour_123 (by decide) ?_
              refine x_aload_n 2 d_X4_hour_124 rfl rfl ?_
              refine x_iload_n 0 d_X4_hour_125 rfl rfl ?_
              refine x_iconst (x := 2) d_X4_hour_126 (by decide) ?_
              refine x_cvip (k := 41) (as := [.int (nI i), .int 2]) (c_X4_told l E μ69 hR1 (p := i) (w := 2) (j := 24 + 3 * i + 2) rfl (by omega)) v_X4_told w_X4_told q755 o_M rfl ⟨Nat.le_of_ble_eq_true rfl, Nat.le_of_ble_eq_true rfl⟩ rfl (Nat.le_of_ble_eq_true rfl) d_X4_hour_127 ?_
              rw [moveTo_hi _ _ i i (Nat.le_refl i)]
              refine x_iload_n 1 d_X4_hour_130 rfl rfl ?_
              refine x_iadd d_X4_hour_131 ?_
              refine x_iconst (x := 0) d_X4_hour_132 (by decide) ?_
              refine x_bipush (x := 99) d_X4_hour_133 (by decide) ?_
              refine x_csip (as := [.int ((a (24 + 3 * i + 2)) + 0), .int 0, .int 99]) (c_X4_held l E μ69 ((a (24 + 3 * i + 2)) + 0) 0 99) v_X4_held q760 q759 rfl ⟨Nat.le_of_ble_eq_true rfl, Nat.le_of_ble_eq_true rfl⟩ rfl (Nat.le_of_ble_eq_true rfl) d_X4_hour_135 ?_
              refine x_cvv (k := 41) (as := [.int (nI i), .int 2, .int (heldF ((a (24 + 3 * i + 2)) + 0) 0 99)]) (c_X4_put l E μ69 (p := i) (w := 2) (j := 24 + 3 * i + 2) rfl (by omega) (heldF ((a (24 + 3 * i + 2)) + 0) 0 99)) v_X4_put w_X4_put q783 o_M rfl ⟨Nat.le_of_ble_eq_true rfl, Nat.le_of_ble_eq_true rfl⟩ rfl (Nat.le_of_ble_eq_true rfl) d_X4_hour_138 ?_
              intro μ80 eμ80
              have hR81 : MR (upd (moveTo a 0 i) (24 + 3 * i + 2) (heldF ((a (24 + 3 * i + 2)) + 0) 0 99)) μ80 := MR.w hR1 eμ80
              have hF82 : ∀ id, (id ≠ 42 ∧ id ≠ 46) → μ80 id = μ id := fun id hid => (show μ80 id = μ69 id from (by rw [eμ80, upd2_ne _ _ _ (by omega)])).trans (hF1 id hid)
              refine x_iinc [(3, .int (nI (i + 1))), (2, .int 0), (0, .ref (E.1 + 41))] 0 d_X4_hour_141 rfl (x_inc _) (Nat.le_of_ble_eq_true rfl) rfl ?_
              refine x_goto 100 d_X4_hour_144 (by decide) ?_
              exact ih67 (i + 1) (by omega) (by omega) μ80 (by rw [moveTo_t c79, ← show heldF _ 0 99 = maxI 0 (minI 99 _) from held_clamp _]; exact hR81) hF82
        refine x_lv [0, 1, 3] rfl ?_
        exact L66 0 (by omega) μ62 hR65 hF64
      · skip
        exact absurd ((fallB_16 (by simpa using c1)).symm.trans c61) (by decide)
    · skip
      exact absurd c1 c57
