def m_X3_has : x_M := (yX3_has, prog_1_method_66_code, 2, (some FieldType.boolean), 0, 0)
theorem v_X3_has : x_VM m_X3_has 2 := ⟨q364, q1, by decide +kernel, by decide +kernel, by decide +kernel⟩
theorem d_X3_has_0 : x_dec m_X3_has 0 (.iload_n 0) 1 1 := ⟨by decide +kernel, rfl⟩
theorem d_X3_has_1 : x_dec m_X3_has 1 (.iload_n 1) 1 2 := ⟨by decide +kernel, rfl⟩
theorem d_X3_has_2 : x_dec m_X3_has 2 (.iushr) 1 3 := ⟨by decide +kernel, rfl⟩
theorem d_X3_has_3 : x_dec m_X3_has 3 (.iconst 1) 1 4 := ⟨by decide +kernel, rfl⟩
theorem d_X3_has_4 : x_dec m_X3_has 4 (.iand) 1 5 := ⟨by decide +kernel, rfl⟩
theorem d_X3_has_5 : x_dec m_X3_has 5 (.iconst 1) 1 6 := ⟨by decide +kernel, rfl⟩
theorem d_X3_has_6 : x_dec m_X3_has 6 (.if_icmp .ne 7) 3 9 := ⟨by decide +kernel, rfl⟩
theorem d_X3_has_9 : x_dec m_X3_has 9 (.iconst 1) 1 10 := ⟨by decide +kernel, rfl⟩
theorem d_X3_has_10 : x_dec m_X3_has 10 (.goto 4) 3 13 := ⟨by decide +kernel, rfl⟩
theorem d_X3_has_13 : x_dec m_X3_has 13 (.iconst 0) 1 14 := ⟨by decide +kernel, rfl⟩
theorem d_X3_has_14 : x_dec m_X3_has 14 (.ireturn) 1 15 := ⟨by decide +kernel, rfl⟩
set_option maxHeartbeats 4000000 in
set_option maxRecDepth 100000 in
theorem c_X3_has (l : Launch) (E : x_E) (μ : x_Mem) {n p : Nat} (hn : n < 65536) (hp : p < 32) : x_Met l m_X3_has E [.int (nI n), .int (nI p)] μ (x_I (fun z m => z = x_b (n.testBit p) ∧ m = μ)) := by
  refine x_enter (lv := [(0, .int (nI n)), (1, .int (nI p))]) (by decide +kernel) (Nat.le_of_ble_eq_true rfl) rfl ?_
  refine x_iload_n 0 d_X3_has_0 rfl rfl ?_
  refine x_iload_n 1 d_X3_has_1 rfl rfl ?_
  refine x_iushr d_X3_has_2 ?_
  refine x_iconst (x := 1) d_X3_has_3 (by decide) ?_
  refine x_iand d_X3_has_4 ?_
  refine x_iconst (x := 1) d_X3_has_5 (by decide) ?_
  refine x_icmp_ne 13 d_X3_has_6 (by decide) (fun c1 => ?_) (fun c1 => ?_)
  · skip
    refine x_iconst (x := 0) d_X3_has_13 (by decide) ?_
    refine x_zret0 rfl d_X3_has_14 ?_
    exact ⟨by rw [Bool.eq_false_iff.mpr (fun z => c1 ((hasN hn hp).mpr z))], rfl⟩
  · skip
    refine x_iconst (x := 1) d_X3_has_9 (by decide) ?_
    refine x_goto 14 d_X3_has_10 (by decide) ?_
    refine x_zret1 rfl d_X3_has_14 ?_
    exact ⟨by rw [(hasN hn hp).mp c1], rfl⟩
def m_X0_moveBeliefsAboard : x_M := (yX0_moveBeliefsAboard, prog_2_method_18_code, 3, none, 1, 26)
theorem v_X0_moveBeliefsAboard : x_VM m_X0_moveBeliefsAboard 1 := ⟨q278, q2, by decide +kernel, by decide +kernel, by decide +kernel⟩
theorem w_X0_moveBeliefsAboard : x_VI m_X0_moveBeliefsAboard := ⟨q277, qs3⟩
theorem d_X0_moveBeliefsAboard_0 : x_dec m_X0_moveBeliefsAboard 0 (.iconst 0) 1 1 := ⟨by decide +kernel, rfl⟩
theorem d_X0_moveBeliefsAboard_1 : x_dec m_X0_moveBeliefsAboard 1 (.istore_n 2) 1 2 := ⟨by decide +kernel, rfl⟩
theorem d_X0_moveBeliefsAboard_2 : x_dec m_X0_moveBeliefsAboard 2 (.iload_n 2) 1 3 := ⟨by decide +kernel, rfl⟩
theorem d_X0_moveBeliefsAboard_3 : x_dec m_X0_moveBeliefsAboard 3 (.aload_n 0) 1 4 := ⟨by decide +kernel, rfl⟩
theorem d_X0_moveBeliefsAboard_4 : x_dec m_X0_moveBeliefsAboard 4 (.getfield 27) 3 7 := ⟨by decide +kernel, rfl⟩
theorem d_X0_moveBeliefsAboard_7 : x_dec m_X0_moveBeliefsAboard 7 (.if_icmp .ge 42) 3 10 := ⟨by decide +kernel, rfl⟩
theorem d_X0_moveBeliefsAboard_10 : x_dec m_X0_moveBeliefsAboard 10 (.aload_n 0) 1 11 := ⟨by decide +kernel, rfl⟩
theorem d_X0_moveBeliefsAboard_11 : x_dec m_X0_moveBeliefsAboard 11 (.getfield 18) 3 14 := ⟨by decide +kernel, rfl⟩
theorem d_X0_moveBeliefsAboard_14 : x_dec m_X0_moveBeliefsAboard 14 (.iload_n 2) 1 15 := ⟨by decide +kernel, rfl⟩
theorem d_X0_moveBeliefsAboard_15 : x_dec m_X0_moveBeliefsAboard 15 (.iaload) 1 16 := ⟨by decide +kernel, rfl⟩
theorem d_X0_moveBeliefsAboard_16 : x_dec m_X0_moveBeliefsAboard 16 (.iconst (-1)) 1 17 := ⟨by decide +kernel, rfl⟩
theorem d_X0_moveBeliefsAboard_17 : x_dec m_X0_moveBeliefsAboard 17 (.if_icmp .ne 26) 3 20 := ⟨by decide +kernel, rfl⟩
theorem d_X0_moveBeliefsAboard_20 : x_dec m_X0_moveBeliefsAboard 20 (.aload_n 0) 1 21 := ⟨by decide +kernel, rfl⟩
theorem d_X0_moveBeliefsAboard_21 : x_dec m_X0_moveBeliefsAboard 21 (.getfield 21) 3 24 := ⟨by decide +kernel, rfl⟩
theorem d_X0_moveBeliefsAboard_24 : x_dec m_X0_moveBeliefsAboard 24 (.iload_n 2) 1 25 := ⟨by decide +kernel, rfl⟩
theorem d_X0_moveBeliefsAboard_25 : x_dec m_X0_moveBeliefsAboard 25 (.iconst 0) 1 26 := ⟨by decide +kernel, rfl⟩
theorem d_X0_moveBeliefsAboard_26 : x_dec m_X0_moveBeliefsAboard 26 (.bipush 99) 2 28 := ⟨by decide +kernel, rfl⟩
theorem d_X0_moveBeliefsAboard_28 : x_dec m_X0_moveBeliefsAboard 28 (.aload_n 0) 1 29 := ⟨by decide +kernel, rfl⟩
theorem d_X0_moveBeliefsAboard_29 : x_dec m_X0_moveBeliefsAboard 29 (.getfield 21) 3 32 := ⟨by decide +kernel, rfl⟩
theorem d_X0_moveBeliefsAboard_32 : x_dec m_X0_moveBeliefsAboard 32 (.iload_n 2) 1 33 := ⟨by decide +kernel, rfl⟩
theorem d_X0_moveBeliefsAboard_33 : x_dec m_X0_moveBeliefsAboard 33 (.iaload) 1 34 := ⟨by decide +kernel, rfl⟩
theorem d_X0_moveBeliefsAboard_34 : x_dec m_X0_moveBeliefsAboard 34 (.iload_n 1) 1 35 := ⟨by decide +kernel, rfl⟩
theorem d_X0_moveBeliefsAboard_35 : x_dec m_X0_moveBeliefsAboard 35 (.iadd) 1 36 := ⟨by decide +kernel, rfl⟩
theorem d_X0_moveBeliefsAboard_36 : x_dec m_X0_moveBeliefsAboard 36 (.invokestatic 77) 3 39 := ⟨by decide +kernel, rfl⟩
theorem d_X0_moveBeliefsAboard_39 : x_dec m_X0_moveBeliefsAboard 39 (.invokestatic 90) 3 42 := ⟨by decide +kernel, rfl⟩
theorem d_X0_moveBeliefsAboard_42 : x_dec m_X0_moveBeliefsAboard 42 (.iastore) 1 43 := ⟨by decide +kernel, rfl⟩
theorem d_X0_moveBeliefsAboard_43 : x_dec m_X0_moveBeliefsAboard 43 (.iinc 2 1) 3 46 := ⟨by decide +kernel, rfl⟩
theorem d_X0_moveBeliefsAboard_46 : x_dec m_X0_moveBeliefsAboard 46 (.goto (-44)) 3 49 := ⟨by decide +kernel, rfl⟩
theorem d_X0_moveBeliefsAboard_49 : x_dec m_X0_moveBeliefsAboard 49 (.return_) 1 50 := ⟨by decide +kernel, rfl⟩
set_option maxHeartbeats 4000000 in
set_option maxRecDepth 100000 in
theorem c_X0_moveBeliefsAboard (l : Launch) (E : x_E) (μ : x_Mem) {a : x_St} {o : Nat} (ho : x_pr o) (hR : PR a o μ) (hI : WF a) (b : Int32) : x_Met l m_X0_moveBeliefsAboard E [.ref (E.1 + o), .int b] μ (x_J (fun m => PR (moveTo a b (pn a)) o m ∧ ∀ id, id ≠ o + 4 → m id = μ id)) := by
  have ho1 : o = 1 ∨ o = 10 ∨ o = 19 := ho
  have hn7 := hI.2.1
  have hpn := hI.1
  refine x_enter (lv := [(0, .ref (E.1 + o)), (1, .int b)]) (by decide +kernel) (Nat.le_of_ble_eq_true rfl) rfl ?_
  refine x_iconst (x := 0) d_X0_moveBeliefsAboard_0 (by decide) ?_
  refine x_istore_n [(2, .int 0), (0, .ref (E.1 + o)), (1, .int b)] d_X0_moveBeliefsAboard_1 rfl (Nat.le_of_ble_eq_true rfl) rfl ?_
  have L1 : ∀ i : Nat, i ≤ pn a → ∀ μ4 : x_Mem, (PR (moveTo a b i) o μ4) → (∀ id, id ≠ o + 4 → μ4 id = μ id) → x_G l E m_X0_moveBeliefsAboard (x_mv E m_X0_moveBeliefsAboard (x_J (fun m => PR (moveTo a b (pn a)) o m ∧ ∀ id, id ≠ o + 4 → m id = μ id))) μ4 2 [(2, .int (nI i)), (0, .ref (E.1 + o)), (1, .int b)] [] := by
    refine x_down _ (pn a) (fun i hi3 ih2 => ?_)
    intro μ4 hR1 hF1
    refine x_iload_n 0 d_X0_moveBeliefsAboard_2 rfl rfl ?_
    refine x_aload_n 1 d_X0_moveBeliefsAboard_3 rfl rfl ?_
    refine x_getiV (j := 5) (z := nI (pn a)) x_c0 (p_kd ho) (Nat.le_of_ble_eq_true rfl) q42 (p_n5 ho) (((PR.f5 hR1).trans ((moveTo_same a b i (by omega)) 7 (by omega))).trans hn7) d_X0_moveBeliefsAboard_4 ?_
    refine x_icmp_ge 49 d_X0_moveBeliefsAboard_7 (by decide) (fun c5 => ?_) (fun c5 => ?_)
    · skip
      have hN := x_ge c5 rfl rfl (by omega) (by omega)
      refine x_vret rfl d_X0_moveBeliefsAboard_49 ?_
      have e9 : i = pn a := by omega
      subst e9
      exact ⟨hR1, hF1⟩
    · skip
      have hN := x_lt c5 rfl rfl (by omega) (by omega)
      refine x_aload_n 1 d_X0_moveBeliefsAboard_10 rfl rfl ?_
      refine x_getr (j := 2) (o + 3) x_c0 (p_kd ho) (Nat.le_of_ble_eq_true rfl) q36 (p_f2 ho) d_X0_moveBeliefsAboard_11 ?_
      refine x_iload_n 0 d_X0_moveBeliefsAboard_14 rfl rfl ?_
      refine x_ialdN (z := a (24 + 3 * i + 1)) 8 i (p_k3 ho) (p_l3 ho) (by omega) (by decide) ((PR.wh hR1 i (by omega)).trans ((moveTo_same a b i (by omega)) _ (by omega))) d_X0_moveBeliefsAboard_15 ?_
      refine x_iconst (x := (-1)) d_X0_moveBeliefsAboard_16 (by decide) ?_
      refine x_icmp_ne 43 d_X0_moveBeliefsAboard_17 (by decide) (fun c6 => ?_) (fun c6 => ?_)
      · skip
        refine x_iinc [(2, .int (nI (i + 1))), (0, .ref (E.1 + o)), (1, .int b)] 0 d_X0_moveBeliefsAboard_43 rfl (x_inc _) (Nat.le_of_ble_eq_true rfl) rfl ?_
        refine x_goto 2 d_X0_moveBeliefsAboard_46 (by decide) ?_
        exact ih2 (i + 1) (by omega) (by omega) μ4 (by rw [moveTo_f c6]; exact hR1) hF1
      · skip
        refine x_aload_n 1 d_X0_moveBeliefsAboard_20 rfl rfl ?_
        refine x_getr (j := 3) (o + 4) x_c0 (p_kd ho) (Nat.le_of_ble_eq_true rfl) q38 (p_f3 ho) d_X0_moveBeliefsAboard_21 ?_
        refine x_iload_n 0 d_X0_moveBeliefsAboard_24 rfl rfl ?_
        refine x_iconst (x := 0) d_X0_moveBeliefsAboard_25 (by decide) ?_
        refine x_bipush (x := 99) d_X0_moveBeliefsAboard_26 (by decide) ?_
        refine x_aload_n 1 d_X0_moveBeliefsAboard_28 rfl rfl ?_
        refine x_getr (j := 3) (o + 4) x_c0 (p_kd ho) (Nat.le_of_ble_eq_true rfl) q38 (p_f3 ho) d_X0_moveBeliefsAboard_29 ?_
        refine x_iload_n 0 d_X0_moveBeliefsAboard_32 rfl rfl ?_
        refine x_ialdN (z := a (24 + 3 * i + 2)) 8 i (p_k4 ho) (p_l4 ho) (by omega) (by decide) ((PR.bl hR1 i (by omega)).trans (moveTo_hi a b i i (Nat.le_refl i))) d_X0_moveBeliefsAboard_33 ?_
        refine x_iload_n 2 d_X0_moveBeliefsAboard_34 rfl rfl ?_
        refine x_iadd d_X0_moveBeliefsAboard_35 ?_
        refine x_min q203 q204 q205 q7 (Nat.le_of_ble_eq_true rfl) (Nat.le_of_ble_eq_true rfl) d_X0_moveBeliefsAboard_36 ?_
        refine x_max q210 q211 q212 q7 (Nat.le_of_ble_eq_true rfl) (Nat.le_of_ble_eq_true rfl) d_X0_moveBeliefsAboard_39 ?_
        refine x_iastNG 8 i (p_k4 ho) (p_l4 ho) (by omega) (by decide) d_X0_moveBeliefsAboard_42 (fun μ7 eμ7 => ?_)
        have hR8 : PR (upd (moveTo a b i) (24 + 3 * i + 2) (maxI 0 (minI 99 ((a (24 + 3 * i + 2)) + b)))) o μ7 := PR.a4 hR1 eμ7 (by omega)
        have hF9 : ∀ id, id ≠ o + 4 → μ7 id = μ id := fun id hid => (show μ7 id = μ4 id from (by rw [eμ7, upd2_ne _ _ _ (by omega)])).trans (hF1 id hid)
        refine x_iinc [(2, .int (nI (i + 1))), (0, .ref (E.1 + o)), (1, .int b)] 0 d_X0_moveBeliefsAboard_43 rfl (x_inc _) (Nat.le_of_ble_eq_true rfl) rfl ?_
        refine x_goto 2 d_X0_moveBeliefsAboard_46 (by decide) ?_
        exact ih2 (i + 1) (by omega) (by omega) μ7 (by rw [moveTo_t c6]; exact hR8) hF9
  exact L1 0 (by omega) μ hR (fun _ _ => rfl)
def m_X0_sway : x_M := (yX0_sway, prog_2_method_19_code, 4, none, 0, 0)
theorem v_X0_sway : x_VM m_X0_sway 0 := ⟨q283, q2, by decide +kernel, by decide +kernel, by decide +kernel⟩
theorem w_X0_sway : x_VI m_X0_sway := ⟨q282, qs4⟩
theorem d_X0_sway_0 : x_dec m_X0_sway 0 (.iconst 0) 1 1 := ⟨by decide +kernel, rfl⟩
theorem d_X0_sway_1 : x_dec m_X0_sway 1 (.istore_n 1) 1 2 := ⟨by decide +kernel, rfl⟩
theorem d_X0_sway_2 : x_dec m_X0_sway 2 (.iload_n 1) 1 3 := ⟨by decide +kernel, rfl⟩
theorem d_X0_sway_3 : x_dec m_X0_sway 3 (.aload_n 0) 1 4 := ⟨by decide +kernel, rfl⟩
theorem d_X0_sway_4 : x_dec m_X0_sway 4 (.getfield 27) 3 7 := ⟨by decide +kernel, rfl⟩
theorem d_X0_sway_7 : x_dec m_X0_sway 7 (.if_icmp .ge 37) 3 10 := ⟨by decide +kernel, rfl⟩
theorem d_X0_sway_10 : x_dec m_X0_sway 10 (.aload_n 0) 1 11 := ⟨by decide +kernel, rfl⟩
theorem d_X0_sway_11 : x_dec m_X0_sway 11 (.getfield 55) 3 14 := ⟨by decide +kernel, rfl⟩
theorem d_X0_sway_14 : x_dec m_X0_sway 14 (.aload_n 0) 1 15 := ⟨by decide +kernel, rfl⟩
theorem d_X0_sway_15 : x_dec m_X0_sway 15 (.getfield 18) 3 18 := ⟨by decide +kernel, rfl⟩
theorem d_X0_sway_18 : x_dec m_X0_sway 18 (.iload_n 1) 1 19 := ⟨by decide +kernel, rfl⟩
theorem d_X0_sway_19 : x_dec m_X0_sway 19 (.iaload) 1 20 := ⟨by decide +kernel, rfl⟩
theorem d_X0_sway_20 : x_dec m_X0_sway 20 (.iconst 1) 1 21 := ⟨by decide +kernel, rfl⟩
theorem d_X0_sway_21 : x_dec m_X0_sway 21 (.iadd) 1 22 := ⟨by decide +kernel, rfl⟩
theorem d_X0_sway_22 : x_dec m_X0_sway 22 (.iconst 0) 1 23 := ⟨by decide +kernel, rfl⟩
theorem d_X0_sway_23 : x_dec m_X0_sway 23 (.iastore) 1 24 := ⟨by decide +kernel, rfl⟩
theorem d_X0_sway_24 : x_dec m_X0_sway 24 (.aload_n 0) 1 25 := ⟨by decide +kernel, rfl⟩
theorem d_X0_sway_25 : x_dec m_X0_sway 25 (.getfield 58) 3 28 := ⟨by decide +kernel, rfl⟩
theorem d_X0_sway_28 : x_dec m_X0_sway 28 (.aload_n 0) 1 29 := ⟨by decide +kernel, rfl⟩
theorem d_X0_sway_29 : x_dec m_X0_sway 29 (.getfield 18) 3 32 := ⟨by decide +kernel, rfl⟩
theorem d_X0_sway_32 : x_dec m_X0_sway 32 (.iload_n 1) 1 33 := ⟨by decide +kernel, rfl⟩
theorem d_X0_sway_33 : x_dec m_X0_sway 33 (.iaload) 1 34 := ⟨by decide +kernel, rfl⟩
theorem d_X0_sway_34 : x_dec m_X0_sway 34 (.iconst 1) 1 35 := ⟨by decide +kernel, rfl⟩
theorem d_X0_sway_35 : x_dec m_X0_sway 35 (.iadd) 1 36 := ⟨by decide +kernel, rfl⟩
theorem d_X0_sway_36 : x_dec m_X0_sway 36 (.iconst 0) 1 37 := ⟨by decide +kernel, rfl⟩
theorem d_X0_sway_37 : x_dec m_X0_sway 37 (.iastore) 1 38 := ⟨by decide +kernel, rfl⟩
theorem d_X0_sway_38 : x_dec m_X0_sway 38 (.iinc 1 1) 3 41 := ⟨by decide +kernel, rfl⟩
theorem d_X0_sway_41 : x_dec m_X0_sway 41 (.goto (-39)) 3 44 := ⟨by decide +kernel, rfl⟩
theorem d_X0_sway_44 : x_dec m_X0_sway 44 (.iconst 0) 1 45 := ⟨by decide +kernel, rfl⟩
theorem d_X0_sway_45 : x_dec m_X0_sway 45 (.istore_n 1) 1 46 := ⟨by decide +kernel, rfl⟩
theorem d_X0_sway_46 : x_dec m_X0_sway 46 (.iload_n 1) 1 47 := ⟨by decide +kernel, rfl⟩
theorem d_X0_sway_47 : x_dec m_X0_sway 47 (.aload_n 0) 1 48 := ⟨by decide +kernel, rfl⟩
theorem d_X0_sway_48 : x_dec m_X0_sway 48 (.getfield 27) 3 51 := ⟨by decide +kernel, rfl⟩
theorem d_X0_sway_51 : x_dec m_X0_sway 51 (.if_icmp .ge 48) 3 54 := ⟨by decide +kernel, rfl⟩
theorem d_X0_sway_54 : x_dec m_X0_sway 54 (.aload_n 0) 1 55 := ⟨by decide +kernel, rfl⟩
theorem d_X0_sway_55 : x_dec m_X0_sway 55 (.getfield 55) 3 58 := ⟨by decide +kernel, rfl⟩
theorem d_X0_sway_58 : x_dec m_X0_sway 58 (.aload_n 0) 1 59 := ⟨by decide +kernel, rfl⟩
theorem d_X0_sway_59 : x_dec m_X0_sway 59 (.getfield 18) 3 62 := ⟨by decide +kernel, rfl⟩
theorem d_X0_sway_62 : x_dec m_X0_sway 62 (.iload_n 1) 1 63 := ⟨by decide +kernel, rfl⟩
theorem d_X0_sway_63 : x_dec m_X0_sway 63 (.iaload) 1 64 := ⟨by decide +kernel, rfl⟩
theorem d_X0_sway_64 : x_dec m_X0_sway 64 (.iconst 1) 1 65 := ⟨by decide +kernel, rfl⟩
theorem d_X0_sway_65 : x_dec m_X0_sway 65 (.iadd) 1 66 := ⟨by decide +kernel, rfl⟩
theorem d_X0_sway_66 : x_dec m_X0_sway 66 (.dup2) 1 67 := ⟨by decide +kernel, rfl⟩
theorem d_X0_sway_67 : x_dec m_X0_sway 67 (.iaload) 1 68 := ⟨by decide +kernel, rfl⟩
theorem d_X0_sway_68 : x_dec m_X0_sway 68 (.aload_n 0) 1 69 := ⟨by decide +kernel, rfl⟩
theorem d_X0_sway_69 : x_dec m_X0_sway 69 (.getfield 21) 3 72 := ⟨by decide +kernel, rfl⟩
theorem d_X0_sway_72 : x_dec m_X0_sway 72 (.iload_n 1) 1 73 := ⟨by decide +kernel, rfl⟩
theorem d_X0_sway_73 : x_dec m_X0_sway 73 (.iaload) 1 74 := ⟨by decide +kernel, rfl⟩
theorem d_X0_sway_74 : x_dec m_X0_sway 74 (.iadd) 1 75 := ⟨by decide +kernel, rfl⟩
theorem d_X0_sway_75 : x_dec m_X0_sway 75 (.iastore) 1 76 := ⟨by decide +kernel, rfl⟩
theorem d_X0_sway_76 : x_dec m_X0_sway 76 (.aload_n 0) 1 77 := ⟨by decide +kernel, rfl⟩
theorem d_X0_sway_77 : x_dec m_X0_sway 77 (.getfield 58) 3 80 := ⟨by decide +kernel, rfl⟩
theorem d_X0_sway_80 : x_dec m_X0_sway 80 (.aload_n 0) 1 81 := ⟨by decide +kernel, rfl⟩
theorem d_X0_sway_81 : x_dec m_X0_sway 81 (.getfield 18) 3 84 := ⟨by decide +kernel, rfl⟩
theorem d_X0_sway_84 : x_dec m_X0_sway 84 (.iload_n 1) 1 85 := ⟨by decide +kernel, rfl⟩
theorem d_X0_sway_85 : x_dec m_X0_sway 85 (.iaload) 1 86 := ⟨by decide +kernel, rfl⟩
theorem d_X0_sway_86 : x_dec m_X0_sway 86 (.iconst 1) 1 87 := ⟨by decide +kernel, rfl⟩
theorem d_X0_sway_87 : x_dec m_X0_sway 87 (.iadd) 1 88 := ⟨by decide +kernel, rfl⟩
theorem d_X0_sway_88 : x_dec m_X0_sway 88 (.dup2) 1 89 := ⟨by decide +kernel, rfl⟩
theorem d_X0_sway_89 : x_dec m_X0_sway 89 (.iaload) 1 90 := ⟨by decide +kernel, rfl⟩
theorem d_X0_sway_90 : x_dec m_X0_sway 90 (.iconst 1) 1 91 := ⟨by decide +kernel, rfl⟩
theorem d_X0_sway_91 : x_dec m_X0_sway 91 (.iadd) 1 92 := ⟨by decide +kernel, rfl⟩
theorem d_X0_sway_92 : x_dec m_X0_sway 92 (.iastore) 1 93 := ⟨by decide +kernel, rfl⟩
theorem d_X0_sway_93 : x_dec m_X0_sway 93 (.iinc 1 1) 3 96 := ⟨by decide +kernel, rfl⟩
theorem d_X0_sway_96 : x_dec m_X0_sway 96 (.goto (-50)) 3 99 := ⟨by decide +kernel, rfl⟩
theorem d_X0_sway_99 : x_dec m_X0_sway 99 (.iconst 0) 1 100 := ⟨by decide +kernel, rfl⟩
theorem d_X0_sway_100 : x_dec m_X0_sway 100 (.istore_n 1) 1 101 := ⟨by decide +kernel, rfl⟩
theorem d_X0_sway_101 : x_dec m_X0_sway 101 (.iload_n 1) 1 102 := ⟨by decide +kernel, rfl⟩
theorem d_X0_sway_102 : x_dec m_X0_sway 102 (.aload_n 0) 1 103 := ⟨by decide +kernel, rfl⟩
theorem d_X0_sway_103 : x_dec m_X0_sway 103 (.getfield 27) 3 106 := ⟨by decide +kernel, rfl⟩
theorem d_X0_sway_106 : x_dec m_X0_sway 106 (.if_icmp .ge 95) 3 109 := ⟨by decide +kernel, rfl⟩
theorem d_X0_sway_109 : x_dec m_X0_sway 109 (.aload_n 0) 1 110 := ⟨by decide +kernel, rfl⟩
theorem d_X0_sway_110 : x_dec m_X0_sway 110 (.getfield 58) 3 113 := ⟨by decide +kernel, rfl⟩
theorem d_X0_sway_113 : x_dec m_X0_sway 113 (.aload_n 0) 1 114 := ⟨by decide +kernel, rfl⟩
theorem d_X0_sway_114 : x_dec m_X0_sway 114 (.getfield 18) 3 117 := ⟨by decide +kernel, rfl⟩
theorem d_X0_sway_117 : x_dec m_X0_sway 117 (.iload_n 1) 1 118 := ⟨by decide +kernel, rfl⟩
theorem d_X0_sway_118 : x_dec m_X0_sway 118 (.iaload) 1 119 := ⟨by decide +kernel, rfl⟩
theorem d_X0_sway_119 : x_dec m_X0_sway 119 (.iconst 1) 1 120 := ⟨by decide +kernel, rfl⟩
theorem d_X0_sway_120 : x_dec m_X0_sway 120 (.iadd) 1 121 := ⟨by decide +kernel, rfl⟩
theorem d_X0_sway_121 : x_dec m_X0_sway 121 (.iaload) 1 122 := ⟨by decide +kernel, rfl⟩
theorem d_X0_sway_122 : x_dec m_X0_sway 122 (.istore_n 2) 1 123 := ⟨by decide +kernel, rfl⟩
theorem d_X0_sway_123 : x_dec m_X0_sway 123 (.iload_n 2) 1 124 := ⟨by decide +kernel, rfl⟩
theorem d_X0_sway_124 : x_dec m_X0_sway 124 (.ifCond .le 21) 3 127 := ⟨by decide +kernel, rfl⟩
theorem d_X0_sway_127 : x_dec m_X0_sway 127 (.aload_n 0) 1 128 := ⟨by decide +kernel, rfl⟩
theorem d_X0_sway_128 : x_dec m_X0_sway 128 (.getfield 55) 3 131 := ⟨by decide +kernel, rfl⟩
theorem d_X0_sway_131 : x_dec m_X0_sway 131 (.aload_n 0) 1 132 := ⟨by decide +kernel, rfl⟩
theorem d_X0_sway_132 : x_dec m_X0_sway 132 (.getfield 18) 3 135 := ⟨by decide +kernel, rfl⟩
theorem d_X0_sway_135 : x_dec m_X0_sway 135 (.iload_n 1) 1 136 := ⟨by decide +kernel, rfl⟩
theorem d_X0_sway_136 : x_dec m_X0_sway 136 (.iaload) 1 137 := ⟨by decide +kernel, rfl⟩
theorem d_X0_sway_137 : x_dec m_X0_sway 137 (.iconst 1) 1 138 := ⟨by decide +kernel, rfl⟩
theorem d_X0_sway_138 : x_dec m_X0_sway 138 (.iadd) 1 139 := ⟨by decide +kernel, rfl⟩
theorem d_X0_sway_139 : x_dec m_X0_sway 139 (.iaload) 1 140 := ⟨by decide +kernel, rfl⟩
theorem d_X0_sway_140 : x_dec m_X0_sway 140 (.iload_n 2) 1 141 := ⟨by decide +kernel, rfl⟩
theorem d_X0_sway_141 : x_dec m_X0_sway 141 (.idiv) 1 142 := ⟨by decide +kernel, rfl⟩
theorem d_X0_sway_142 : x_dec m_X0_sway 142 (.goto 9) 3 145 := ⟨by decide +kernel, rfl⟩
theorem d_X0_sway_145 : x_dec m_X0_sway 145 (.aload_n 0) 1 146 := ⟨by decide +kernel, rfl⟩
theorem d_X0_sway_146 : x_dec m_X0_sway 146 (.getfield 21) 3 149 := ⟨by decide +kernel, rfl⟩
theorem d_X0_sway_149 : x_dec m_X0_sway 149 (.iload_n 1) 1 150 := ⟨by decide +kernel, rfl⟩
theorem d_X0_sway_150 : x_dec m_X0_sway 150 (.iaload) 1 151 := ⟨by decide +kernel, rfl⟩
theorem d_X0_sway_151 : x_dec m_X0_sway 151 (.istore_n 3) 1 152 := ⟨by decide +kernel, rfl⟩
theorem d_X0_sway_152 : x_dec m_X0_sway 152 (.iload_n 3) 1 153 := ⟨by decide +kernel, rfl⟩
theorem d_X0_sway_153 : x_dec m_X0_sway 153 (.aload_n 0) 1 154 := ⟨by decide +kernel, rfl⟩
theorem d_X0_sway_154 : x_dec m_X0_sway 154 (.getfield 21) 3 157 := ⟨by decide +kernel, rfl⟩
theorem d_X0_sway_157 : x_dec m_X0_sway 157 (.iload_n 1) 1 158 := ⟨by decide +kernel, rfl⟩
theorem d_X0_sway_158 : x_dec m_X0_sway 158 (.iaload) 1 159 := ⟨by decide +kernel, rfl⟩
theorem d_X0_sway_159 : x_dec m_X0_sway 159 (.if_icmp .le 16) 3 162 := ⟨by decide +kernel, rfl⟩
theorem d_X0_sway_162 : x_dec m_X0_sway 162 (.aload_n 0) 1 163 := ⟨by decide +kernel, rfl⟩
theorem d_X0_sway_163 : x_dec m_X0_sway 163 (.getfield 21) 3 166 := ⟨by decide +kernel, rfl⟩
theorem d_X0_sway_166 : x_dec m_X0_sway 166 (.iload_n 1) 1 167 := ⟨by decide +kernel, rfl⟩
theorem d_X0_sway_167 : x_dec m_X0_sway 167 (.dup2) 1 168 := ⟨by decide +kernel, rfl⟩
theorem d_X0_sway_168 : x_dec m_X0_sway 168 (.iaload) 1 169 := ⟨by decide +kernel, rfl⟩
theorem d_X0_sway_169 : x_dec m_X0_sway 169 (.iconst 1) 1 170 := ⟨by decide +kernel, rfl⟩
theorem d_X0_sway_170 : x_dec m_X0_sway 170 (.iadd) 1 171 := ⟨by decide +kernel, rfl⟩
theorem d_X0_sway_171 : x_dec m_X0_sway 171 (.iastore) 1 172 := ⟨by decide +kernel, rfl⟩
theorem d_X0_sway_172 : x_dec m_X0_sway 172 (.goto 23) 3 175 := ⟨by decide +kernel, rfl⟩
theorem d_X0_sway_175 : x_dec m_X0_sway 175 (.iload_n 3) 1 176 := ⟨by decide +kernel, rfl⟩
theorem d_X0_sway_176 : x_dec m_X0_sway 176 (.aload_n 0) 1 177 := ⟨by decide +kernel, rfl⟩
theorem d_X0_sway_177 : x_dec m_X0_sway 177 (.getfield 21) 3 180 := ⟨by decide +kernel, rfl⟩
theorem d_X0_sway_180 : x_dec m_X0_sway 180 (.iload_n 1) 1 181 := ⟨by decide +kernel, rfl⟩
theorem d_X0_sway_181 : x_dec m_X0_sway 181 (.iaload) 1 182 := ⟨by decide +kernel, rfl⟩
theorem d_X0_sway_182 : x_dec m_X0_sway 182 (.if_icmp .ge 13) 3 185 := ⟨by decide +kernel, rfl⟩
theorem d_X0_sway_185 : x_dec m_X0_sway 185 (.aload_n 0) 1 186 := ⟨by decide +kernel, rfl⟩
theorem d_X0_sway_186 : x_dec m_X0_sway 186 (.getfield 21) 3 189 := ⟨by decide +kernel, rfl⟩
theorem d_X0_sway_189 : x_dec m_X0_sway 189 (.iload_n 1) 1 190 := ⟨by decide +kernel, rfl⟩
theorem d_X0_sway_190 : x_dec m_X0_sway 190 (.dup2) 1 191 := ⟨by decide +kernel, rfl⟩
theorem d_X0_sway_191 : x_dec m_X0_sway 191 (.iaload) 1 192 := ⟨by decide +kernel, rfl⟩
theorem d_X0_sway_192 : x_dec m_X0_sway 192 (.iconst 1) 1 193 := ⟨by decide +kernel, rfl⟩
theorem d_X0_sway_193 : x_dec m_X0_sway 193 (.isub) 1 194 := ⟨by decide +kernel, rfl⟩
theorem d_X0_sway_194 : x_dec m_X0_sway 194 (.iastore) 1 195 := ⟨by decide +kernel, rfl⟩
theorem d_X0_sway_195 : x_dec m_X0_sway 195 (.iinc 1 1) 3 198 := ⟨by decide +kernel, rfl⟩
theorem d_X0_sway_198 : x_dec m_X0_sway 198 (.goto (-97)) 3 201 := ⟨by decide +kernel, rfl⟩
theorem d_X0_sway_201 : x_dec m_X0_sway 201 (.return_) 1 202 := ⟨by decide +kernel, rfl⟩
set_option maxHeartbeats 4000000 in
set_option maxRecDepth 100000 in
theorem c_X0_sway (l : Launch) (E : x_E) (μ : x_Mem) {a : x_St} {o : Nat} (ho : x_pr o) (hR : PR a o μ) (hI : WF a)  : x_Met l m_X0_sway E [.ref (E.1 + o)] μ (x_J (fun m => PR (swayF a) o m ∧ ∀ id, id ≠ o + 4 ∧ id ≠ o + 7 ∧ id ≠ o + 8 → m id = μ id)) := by
  have ho1 : o = 1 ∨ o = 10 ∨ o = 19 := ho
  have hn7 := hI.2.1
  have hpn := hI.1
  have hpl : ∀ q, q < 8 → plc a q < 18 := fun q hq => plc_lt hI hq
  refine x_enter (lv := [(0, .ref (E.1 + o))]) (by decide +kernel) (Nat.le_of_ble_eq_true rfl) rfl ?_
  refine x_iconst (x := 0) d_X0_sway_0 (by decide) ?_
  refine x_istore_n [(1, .int 0), (0, .ref (E.1 + o))] d_X0_sway_1 rfl (Nat.le_of_ble_eq_true rfl) rfl ?_
  have L1 : ∀ i : Nat, i ≤ pn a → ∀ μ4 : x_Mem, (PR a o μ4) → (∀ id, id ≠ o + 4 ∧ id ≠ o + 7 ∧ id ≠ o + 8 → μ4 id = μ id) → (∀ q, q < i → μ4 (o + 7) (plc a q) = 0 ∧ μ4 (o + 8) (plc a q) = 0) → x_G l E m_X0_sway (x_mv E m_X0_sway (x_J (fun m => PR (swayF a) o m ∧ ∀ id, id ≠ o + 4 ∧ id ≠ o + 7 ∧ id ≠ o + 8 → m id = μ id))) μ4 2 [(1, .int (nI i)), (0, .ref (E.1 + o))] [] := by
    refine x_down _ (pn a) (fun i hi3 ih2 => ?_)
    intro μ4 hR1 hF1 hz
    refine x_iload_n 0 d_X0_sway_2 rfl rfl ?_
    refine x_aload_n 1 d_X0_sway_3 rfl rfl ?_
    refine x_getiV (j := 5) (z := nI (pn a)) x_c0 (p_kd ho) (Nat.le_of_ble_eq_true rfl) q42 (p_n5 ho) ((PR.f5 hR1).trans hn7) d_X0_sway_4 ?_
    refine x_icmp_ge 44 d_X0_sway_7 (by decide) (fun c5 => ?_) (fun c5 => ?_)
    · skip
      have hN := x_ge c5 rfl rfl (by omega) (by omega)
      refine x_iconst (x := 0) d_X0_sway_44 (by decide) ?_
      refine x_istore_n [(1, .int 0), (0, .ref (E.1 + o))] d_X0_sway_45 rfl (Nat.le_of_ble_eq_true rfl) rfl ?_
      have L6 : ∀ i : Nat, i ≤ pn a → ∀ μ9 : x_Mem, (PR a o μ9) → (∀ id, id ≠ o + 4 ∧ id ≠ o + 7 ∧ id ≠ o + 8 → μ9 id = μ id) → (∀ q, q < pn a → μ9 (o + 7) (plc a q) = sumTo (fun r => if withB a q r = true then a (24 + 3 * r + 2) else 0) i ∧ μ9 (o + 8) (plc a q) = cntTo 0 (withB a q) i) → x_G l E m_X0_sway (x_mv E m_X0_sway (x_J (fun m => PR (swayF a) o m ∧ ∀ id, id ≠ o + 4 ∧ id ≠ o + 7 ∧ id ≠ o + 8 → m id = μ id))) μ9 46 [(1, .int (nI i)), (0, .ref (E.1 + o))] [] := by
        refine x_down _ (pn a) (fun i hi8 ih7 => ?_)
        intro μ9 hR1 hF1 hs
        refine x_iload_n 0 d_X0_sway_46 rfl rfl ?_
        refine x_aload_n 1 d_X0_sway_47 rfl rfl ?_
        refine x_getiV (j := 5) (z := nI (pn a)) x_c0 (p_kd ho) (Nat.le_of_ble_eq_true rfl) q42 (p_n5 ho) ((PR.f5 hR1).trans hn7) d_X0_sway_48 ?_
        refine x_icmp_ge 99 d_X0_sway_51 (by decide) (fun c10 => ?_) (fun c10 => ?_)
        · skip
          have hN := x_ge c10 rfl rfl (by omega) (by omega)
          refine x_iconst (x := 0) d_X0_sway_99 (by decide) ?_
          refine x_istore_n [(1, .int 0), (0, .ref (E.1 + o))] d_X0_sway_100 rfl (Nat.le_of_ble_eq_true rfl) rfl ?_
          have L11 : ∀ i : Nat, i ≤ pn a → ∀ μ14 : x_Mem, (PR (swayTo a i) o μ14) → (∀ id, id ≠ o + 4 ∧ id ≠ o + 7 ∧ id ≠ o + 8 → μ14 id = μ id) → (∀ q, q < pn a → μ14 (o + 7) (plc a q) = sumWith a q) → (∀ q, q < pn a → μ14 (o + 8) (plc a q) = numWith a q) → x_G l E m_X0_sway (x_mv E m_X0_sway (x_J (fun m => PR (swayF a) o m ∧ ∀ id, id ≠ o + 4 ∧ id ≠ o + 7 ∧ id ≠ o + 8 → m id = μ id))) μ14 101 [(1, .int (nI i)), (0, .ref (E.1 + o))] [] := by
            refine x_down _ (pn a) (fun i hi13 ih12 => ?_)
            intro μ14 hR1 hF1 h7 h8
            refine x_iload_n 0 d_X0_sway_101 rfl rfl ?_
            refine x_aload_n 1 d_X0_sway_102 rfl rfl ?_
            refine x_getiV (j := 5) (z := nI (pn a)) x_c0 (p_kd ho) (Nat.le_of_ble_eq_true rfl) q42 (p_n5 ho) (((PR.f5 hR1).trans ((swayTo_same a i (by omega)) 7 (by omega))).trans hn7) d_X0_sway_103 ?_
            refine x_icmp_ge 201 d_X0_sway_106 (by decide) (fun c15 => ?_) (fun c15 => ?_)
            · skip
              have hN := x_ge c15 rfl rfl (by omega) (by omega)
              refine x_vret rfl d_X0_sway_201 ?_
              have e9 : i = pn a := by omega
              subst e9
              exact ⟨hR1, hF1⟩
            · skip
              have hN := x_lt c15 rfl rfl (by omega) (by omega)
              refine x_aload_n 1 d_X0_sway_109 rfl rfl ?_
              refine x_getr (j := 15) (o + 8) x_c0 (p_kd ho) (Nat.le_of_ble_eq_true rfl) q65 (p_f15 ho) d_X0_sway_110 ?_
              refine x_aload_n 1 d_X0_sway_113 rfl rfl ?_
              refine x_getr (j := 2) (o + 3) x_c0 (p_kd ho) (Nat.le_of_ble_eq_true rfl) q36 (p_f2 ho) d_X0_sway_114 ?_
              refine x_iload_n 0 d_X0_sway_117 rfl rfl ?_
              refine x_ialdN (z := a (24 + 3 * i + 1)) 8 i (p_k3 ho) (p_l3 ho) (by omega) (by decide) ((PR.wh hR1 i (by omega)).trans ((swayTo_same a i (by omega)) _ (by omega))) d_X0_sway_118 ?_
              refine x_iconst (x := 1) d_X0_sway_119 (by decide) ?_
              refine x_iadd d_X0_sway_120 ?_
              have hpi := hpl i (by omega)
              rw [plc_eq hI (p := i) (by omega)]
              refine x_ialdN (z := numWith a i) 18 (plc a i) (p_k8 ho) (p_l8 ho) (by omega) (by decide) (h8 i (by omega)) d_X0_sway_121 ?_
              refine x_istore_n [(2, .int (numWith a i)), (1, .int (nI i)), (0, .ref (E.1 + o))] d_X0_sway_122 rfl (Nat.le_of_ble_eq_true rfl) rfl ?_
              refine x_iload_n 0 d_X0_sway_123 rfl rfl ?_
              refine x_if_le 145 d_X0_sway_124 (by decide) (fun c16 => ?_) (fun c16 => ?_)
              · skip
                exact absurd c16 (numWith_nle hI (by omega))
              · skip
                refine x_aload_n 2 d_X0_sway_127 rfl rfl ?_
                refine x_getr (j := 14) (o + 7) x_c0 (p_kd ho) (Nat.le_of_ble_eq_true rfl) q64 (p_f14 ho) d_X0_sway_128 ?_
                refine x_aload_n 2 d_X0_sway_131 rfl rfl ?_
                refine x_getr (j := 2) (o + 3) x_c0 (p_kd ho) (Nat.le_of_ble_eq_true rfl) q36 (p_f2 ho) d_X0_sway_132 ?_
                refine x_iload_n 1 d_X0_sway_135 rfl rfl ?_
                refine x_ialdN (z := a (24 + 3 * i + 1)) 8 i (p_k3 ho) (p_l3 ho) (by omega) (by decide) ((PR.wh hR1 i (by omega)).trans ((swayTo_same a i (by omega)) _ (by omega))) d_X0_sway_136 ?_
                refine x_iconst (x := 1) d_X0_sway_137 (by decide) ?_
                refine x_iadd d_X0_sway_138 ?_
                have hpi := hpl i (by omega)
                rw [plc_eq hI (p := i) (by omega)]
                refine x_ialdN (z := sumWith a i) 18 (plc a i) (p_k7 ho) (p_l7 ho) (by omega) (by decide) (h7 i (by omega)) d_X0_sway_139 ?_
                refine x_iload_n 0 d_X0_sway_140 rfl rfl ?_
                refine x_idiv d_X0_sway_141 (numWith_ne hI (by omega)) ?_
                refine x_goto 151 d_X0_sway_142 (by decide) ?_
                refine x_istore_n [(3, .int ((sumWith a i) / (numWith a i))), (2, .int (numWith a i)), (1, .int (nI i)), (0, .ref (E.1 + o))] d_X0_sway_151 rfl (Nat.le_of_ble_eq_true rfl) rfl ?_
                refine x_iload_n 0 d_X0_sway_152 rfl rfl ?_
                refine x_aload_n 3 d_X0_sway_153 rfl rfl ?_
                refine x_getr (j := 3) (o + 4) x_c0 (p_kd ho) (Nat.le_of_ble_eq_true rfl) q38 (p_f3 ho) d_X0_sway_154 ?_
                refine x_iload_n 2 d_X0_sway_157 rfl rfl ?_
                refine x_ialdN (z := a (24 + 3 * i + 2)) 8 i (p_k4 ho) (p_l4 ho) (by omega) (by decide) ((PR.bl hR1 i (by omega)).trans (swayTo_hi a i i (Nat.le_refl i))) d_X0_sway_158 ?_
                refine x_icmp_le 175 d_X0_sway_159 (by decide) (fun c17 => ?_) (fun c17 => ?_)
                · skip
                  refine x_iload_n 0 d_X0_sway_175 rfl rfl ?_
                  refine x_aload_n 3 d_X0_sway_176 rfl rfl ?_
                  refine x_getr (j := 3) (o + 4) x_c0 (p_kd ho) (Nat.le_of_ble_eq_true rfl) q38 (p_f3 ho) d_X0_sway_177 ?_
                  refine x_iload_n 2 d_X0_sway_180 rfl rfl ?_
                  refine x_ialdN (z := a (24 + 3 * i + 2)) 8 i (p_k4 ho) (p_l4 ho) (by omega) (by decide) ((PR.bl hR1 i (by omega)).trans (swayTo_hi a i i (Nat.le_refl i))) d_X0_sway_181 ?_
                  refine x_icmp_ge 195 d_X0_sway_182 (by decide) (fun c18 => ?_) (fun c18 => ?_)
                  · skip
                    refine x_iinc [(1, .int (nI (i + 1))), (3, .int ((sumWith a i) / (numWith a i))), (2, .int (numWith a i)), (0, .ref (E.1 + o))] 2 d_X0_sway_195 rfl (x_inc _) (Nat.le_of_ble_eq_true rfl) rfl ?_
                    refine x_goto 101 d_X0_sway_198 (by decide) ?_
                    refine x_lv [0, 3] rfl ?_
                    exact ih12 (i + 1) (by omega) (by omega) μ14 (by rw [swayTo_eq c17 c18]; exact hR1) hF1 h7 h8
                  · skip
                    refine x_aload_n 3 d_X0_sway_185 rfl rfl ?_
                    refine x_getr (j := 3) (o + 4) x_c0 (p_kd ho) (Nat.le_of_ble_eq_true rfl) q38 (p_f3 ho) d_X0_sway_186 ?_
                    refine x_iload_n 2 d_X0_sway_189 rfl rfl ?_
                    refine x_dup2 d_X0_sway_190 rfl rfl ?_
                    refine x_ialdN (z := a (24 + 3 * i + 2)) 8 i (p_k4 ho) (p_l4 ho) (by omega) (by decide) ((PR.bl hR1 i (by omega)).trans (swayTo_hi a i i (Nat.le_refl i))) d_X0_sway_191 ?_
                    refine x_iconst (x := 1) d_X0_sway_192 (by decide) ?_
                    refine x_isub d_X0_sway_193 ?_
                    refine x_iastNG 8 i (p_k4 ho) (p_l4 ho) (by omega) (by decide) d_X0_sway_194 (fun μ19 eμ19 => ?_)
                    have hR20 : PR (upd (swayTo a i) (24 + 3 * i + 2) ((a (24 + 3 * i + 2)) - 1)) o μ19 := PR.a4 hR1 eμ19 (by omega)
                    have hF21 : ∀ id, id ≠ o + 4 ∧ id ≠ o + 7 ∧ id ≠ o + 8 → μ19 id = μ id := fun id hid => (show μ19 id = μ14 id from (by rw [eμ19, upd2_ne _ _ _ (by omega)])).trans (hF1 id hid)
                    have hS722 := h7
                    rw [← (show μ19 (o + 7) = μ14 (o + 7) from (by rw [eμ19, upd2_ne _ _ _ (by omega)]))] at hS722
                    have hS823 := h8
                    rw [← (show μ19 (o + 8) = μ14 (o + 8) from (by rw [eμ19, upd2_ne _ _ _ (by omega)]))] at hS823
                    refine x_iinc [(1, .int (nI (i + 1))), (3, .int ((sumWith a i) / (numWith a i))), (2, .int (numWith a i)), (0, .ref (E.1 + o))] 2 d_X0_sway_195 rfl (x_inc _) (Nat.le_of_ble_eq_true rfl) rfl ?_
                    refine x_goto 101 d_X0_sway_198 (by decide) ?_
                    refine x_lv [0, 3] rfl ?_
                    exact ih12 (i + 1) (by omega) (by omega) μ19 (by rw [swayTo_dn c17 c18]; exact hR20) hF21 hS722 hS823
                · skip
                  refine x_aload_n 3 d_X0_sway_162 rfl rfl ?_
                  refine x_getr (j := 3) (o + 4) x_c0 (p_kd ho) (Nat.le_of_ble_eq_true rfl) q38 (p_f3 ho) d_X0_sway_163 ?_
                  refine x_iload_n 2 d_X0_sway_166 rfl rfl ?_
                  refine x_dup2 d_X0_sway_167 rfl rfl ?_
                  refine x_ialdN (z := a (24 + 3 * i + 2)) 8 i (p_k4 ho) (p_l4 ho) (by omega) (by decide) ((PR.bl hR1 i (by omega)).trans (swayTo_hi a i i (Nat.le_refl i))) d_X0_sway_168 ?_
                  refine x_iconst (x := 1) d_X0_sway_169 (by decide) ?_
                  refine x_iadd d_X0_sway_170 ?_
                  refine x_iastNG 8 i (p_k4 ho) (p_l4 ho) (by omega) (by decide) d_X0_sway_171 (fun μ24 eμ24 => ?_)
                  have hR25 : PR (upd (swayTo a i) (24 + 3 * i + 2) ((a (24 + 3 * i + 2)) + 1)) o μ24 := PR.a4 hR1 eμ24 (by omega)
                  have hF26 : ∀ id, id ≠ o + 4 ∧ id ≠ o + 7 ∧ id ≠ o + 8 → μ24 id = μ id := fun id hid => (show μ24 id = μ14 id from (by rw [eμ24, upd2_ne _ _ _ (by omega)])).trans (hF1 id hid)
                  have hS727 := h7
                  rw [← (show μ24 (o + 7) = μ14 (o + 7) from (by rw [eμ24, upd2_ne _ _ _ (by omega)]))] at hS727
                  have hS828 := h8
                  rw [← (show μ24 (o + 8) = μ14 (o + 8) from (by rw [eμ24, upd2_ne _ _ _ (by omega)]))] at hS828
                  refine x_goto 195 d_X0_sway_172 (by decide) ?_
                  refine x_iinc [(1, .int (nI (i + 1))), (3, .int ((sumWith a i) / (numWith a i))), (2, .int (numWith a i)), (0, .ref (E.1 + o))] 2 d_X0_sway_195 rfl (x_inc _) (Nat.le_of_ble_eq_true rfl) rfl ?_
                  refine x_goto 101 d_X0_sway_198 (by decide) ?_
                  refine x_lv [0, 3] rfl ?_
                  exact ih12 (i + 1) (by omega) (by omega) μ24 (by rw [swayTo_up c17]; exact hR25) hF26 hS727 hS828
          exact L11 0 (by omega) μ9 hR1 hF1 (fun q hq => by have := (hs q hq).1; rw [this, show i = pn a by omega]; rfl) (fun q hq => by have := (hs q hq).2; rw [this, show i = pn a by omega]; rfl)
        · skip
          have hN := x_lt c10 rfl rfl (by omega) (by omega)
          refine x_aload_n 1 d_X0_sway_54 rfl rfl ?_
          refine x_getr (j := 14) (o + 7) x_c0 (p_kd ho) (Nat.le_of_ble_eq_true rfl) q64 (p_f14 ho) d_X0_sway_55 ?_
          refine x_aload_n 1 d_X0_sway_58 rfl rfl ?_
          refine x_getr (j := 2) (o + 3) x_c0 (p_kd ho) (Nat.le_of_ble_eq_true rfl) q36 (p_f2 ho) d_X0_sway_59 ?_
          refine x_iload_n 0 d_X0_sway_62 rfl rfl ?_
          refine x_ialdN (z := a (24 + 3 * i + 1)) 8 i (p_k3 ho) (p_l3 ho) (by omega) (by decide) (PR.wh hR1 i (by omega)) d_X0_sway_63 ?_
          refine x_iconst (x := 1) d_X0_sway_64 (by decide) ?_
          refine x_iadd d_X0_sway_65 ?_
          have hpi := hpl i (by omega)
          rw [plc_eq hI (p := i) (by omega)]
          refine x_dup2 d_X0_sway_66 rfl rfl ?_
          refine x_ialdN (z := μ9 (o + 7) (plc a i)) 18 (plc a i) (p_k7 ho) (p_l7 ho) (by omega) (by decide) rfl d_X0_sway_67 ?_
          refine x_aload_n 1 d_X0_sway_68 rfl rfl ?_
          refine x_getr (j := 3) (o + 4) x_c0 (p_kd ho) (Nat.le_of_ble_eq_true rfl) q38 (p_f3 ho) d_X0_sway_69 ?_
          refine x_iload_n 0 d_X0_sway_72 rfl rfl ?_
          refine x_ialdN (z := a (24 + 3 * i + 2)) 8 i (p_k4 ho) (p_l4 ho) (by omega) (by decide) (PR.bl hR1 i (by omega)) d_X0_sway_73 ?_
          refine x_iadd d_X0_sway_74 ?_
          refine x_iastNG 18 (plc a i) (p_k7 ho) (p_l7 ho) (by omega) (by decide) d_X0_sway_75 (fun μ29 eμ29 => ?_)
          have hR30 : PR a o μ29 := PR.cg hR1 (fun id hid => by rw [eμ29, upd2_ne _ _ _ (by omega)])
          have hF31 : ∀ id, id ≠ o + 4 ∧ id ≠ o + 7 ∧ id ≠ o + 8 → μ29 id = μ id := fun id hid => (show μ29 id = μ9 id from (by rw [eμ29, upd2_ne _ _ _ (by omega)])).trans (hF1 id hid)
          refine x_aload_n 1 d_X0_sway_76 rfl rfl ?_
          refine x_getr (j := 15) (o + 8) x_c0 (p_kd ho) (Nat.le_of_ble_eq_true rfl) q65 (p_f15 ho) d_X0_sway_77 ?_
          refine x_aload_n 1 d_X0_sway_80 rfl rfl ?_
          refine x_getr (j := 2) (o + 3) x_c0 (p_kd ho) (Nat.le_of_ble_eq_true rfl) q36 (p_f2 ho) d_X0_sway_81 ?_
          refine x_iload_n 0 d_X0_sway_84 rfl rfl ?_
          refine x_ialdN (z := a (24 + 3 * i + 1)) 8 i (p_k3 ho) (p_l3 ho) (by omega) (by decide) (PR.wh hR30 i (by omega)) d_X0_sway_85 ?_
          refine x_iconst (x := 1) d_X0_sway_86 (by decide) ?_
          refine x_iadd d_X0_sway_87 ?_
          have hpi := hpl i (by omega)
          rw [plc_eq hI (p := i) (by omega)]
          refine x_dup2 d_X0_sway_88 rfl rfl ?_
          refine x_ialdN (z := μ29 (o + 8) (plc a i)) 18 (plc a i) (p_k8 ho) (p_l8 ho) (by omega) (by decide) rfl d_X0_sway_89 ?_
          refine x_iconst (x := 1) d_X0_sway_90 (by decide) ?_
          refine x_iadd d_X0_sway_91 ?_
          refine x_iastNG 18 (plc a i) (p_k8 ho) (p_l8 ho) (by omega) (by decide) d_X0_sway_92 (fun μ32 eμ32 => ?_)
          have hR33 : PR a o μ32 := PR.cg hR30 (fun id hid => by rw [eμ32, upd2_ne _ _ _ (by omega)])
          have hF34 : ∀ id, id ≠ o + 4 ∧ id ≠ o + 7 ∧ id ≠ o + 8 → μ32 id = μ id := fun id hid => (show μ32 id = μ29 id from (by rw [eμ32, upd2_ne _ _ _ (by omega)])).trans (hF31 id hid)
          refine x_iinc [(1, .int (nI (i + 1))), (0, .ref (E.1 + o))] 0 d_X0_sway_93 rfl (x_inc _) (Nat.le_of_ble_eq_true rfl) rfl ?_
          refine x_goto 46 d_X0_sway_96 (by decide) ?_
          exact ih7 (i + 1) (by omega) (by omega) μ32 hR33 hF34 (sway_s hI (by omega) hs eμ29 eμ32)
      exact L6 0 (by omega) μ4 hR1 hF1 (sway_0 hN hz)
    · skip
      have hN := x_lt c5 rfl rfl (by omega) (by omega)
      refine x_aload_n 1 d_X0_sway_10 rfl rfl ?_
      refine x_getr (j := 14) (o + 7) x_c0 (p_kd ho) (Nat.le_of_ble_eq_true rfl) q64 (p_f14 ho) d_X0_sway_11 ?_
      refine x_aload_n 1 d_X0_sway_14 rfl rfl ?_
      refine x_getr (j := 2) (o + 3) x_c0 (p_kd ho) (Nat.le_of_ble_eq_true rfl) q36 (p_f2 ho) d_X0_sway_15 ?_
      refine x_iload_n 0 d_X0_sway_18 rfl rfl ?_
      refine x_ialdN (z := a (24 + 3 * i + 1)) 8 i (p_k3 ho) (p_l3 ho) (by omega) (by decide) (PR.wh hR1 i (by omega)) d_X0_sway_19 ?_
      refine x_iconst (x := 1) d_X0_sway_20 (by decide) ?_
      refine x_iadd d_X0_sway_21 ?_
      have hpi := hpl i (by omega)
      rw [plc_eq hI (p := i) (by omega)]
      refine x_iconst (x := 0) d_X0_sway_22 (by decide) ?_
      refine x_iastNG 18 (plc a i) (p_k7 ho) (p_l7 ho) (by omega) (by decide) d_X0_sway_23 (fun μ35 eμ35 => ?_)
      have hR36 : PR a o μ35 := PR.cg hR1 (fun id hid => by rw [eμ35, upd2_ne _ _ _ (by omega)])
      have hF37 : ∀ id, id ≠ o + 4 ∧ id ≠ o + 7 ∧ id ≠ o + 8 → μ35 id = μ id := fun id hid => (show μ35 id = μ4 id from (by rw [eμ35, upd2_ne _ _ _ (by omega)])).trans (hF1 id hid)
      refine x_aload_n 1 d_X0_sway_24 rfl rfl ?_
      refine x_getr (j := 15) (o + 8) x_c0 (p_kd ho) (Nat.le_of_ble_eq_true rfl) q65 (p_f15 ho) d_X0_sway_25 ?_
      refine x_aload_n 1 d_X0_sway_28 rfl rfl ?_
      refine x_getr (j := 2) (o + 3) x_c0 (p_kd ho) (Nat.le_of_ble_eq_true rfl) q36 (p_f2 ho) d_X0_sway_29 ?_
      refine x_iload_n 0 d_X0_sway_32 rfl rfl ?_
      refine x_ialdN (z := a (24 + 3 * i + 1)) 8 i (p_k3 ho) (p_l3 ho) (by omega) (by decide) (PR.wh hR36 i (by omega)) d_X0_sway_33 ?_
      refine x_iconst (x := 1) d_X0_sway_34 (by decide) ?_
      refine x_iadd d_X0_sway_35 ?_
      have hpi := hpl i (by omega)
      rw [plc_eq hI (p := i) (by omega)]
      refine x_iconst (x := 0) d_X0_sway_36 (by decide) ?_
      refine x_iastNG 18 (plc a i) (p_k8 ho) (p_l8 ho) (by omega) (by decide) d_X0_sway_37 (fun μ38 eμ38 => ?_)
      have hR39 : PR a o μ38 := PR.cg hR36 (fun id hid => by rw [eμ38, upd2_ne _ _ _ (by omega)])
      have hF40 : ∀ id, id ≠ o + 4 ∧ id ≠ o + 7 ∧ id ≠ o + 8 → μ38 id = μ id := fun id hid => (show μ38 id = μ35 id from (by rw [eμ38, upd2_ne _ _ _ (by omega)])).trans (hF37 id hid)
      refine x_iinc [(1, .int (nI (i + 1))), (0, .ref (E.1 + o))] 0 d_X0_sway_38 rfl (x_inc _) (Nat.le_of_ble_eq_true rfl) rfl ?_
      refine x_goto 2 d_X0_sway_41 (by decide) ?_
      exact ih2 (i + 1) (by omega) (by omega) μ38 hR39 hF40 (sway_z hz eμ35 eμ38)
  exact L1 0 (by omega) μ hR (fun _ _ => rfl) (fun _ h => absurd h (Nat.not_lt_zero _))
def m_X0_anyBeliefMoved : x_M := (yX0_anyBeliefMoved, prog_2_method_20_code, 2, (some FieldType.boolean), 0, 0)
theorem v_X0_anyBeliefMoved : x_VM m_X0_anyBeliefMoved 0 := ⟨q287, q2, by decide +kernel, by decide +kernel, by decide +kernel⟩
theorem w_X0_anyBeliefMoved : x_VI m_X0_anyBeliefMoved := ⟨q286, qs5⟩
theorem d_X0_anyBeliefMoved_0 : x_dec m_X0_anyBeliefMoved 0 (.iconst 0) 1 1 := ⟨by decide +kernel, rfl⟩
theorem d_X0_anyBeliefMoved_1 : x_dec m_X0_anyBeliefMoved 1 (.istore_n 1) 1 2 := ⟨by decide +kernel, rfl⟩
theorem d_X0_anyBeliefMoved_2 : x_dec m_X0_anyBeliefMoved 2 (.iload_n 1) 1 3 := ⟨by decide +kernel, rfl⟩
theorem d_X0_anyBeliefMoved_3 : x_dec m_X0_anyBeliefMoved 3 (.aload_n 0) 1 4 := ⟨by decide +kernel, rfl⟩
theorem d_X0_anyBeliefMoved_4 : x_dec m_X0_anyBeliefMoved 4 (.getfield 27) 3 7 := ⟨by decide +kernel, rfl⟩
theorem d_X0_anyBeliefMoved_7 : x_dec m_X0_anyBeliefMoved 7 (.if_icmp .ge 26) 3 10 := ⟨by decide +kernel, rfl⟩
theorem d_X0_anyBeliefMoved_10 : x_dec m_X0_anyBeliefMoved 10 (.aload_n 0) 1 11 := ⟨by decide +kernel, rfl⟩
theorem d_X0_anyBeliefMoved_11 : x_dec m_X0_anyBeliefMoved 11 (.getfield 21) 3 14 := ⟨by decide +kernel, rfl⟩
theorem d_X0_anyBeliefMoved_14 : x_dec m_X0_anyBeliefMoved 14 (.iload_n 1) 1 15 := ⟨by decide +kernel, rfl⟩
theorem d_X0_anyBeliefMoved_15 : x_dec m_X0_anyBeliefMoved 15 (.iaload) 1 16 := ⟨by decide +kernel, rfl⟩
theorem d_X0_anyBeliefMoved_16 : x_dec m_X0_anyBeliefMoved 16 (.aload_n 0) 1 17 := ⟨by decide +kernel, rfl⟩
theorem d_X0_anyBeliefMoved_17 : x_dec m_X0_anyBeliefMoved 17 (.getfield 52) 3 20 := ⟨by decide +kernel, rfl⟩
theorem d_X0_anyBeliefMoved_20 : x_dec m_X0_anyBeliefMoved 20 (.iload_n 1) 1 21 := ⟨by decide +kernel, rfl⟩
theorem d_X0_anyBeliefMoved_21 : x_dec m_X0_anyBeliefMoved 21 (.iaload) 1 22 := ⟨by decide +kernel, rfl⟩
theorem d_X0_anyBeliefMoved_22 : x_dec m_X0_anyBeliefMoved 22 (.if_icmp .eq 5) 3 25 := ⟨by decide +kernel, rfl⟩
theorem d_X0_anyBeliefMoved_25 : x_dec m_X0_anyBeliefMoved 25 (.iconst 1) 1 26 := ⟨by decide +kernel, rfl⟩
theorem d_X0_anyBeliefMoved_26 : x_dec m_X0_anyBeliefMoved 26 (.ireturn) 1 27 := ⟨by decide +kernel, rfl⟩
theorem d_X0_anyBeliefMoved_27 : x_dec m_X0_anyBeliefMoved 27 (.iinc 1 1) 3 30 := ⟨by decide +kernel, rfl⟩
theorem d_X0_anyBeliefMoved_30 : x_dec m_X0_anyBeliefMoved 30 (.goto (-28)) 3 33 := ⟨by decide +kernel, rfl⟩
theorem d_X0_anyBeliefMoved_33 : x_dec m_X0_anyBeliefMoved 33 (.iconst 0) 1 34 := ⟨by decide +kernel, rfl⟩
theorem d_X0_anyBeliefMoved_34 : x_dec m_X0_anyBeliefMoved 34 (.ireturn) 1 35 := ⟨by decide +kernel, rfl⟩
set_option maxHeartbeats 4000000 in
set_option maxRecDepth 100000 in
theorem c_X0_anyBeliefMoved (l : Launch) (E : x_E) (μ : x_Mem) {a : x_St} {o : Nat} (ho : x_pr o) (hR : PR a o μ) (hI : WF a) {b0 : Nat → Int32} (hB : ∀ q, q < pn a → μ (o + 6) q = b0 q) : x_Met l m_X0_anyBeliefMoved E [.ref (E.1 + o)] μ (x_I (fun z m => z = x_b (anyTo (fun p => decide (¬ a (24 + 3 * p + 2) = b0 p)) (pn a)) ∧ m = μ)) := by
  have ho1 : o = 1 ∨ o = 10 ∨ o = 19 := ho
  have hn7 := hI.2.1
  have hpn := hI.1
  refine x_enter (lv := [(0, .ref (E.1 + o))]) (by decide +kernel) (Nat.le_of_ble_eq_true rfl) rfl ?_
  refine x_iconst (x := 0) d_X0_anyBeliefMoved_0 (by decide) ?_
  refine x_istore_n [(1, .int 0), (0, .ref (E.1 + o))] d_X0_anyBeliefMoved_1 rfl (Nat.le_of_ble_eq_true rfl) rfl ?_
  have L1 : ∀ i : Nat, i ≤ pn a → (∀ q, q < i → a (24 + 3 * q + 2) = b0 q) → x_G l E m_X0_anyBeliefMoved (x_mv E m_X0_anyBeliefMoved (x_I (fun z m => z = x_b (anyTo (fun p => decide (¬ a (24 + 3 * p + 2) = b0 p)) (pn a)) ∧ m = μ))) μ 2 [(1, .int (nI i)), (0, .ref (E.1 + o))] [] := by
    refine x_down _ (pn a) (fun i hi3 ih2 => ?_)
    intro hq
    refine x_iload_n 0 d_X0_anyBeliefMoved_2 rfl rfl ?_
    refine x_aload_n 1 d_X0_anyBeliefMoved_3 rfl rfl ?_
    refine x_getiV (j := 5) (z := nI (pn a)) x_c0 (p_kd ho) (Nat.le_of_ble_eq_true rfl) q42 (p_n5 ho) ((PR.f5 hR).trans hn7) d_X0_anyBeliefMoved_4 ?_
    refine x_icmp_ge 33 d_X0_anyBeliefMoved_7 (by decide) (fun c4 => ?_) (fun c4 => ?_)
    · skip
      have hN := x_ge c4 rfl rfl (by omega) (by omega)
      refine x_iconst (x := 0) d_X0_anyBeliefMoved_33 (by decide) ?_
      refine x_zret0 rfl d_X0_anyBeliefMoved_34 ?_
      exact ⟨by rw [anyTo_f (fun p hp => by simpa using hq p (by omega))], rfl⟩
    · skip
      have hN := x_lt c4 rfl rfl (by omega) (by omega)
      refine x_aload_n 1 d_X0_anyBeliefMoved_10 rfl rfl ?_
      refine x_getr (j := 3) (o + 4) x_c0 (p_kd ho) (Nat.le_of_ble_eq_true rfl) q38 (p_f3 ho) d_X0_anyBeliefMoved_11 ?_
      refine x_iload_n 0 d_X0_anyBeliefMoved_14 rfl rfl ?_
      refine x_ialdN (z := a (24 + 3 * i + 2)) 8 i (p_k4 ho) (p_l4 ho) (by omega) (by decide) (PR.bl hR i (by omega)) d_X0_anyBeliefMoved_15 ?_
      refine x_aload_n 1 d_X0_anyBeliefMoved_16 rfl rfl ?_
      refine x_getr (j := 13) (o + 6) x_c0 (p_kd ho) (Nat.le_of_ble_eq_true rfl) q63 (p_f13 ho) d_X0_anyBeliefMoved_17 ?_
      refine x_iload_n 0 d_X0_anyBeliefMoved_20 rfl rfl ?_
      refine x_ialdN (z := b0 i) 8 i (p_k6 ho) (p_l6 ho) (by omega) (by decide) (hB i (by omega)) d_X0_anyBeliefMoved_21 ?_
      refine x_icmp_eq 27 d_X0_anyBeliefMoved_22 (by decide) (fun c5 => ?_) (fun c5 => ?_)
      · skip
        refine x_iinc [(1, .int (nI (i + 1))), (0, .ref (E.1 + o))] 0 d_X0_anyBeliefMoved_27 rfl (x_inc _) (Nat.le_of_ble_eq_true rfl) rfl ?_
        refine x_goto 2 d_X0_anyBeliefMoved_30 (by decide) ?_
        exact ih2 (i + 1) (by omega) (by omega) (lt_s hq c5)
      · skip
        refine x_iconst (x := 1) d_X0_anyBeliefMoved_25 (by decide) ?_
        refine x_zret1 rfl d_X0_anyBeliefMoved_26 ?_
        exact ⟨by rw [anyTo_t (p := i) (by omega) (by simpa using c5)], rfl⟩
  exact L1 0 (by omega) (fun _ h => absurd h (Nat.not_lt_zero _))
def m_X0_passHour : x_M := (yX0_passHour, prog_2_method_17_code, 2, (some FieldType.boolean), 4, 97)
theorem v_X0_passHour : x_VM m_X0_passHour 0 := ⟨q271, q2, by decide +kernel, by decide +kernel, by decide +kernel⟩
theorem w_X0_passHour : x_VI m_X0_passHour := ⟨q269, q270⟩
theorem d_X0_passHour_0 : x_dec m_X0_passHour 0 (.aload_n 0) 1 1 := ⟨by decide +kernel, rfl⟩
theorem d_X0_passHour_1 : x_dec m_X0_passHour 1 (.getfield 31) 3 4 := ⟨by decide +kernel, rfl⟩
theorem d_X0_passHour_4 : x_dec m_X0_passHour 4 (.istore_n 1) 1 5 := ⟨by decide +kernel, rfl⟩
theorem d_X0_passHour_5 : x_dec m_X0_passHour 5 (.aload_n 0) 1 6 := ⟨by decide +kernel, rfl⟩
theorem d_X0_passHour_6 : x_dec m_X0_passHour 6 (.getfield 21) 3 9 := ⟨by decide +kernel, rfl⟩
theorem d_X0_passHour_9 : x_dec m_X0_passHour 9 (.iconst 0) 1 10 := ⟨by decide +kernel, rfl⟩
theorem d_X0_passHour_10 : x_dec m_X0_passHour 10 (.aload_n 0) 1 11 := ⟨by decide +kernel, rfl⟩
theorem d_X0_passHour_11 : x_dec m_X0_passHour 11 (.getfield 52) 3 14 := ⟨by decide +kernel, rfl⟩
theorem d_X0_passHour_14 : x_dec m_X0_passHour 14 (.iconst 0) 1 15 := ⟨by decide +kernel, rfl⟩
theorem d_X0_passHour_15 : x_dec m_X0_passHour 15 (.aload_n 0) 1 16 := ⟨by decide +kernel, rfl⟩
theorem d_X0_passHour_16 : x_dec m_X0_passHour 16 (.getfield 27) 3 19 := ⟨by decide +kernel, rfl⟩
theorem d_X0_passHour_19 : x_dec m_X0_passHour 19 (.invokestatic 67) 3 22 := ⟨by decide +kernel, rfl⟩
theorem d_X0_passHour_22 : x_dec m_X0_passHour 22 (.aload_n 0) 1 23 := ⟨by decide +kernel, rfl⟩
theorem d_X0_passHour_23 : x_dec m_X0_passHour 23 (.getfield 31) 3 26 := ⟨by decide +kernel, rfl⟩
theorem d_X0_passHour_26 : x_dec m_X0_passHour 26 (.ifCond .lt 77) 3 29 := ⟨by decide +kernel, rfl⟩
theorem d_X0_passHour_29 : x_dec m_X0_passHour 29 (.aload_n 0) 1 30 := ⟨by decide +kernel, rfl⟩
theorem d_X0_passHour_30 : x_dec m_X0_passHour 30 (.getfield 31) 3 33 := ⟨by decide +kernel, rfl⟩
theorem d_X0_passHour_33 : x_dec m_X0_passHour 33 (.bipush 16) 2 35 := ⟨by decide +kernel, rfl⟩
theorem d_X0_passHour_35 : x_dec m_X0_passHour 35 (.if_icmp .ge 68) 3 38 := ⟨by decide +kernel, rfl⟩
theorem d_X0_passHour_38 : x_dec m_X0_passHour 38 (.aload_n 0) 1 39 := ⟨by decide +kernel, rfl⟩
theorem d_X0_passHour_39 : x_dec m_X0_passHour 39 (.aload_n 0) 1 40 := ⟨by decide +kernel, rfl⟩
theorem d_X0_passHour_40 : x_dec m_X0_passHour 40 (.getfield 31) 3 43 := ⟨by decide +kernel, rfl⟩
theorem d_X0_passHour_43 : x_dec m_X0_passHour 43 (.invokevirtual 96) 3 46 := ⟨by decide +kernel, rfl⟩
theorem d_X0_passHour_46 : x_dec m_X0_passHour 46 (.aload_n 0) 1 47 := ⟨by decide +kernel, rfl⟩
theorem d_X0_passHour_47 : x_dec m_X0_passHour 47 (.getfield 9) 3 50 := ⟨by decide +kernel, rfl⟩
theorem d_X0_passHour_50 : x_dec m_X0_passHour 50 (.aload_n 0) 1 51 := ⟨by decide +kernel, rfl⟩
theorem d_X0_passHour_51 : x_dec m_X0_passHour 51 (.getfield 31) 3 54 := ⟨by decide +kernel, rfl⟩
theorem d_X0_passHour_54 : x_dec m_X0_passHour 54 (.iaload) 1 55 := ⟨by decide +kernel, rfl⟩
theorem d_X0_passHour_55 : x_dec m_X0_passHour 55 (.if_icmp .lt 24) 3 58 := ⟨by decide +kernel, rfl⟩
theorem d_X0_passHour_58 : x_dec m_X0_passHour 58 (.aload_n 0) 1 59 := ⟨by decide +kernel, rfl⟩
theorem d_X0_passHour_59 : x_dec m_X0_passHour 59 (.dup) 1 60 := ⟨by decide +kernel, rfl⟩
theorem d_X0_passHour_60 : x_dec m_X0_passHour 60 (.getfield 31) 3 63 := ⟨by decide +kernel, rfl⟩
theorem d_X0_passHour_63 : x_dec m_X0_passHour 63 (.iconst 1) 1 64 := ⟨by decide +kernel, rfl⟩
theorem d_X0_passHour_64 : x_dec m_X0_passHour 64 (.iadd) 1 65 := ⟨by decide +kernel, rfl⟩
theorem d_X0_passHour_65 : x_dec m_X0_passHour 65 (.putfield 31) 3 68 := ⟨by decide +kernel, rfl⟩
theorem d_X0_passHour_68 : x_dec m_X0_passHour 68 (.aload_n 0) 1 69 := ⟨by decide +kernel, rfl⟩
theorem d_X0_passHour_69 : x_dec m_X0_passHour 69 (.aload_n 0) 1 70 := ⟨by decide +kernel, rfl⟩
theorem d_X0_passHour_70 : x_dec m_X0_passHour 70 (.getfield 37) 3 73 := ⟨by decide +kernel, rfl⟩
theorem d_X0_passHour_73 : x_dec m_X0_passHour 73 (.invokevirtual 108) 3 76 := ⟨by decide +kernel, rfl⟩
theorem d_X0_passHour_76 : x_dec m_X0_passHour 76 (.goto 27) 3 79 := ⟨by decide +kernel, rfl⟩
theorem d_X0_passHour_79 : x_dec m_X0_passHour 79 (.aload_n 0) 1 80 := ⟨by decide +kernel, rfl⟩
theorem d_X0_passHour_80 : x_dec m_X0_passHour 80 (.aload_n 0) 1 81 := ⟨by decide +kernel, rfl⟩
theorem d_X0_passHour_81 : x_dec m_X0_passHour 81 (.getfield 43) 3 84 := ⟨by decide +kernel, rfl⟩
theorem d_X0_passHour_84 : x_dec m_X0_passHour 84 (.iconst 1) 1 85 := ⟨by decide +kernel, rfl⟩
theorem d_X0_passHour_85 : x_dec m_X0_passHour 85 (.iadd) 1 86 := ⟨by decide +kernel, rfl⟩
theorem d_X0_passHour_86 : x_dec m_X0_passHour 86 (.ldc 112) 2 88 := ⟨by decide +kernel, rfl⟩
theorem d_X0_passHour_88 : x_dec m_X0_passHour 88 (.invokestatic 77) 3 91 := ⟨by decide +kernel, rfl⟩
theorem d_X0_passHour_91 : x_dec m_X0_passHour 91 (.putfield 43) 3 94 := ⟨by decide +kernel, rfl⟩
theorem d_X0_passHour_94 : x_dec m_X0_passHour 94 (.aload_n 0) 1 95 := ⟨by decide +kernel, rfl⟩
theorem d_X0_passHour_95 : x_dec m_X0_passHour 95 (.aload_n 0) 1 96 := ⟨by decide +kernel, rfl⟩
theorem d_X0_passHour_96 : x_dec m_X0_passHour 96 (.getfield 40) 3 99 := ⟨by decide +kernel, rfl⟩
theorem d_X0_passHour_99 : x_dec m_X0_passHour 99 (.ineg) 1 100 := ⟨by decide +kernel, rfl⟩
theorem d_X0_passHour_100 : x_dec m_X0_passHour 100 (.invokevirtual 108) 3 103 := ⟨by decide +kernel, rfl⟩
theorem d_X0_passHour_103 : x_dec m_X0_passHour 103 (.aload_n 0) 1 104 := ⟨by decide +kernel, rfl⟩
theorem d_X0_passHour_104 : x_dec m_X0_passHour 104 (.invokevirtual 113) 3 107 := ⟨by decide +kernel, rfl⟩
theorem d_X0_passHour_107 : x_dec m_X0_passHour 107 (.aload_n 0) 1 108 := ⟨by decide +kernel, rfl⟩
theorem d_X0_passHour_108 : x_dec m_X0_passHour 108 (.aload_n 0) 1 109 := ⟨by decide +kernel, rfl⟩
theorem d_X0_passHour_109 : x_dec m_X0_passHour 109 (.getfield 46) 3 112 := ⟨by decide +kernel, rfl⟩
theorem d_X0_passHour_112 : x_dec m_X0_passHour 112 (.iconst 1) 1 113 := ⟨by decide +kernel, rfl⟩
theorem d_X0_passHour_113 : x_dec m_X0_passHour 113 (.iadd) 1 114 := ⟨by decide +kernel, rfl⟩
theorem d_X0_passHour_114 : x_dec m_X0_passHour 114 (.ldc 112) 2 116 := ⟨by decide +kernel, rfl⟩
theorem d_X0_passHour_116 : x_dec m_X0_passHour 116 (.invokestatic 77) 3 119 := ⟨by decide +kernel, rfl⟩
theorem d_X0_passHour_119 : x_dec m_X0_passHour 119 (.putfield 46) 3 122 := ⟨by decide +kernel, rfl⟩
theorem d_X0_passHour_122 : x_dec m_X0_passHour 122 (.aload_n 0) 1 123 := ⟨by decide +kernel, rfl⟩
theorem d_X0_passHour_123 : x_dec m_X0_passHour 123 (.getfield 31) 3 126 := ⟨by decide +kernel, rfl⟩
theorem d_X0_passHour_126 : x_dec m_X0_passHour 126 (.iload_n 1) 1 127 := ⟨by decide +kernel, rfl⟩
theorem d_X0_passHour_127 : x_dec m_X0_passHour 127 (.if_icmp .ne 10) 3 130 := ⟨by decide +kernel, rfl⟩
theorem d_X0_passHour_130 : x_dec m_X0_passHour 130 (.aload_n 0) 1 131 := ⟨by decide +kernel, rfl⟩
theorem d_X0_passHour_131 : x_dec m_X0_passHour 131 (.invokevirtual 116) 3 134 := ⟨by decide +kernel, rfl⟩
theorem d_X0_passHour_134 : x_dec m_X0_passHour 134 (.ifCond .eq 7) 3 137 := ⟨by decide +kernel, rfl⟩
theorem d_X0_passHour_137 : x_dec m_X0_passHour 137 (.iconst 1) 1 138 := ⟨by decide +kernel, rfl⟩
theorem d_X0_passHour_138 : x_dec m_X0_passHour 138 (.goto 4) 3 141 := ⟨by decide +kernel, rfl⟩
theorem d_X0_passHour_141 : x_dec m_X0_passHour 141 (.iconst 0) 1 142 := ⟨by decide +kernel, rfl⟩
theorem d_X0_passHour_142 : x_dec m_X0_passHour 142 (.ireturn) 1 143 := ⟨by decide +kernel, rfl⟩
set_option maxHeartbeats 4000000 in
set_option maxRecDepth 100000 in
theorem c_X0_passHour (l : Launch) (E : x_E) (μ : x_Mem) {a : x_St} {o : Nat} (ho : x_pr o) (hR : PR a o μ) (hI : WF a) {h : Int32} (hh : μ o 11 = h) : x_Met l m_X0_passHour E [.ref (E.1 + o)] μ (x_I (fun z m => z = x_b (movedB a) ∧ PR (hourF a) o m ∧ m o 11 = minI (h + 1) 99999 ∧ ∀ id, (id < o ∨ o + 9 ≤ id) → m id = μ id)) := by
  have ho1 : o = 1 ∨ o = 10 ∨ o = 19 := ho
  have hn7 := hI.2.1
  have hpn := hI.1
  obtain ⟨t, ht17, ht⟩ := hI.2.2.2.2.2.1
  have hF : ∀ id, (id < o ∨ o + 9 ≤ id) → μ id = μ id := fun _ _ => rfl
  refine x_enter (lv := [(0, .ref (E.1 + o))]) (by decide +kernel) (Nat.le_of_ble_eq_true rfl) rfl ?_
  refine x_aload_n 0 d_X0_passHour_0 rfl rfl ?_
  refine x_getiV (j := 6) (z := nI t) x_c0 (p_kd ho) (Nat.le_of_ble_eq_true rfl) q45 (p_n6 ho) ((PR.f6 hR).trans ht) d_X0_passHour_1 ?_
  refine x_istore_n [(1, .int (nI t)), (0, .ref (E.1 + o))] d_X0_passHour_4 rfl (Nat.le_of_ble_eq_true rfl) rfl ?_
  refine x_aload_n 1 d_X0_passHour_5 rfl rfl ?_
  refine x_getr (j := 3) (o + 4) x_c0 (p_kd ho) (Nat.le_of_ble_eq_true rfl) q38 (p_f3 ho) d_X0_passHour_6 ?_
  refine x_iconst (x := 0) d_X0_passHour_9 (by decide) ?_
  refine x_aload_n 1 d_X0_passHour_10 rfl rfl ?_
  refine x_getr (j := 13) (o + 6) x_c0 (p_kd ho) (Nat.le_of_ble_eq_true rfl) q63 (p_f13 ho) d_X0_passHour_11 ?_
  refine x_iconst (x := 0) d_X0_passHour_14 (by decide) ?_
  refine x_aload_n 1 d_X0_passHour_15 rfl rfl ?_
  refine x_getiV (j := 5) (z := nI (pn a)) x_c0 (p_kd ho) (Nat.le_of_ble_eq_true rfl) q42 (p_n5 ho) ((PR.f5 hR).trans hn7) d_X0_passHour_16 ?_
  refine x_copyG 8 8 0 0 (pn a) (p_k4 ho) (p_k6 ho) (p_l4 ho) (p_l6 ho) q272 q274 q273 q8 (by omega) (by omega) (by decide) (by decide) (Nat.le_of_ble_eq_true rfl) (Nat.le_of_ble_eq_true rfl) d_X0_passHour_19 (fun μ1 eμ1 => ?_)
  have hB : ∀ q, q < pn a → μ1 (o + 6) q = a (24 + 3 * q + 2) := fun q hq => by rw [eμ1, cpy2_in hq]; exact PR.bl hR q (by omega)
  have hR2 := PR.cg hR (μ' := μ1) (fun id hid => (by rw [eμ1]; exact if_neg (by omega)))
  have hH3 := hh
  rw [← (show μ1 o = μ o from (by rw [eμ1]; exact if_neg (by omega)))] at hH3
  have hF4 : ∀ id, (id < o ∨ o + 9 ≤ id) → μ1 id = μ id := fun id hid => (show μ1 id = μ id from (by rw [eμ1]; exact if_neg (by omega))).trans (hF id hid)
  refine x_aload_n 1 d_X0_passHour_22 rfl rfl ?_
  refine x_getiV (j := 6) (z := nI t) x_c0 (p_kd ho) (Nat.le_of_ble_eq_true rfl) q45 (p_n6 ho) ((PR.f6 hR2).trans ht) d_X0_passHour_23 ?_
  refine x_if_lt 103 d_X0_passHour_26 (by decide) (fun c5 => ?_) (fun c5 => ?_)
  · skip
    exact absurd c5 (nI_pos (by omega))
  · skip
    refine x_aload_n 1 d_X0_passHour_29 rfl rfl ?_
    refine x_getiV (j := 6) (z := nI t) x_c0 (p_kd ho) (Nat.le_of_ble_eq_true rfl) q45 (p_n6 ho) ((PR.f6 hR2).trans ht) d_X0_passHour_30 ?_
    refine x_bipush (x := 16) d_X0_passHour_33 (by decide) ?_
    refine x_icmp_ge 103 d_X0_passHour_35 (by decide) (fun c6 => ?_) (fun c6 => ?_)
    · skip
      have hR7 : PR (rideF a) o μ1 := by rw [rideF_stay ht c6]; exact hR2
      refine x_aload_n 1 d_X0_passHour_103 rfl rfl ?_
      refine x_cvv (k := o) (as := []) (c_X0_sway l E μ1 ho hR7 hI.ride.1) v_X0_sway w_X0_sway q280 (p_ob ho) rfl ⟨Nat.le_of_ble_eq_true rfl, Nat.le_of_ble_eq_true rfl⟩ rfl (Nat.le_of_ble_eq_true rfl) d_X0_passHour_104 ?_
      rintro μ8 ⟨hR9, hF10⟩
      have hH11 := hH3
      rw [← (show μ8 o = μ1 o from (hF10 _ (by omega)))] at hH11
      have hF12 : ∀ id, (id < o ∨ o + 9 ≤ id) → μ8 id = μ id := fun id hid => (show μ8 id = μ1 id from (hF10 _ (by omega))).trans (hF4 id hid)
      have hB13 := hB
      rw [← (show μ8 (o + 6) = μ1 (o + 6) from (hF10 _ (by omega)))] at hB13
      refine x_aload_n 1 d_X0_passHour_107 rfl rfl ?_
      refine x_aload_n 1 d_X0_passHour_108 rfl rfl ?_
      refine x_getiV (j := 11) (z := h) x_c0 (p_kd ho) (Nat.le_of_ble_eq_true rfl) q59 (p_n11 ho) hH11 d_X0_passHour_109 ?_
      refine x_iconst (x := 1) d_X0_passHour_112 (by decide) ?_
      refine x_iadd d_X0_passHour_113 ?_
      refine x_ldc q279 d_X0_passHour_114 ?_
      refine x_min q203 q204 q205 q7 (Nat.le_of_ble_eq_true rfl) (Nat.le_of_ble_eq_true rfl) d_X0_passHour_116 ?_
      refine x_putiG (j := 11) x_c0 (p_kd ho) (Nat.le_of_ble_eq_true rfl) q59 (p_n11 ho) rfl rfl d_X0_passHour_119 (fun μ14 eμ14 => ?_)
      have hR15 : PR (swayF (rideF a)) o μ14 := PR.w11 hR9 eμ14
      have hH16 : μ14 o 11 = minI (h + 1) 99999 := by rw [eμ14, upd2_at, upd, if_pos rfl]
      have hF17 : ∀ id, (id < o ∨ o + 9 ≤ id) → μ14 id = μ id := fun id hid => (show μ14 id = μ8 id from (by rw [eμ14, upd2_ne _ _ _ (by omega)])).trans (hF12 id hid)
      have hB18 := hB13
      rw [← (show μ14 (o + 6) = μ8 (o + 6) from (by rw [eμ14, upd2_ne _ _ _ (by omega)]))] at hB18
      refine x_aload_n 1 d_X0_passHour_122 rfl rfl ?_
      refine x_getiV (j := 6) (z := (swayF (rideF a)) 1) x_c0 (p_kd ho) (Nat.le_of_ble_eq_true rfl) q45 (p_n6 ho) (PR.f6 hR15) d_X0_passHour_123 ?_
      refine x_iload_n 0 d_X0_passHour_126 rfl rfl ?_
      refine x_icmp_ne 137 d_X0_passHour_127 (by decide) (fun c19 => ?_) (fun c19 => ?_)
      · skip
        refine x_iconst (x := 1) d_X0_passHour_137 (by decide) ?_
        refine x_goto 142 d_X0_passHour_138 (by decide) ?_
        refine x_zret1 rfl d_X0_passHour_142 ?_
        exact ⟨by rw [movedB_1 ht c19], PR.h0 hR15 _, hH16, hF17⟩
      · skip
        refine x_aload_n 1 d_X0_passHour_130 rfl rfl ?_
        refine x_cvip (k := o) (as := []) (c_X0_anyBeliefMoved l E μ14 ho hR15 (hI.ride.1).sway (b0 := (fun q => a (24 + 3 * q + 2))) (fun q hq => hB18 q (by rw [pn_sr hI] at hq; exact hq))) v_X0_anyBeliefMoved w_X0_anyBeliefMoved q284 (p_ob ho) rfl ⟨Nat.le_of_ble_eq_true rfl, Nat.le_of_ble_eq_true rfl⟩ rfl (Nat.le_of_ble_eq_true rfl) d_X0_passHour_131 ?_
        refine x_ifb_eq 141 d_X0_passHour_134 (by decide) (fun c20 => ?_) (fun c20 => ?_)
        · skip
          refine x_iconst (x := 0) d_X0_passHour_141 (by decide) ?_
          refine x_zret0 rfl d_X0_passHour_142 ?_
          exact ⟨by rw [movedB_2 hI ht c19, c20], PR.h0 hR15 _, hH16, hF17⟩
        · skip
          refine x_iconst (x := 1) d_X0_passHour_137 (by decide) ?_
          refine x_goto 142 d_X0_passHour_138 (by decide) ?_
          refine x_zret1 rfl d_X0_passHour_142 ?_
          exact ⟨by rw [movedB_2 hI ht c19, c20], PR.h0 hR15 _, hH16, hF17⟩
    · skip
      have ht16 := x_lt (N := 16) c6 rfl rfl (by omega) (by omega)
      refine x_aload_n 1 d_X0_passHour_38 rfl rfl ?_
      refine x_aload_n 1 d_X0_passHour_39 rfl rfl ?_
      refine x_getiV (j := 6) (z := nI t) x_c0 (p_kd ho) (Nat.le_of_ble_eq_true rfl) q45 (p_n6 ho) ((PR.f6 hR2).trans ht) d_X0_passHour_40 ?_
      refine x_cvip (k := o) (as := [.int (nI t)]) (c_X0_sumAt l E μ1 ho hR2 hI (nI t)) v_X0_sumAt w_X0_sumAt q217 (p_ob ho) rfl ⟨Nat.le_of_ble_eq_true rfl, Nat.le_of_ble_eq_true rfl⟩ rfl (Nat.le_of_ble_eq_true rfl) d_X0_passHour_43 ?_
      refine x_aload_n 1 d_X0_passHour_46 rfl rfl ?_
      refine x_getr (j := 0) (o + 1) x_c0 (p_kd ho) (Nat.le_of_ble_eq_true rfl) q31 (p_f0 ho) d_X0_passHour_47 ?_
      refine x_aload_n 1 d_X0_passHour_50 rfl rfl ?_
      refine x_getiV (j := 6) (z := nI t) x_c0 (p_kd ho) (Nat.le_of_ble_eq_true rfl) q45 (p_n6 ho) ((PR.f6 hR2).trans ht) d_X0_passHour_51 ?_
      refine x_ialdN (z := a (8 + t)) 16 t (p_k1 ho) (p_l1 ho) (by omega) (by decide) (PR.need hR2 t (by omega)) d_X0_passHour_54 ?_
      refine x_icmp_lt 79 d_X0_passHour_55 (by decide) (fun c21 => ?_) (fun c21 => ?_)
      · skip
        refine x_aload_n 1 d_X0_passHour_79 rfl rfl ?_
        refine x_aload_n 1 d_X0_passHour_80 rfl rfl ?_
        refine x_getiV (j := 10) (z := a 5) x_c0 (p_kd ho) (Nat.le_of_ble_eq_true rfl) q57 (p_n10 ho) (PR.f10 hR2) d_X0_passHour_81 ?_
        refine x_iconst (x := 1) d_X0_passHour_84 (by decide) ?_
        refine x_iadd d_X0_passHour_85 ?_
        refine x_ldc q279 d_X0_passHour_86 ?_
        refine x_min q203 q204 q205 q7 (Nat.le_of_ble_eq_true rfl) (Nat.le_of_ble_eq_true rfl) d_X0_passHour_88 ?_
        refine x_putiG (j := 10) x_c0 (p_kd ho) (Nat.le_of_ble_eq_true rfl) q57 (p_n10 ho) rfl rfl d_X0_passHour_91 (fun μ22 eμ22 => ?_)
        have hR23 : PR (upd a 5 (minI ((a 5) + 1) 99999)) o μ22 := PR.w10 hR2 eμ22
        have hH24 : μ22 o 11 = h := by rw [eμ22, upd2_at, upd_n _ _ (by decide)]; exact hH3
        have hF25 : ∀ id, (id < o ∨ o + 9 ≤ id) → μ22 id = μ id := fun id hid => (show μ22 id = μ1 id from (by rw [eμ22, upd2_ne _ _ _ (by omega)])).trans (hF4 id hid)
        have hB26 := hB
        rw [← (show μ22 (o + 6) = μ1 (o + 6) from (by rw [eμ22, upd2_ne _ _ _ (by omega)]))] at hB26
        refine x_aload_n 1 d_X0_passHour_94 rfl rfl ?_
        refine x_aload_n 1 d_X0_passHour_95 rfl rfl ?_
        refine x_getiV (j := 9) (z := (upd a 5 (minI ((a 5) + 1) 99999)) 4) x_c0 (p_kd ho) (Nat.le_of_ble_eq_true rfl) q54 (p_n9 ho) (PR.f9 hR23) d_X0_passHour_96 ?_
        refine x_ineg d_X0_passHour_99 ?_
        refine x_cvv (k := o) (as := [.int (-((upd a 5 (minI ((a 5) + 1) 99999)) 4))]) (c_X0_moveBeliefsAboard l E μ22 ho hR23 hI.up5s (-((upd a 5 (minI ((a 5) + 1) 99999)) 4))) v_X0_moveBeliefsAboard w_X0_moveBeliefsAboard q275 (p_ob ho) rfl ⟨Nat.le_of_ble_eq_true rfl, Nat.le_of_ble_eq_true rfl⟩ rfl (Nat.le_of_ble_eq_true rfl) d_X0_passHour_100 ?_
        rintro μ27 ⟨hR28, hF29⟩
        have hH30 := hH24
        rw [← (show μ27 o = μ22 o from (hF29 _ (by omega)))] at hH30
        have hF31 : ∀ id, (id < o ∨ o + 9 ≤ id) → μ27 id = μ id := fun id hid => (show μ27 id = μ22 id from (hF29 _ (by omega))).trans (hF25 id hid)
        have hB32 := hB26
        rw [← (show μ27 (o + 6) = μ22 (o + 6) from (hF29 _ (by omega)))] at hB32
        have hR33 : PR (rideF a) o μ27 := by rw [rideF_fall ht ht17 c6 c21]; exact hR28
        refine x_aload_n 1 d_X0_passHour_103 rfl rfl ?_
        refine x_cvv (k := o) (as := []) (c_X0_sway l E μ27 ho hR33 hI.ride.1) v_X0_sway w_X0_sway q280 (p_ob ho) rfl ⟨Nat.le_of_ble_eq_true rfl, Nat.le_of_ble_eq_true rfl⟩ rfl (Nat.le_of_ble_eq_true rfl) d_X0_passHour_104 ?_
        rintro μ34 ⟨hR35, hF36⟩
        have hH37 := hH30
        rw [← (show μ34 o = μ27 o from (hF36 _ (by omega)))] at hH37
        have hF38 : ∀ id, (id < o ∨ o + 9 ≤ id) → μ34 id = μ id := fun id hid => (show μ34 id = μ27 id from (hF36 _ (by omega))).trans (hF31 id hid)
        have hB39 := hB32
        rw [← (show μ34 (o + 6) = μ27 (o + 6) from (hF36 _ (by omega)))] at hB39
        refine x_aload_n 1 d_X0_passHour_107 rfl rfl ?_
        refine x_aload_n 1 d_X0_passHour_108 rfl rfl ?_
        refine x_getiV (j := 11) (z := h) x_c0 (p_kd ho) (Nat.le_of_ble_eq_true rfl) q59 (p_n11 ho) hH37 d_X0_passHour_109 ?_
        refine x_iconst (x := 1) d_X0_passHour_112 (by decide) ?_
        refine x_iadd d_X0_passHour_113 ?_
        refine x_ldc q279 d_X0_passHour_114 ?_
        refine x_min q203 q204 q205 q7 (Nat.le_of_ble_eq_true rfl) (Nat.le_of_ble_eq_true rfl) d_X0_passHour_116 ?_
        refine x_putiG (j := 11) x_c0 (p_kd ho) (Nat.le_of_ble_eq_true rfl) q59 (p_n11 ho) rfl rfl d_X0_passHour_119 (fun μ40 eμ40 => ?_)
        have hR41 : PR (swayF (rideF a)) o μ40 := PR.w11 hR35 eμ40
        have hH42 : μ40 o 11 = minI (h + 1) 99999 := by rw [eμ40, upd2_at, upd, if_pos rfl]
        have hF43 : ∀ id, (id < o ∨ o + 9 ≤ id) → μ40 id = μ id := fun id hid => (show μ40 id = μ34 id from (by rw [eμ40, upd2_ne _ _ _ (by omega)])).trans (hF38 id hid)
        have hB44 := hB39
        rw [← (show μ40 (o + 6) = μ34 (o + 6) from (by rw [eμ40, upd2_ne _ _ _ (by omega)]))] at hB44
        refine x_aload_n 1 d_X0_passHour_122 rfl rfl ?_
        refine x_getiV (j := 6) (z := (swayF (rideF a)) 1) x_c0 (p_kd ho) (Nat.le_of_ble_eq_true rfl) q45 (p_n6 ho) (PR.f6 hR41) d_X0_passHour_123 ?_
        refine x_iload_n 0 d_X0_passHour_126 rfl rfl ?_
        refine x_icmp_ne 137 d_X0_passHour_127 (by decide) (fun c45 => ?_) (fun c45 => ?_)
        · skip
          refine x_iconst (x := 1) d_X0_passHour_137 (by decide) ?_
          refine x_goto 142 d_X0_passHour_138 (by decide) ?_
          refine x_zret1 rfl d_X0_passHour_142 ?_
          exact ⟨by rw [movedB_1 ht c45], PR.h0 hR41 _, hH42, hF43⟩
        · skip
          refine x_aload_n 1 d_X0_passHour_130 rfl rfl ?_
          refine x_cvip (k := o) (as := []) (c_X0_anyBeliefMoved l E μ40 ho hR41 (hI.ride.1).sway (b0 := (fun q => a (24 + 3 * q + 2))) (fun q hq => hB44 q (by rw [pn_sr hI] at hq; exact hq))) v_X0_anyBeliefMoved w_X0_anyBeliefMoved q284 (p_ob ho) rfl ⟨Nat.le_of_ble_eq_true rfl, Nat.le_of_ble_eq_true rfl⟩ rfl (Nat.le_of_ble_eq_true rfl) d_X0_passHour_131 ?_
          refine x_ifb_eq 141 d_X0_passHour_134 (by decide) (fun c46 => ?_) (fun c46 => ?_)
          · skip
            refine x_iconst (x := 0) d_X0_passHour_141 (by decide) ?_
            refine x_zret0 rfl d_X0_passHour_142 ?_
            exact ⟨by rw [movedB_2 hI ht c45, c46], PR.h0 hR41 _, hH42, hF43⟩
          · skip
            refine x_iconst (x := 1) d_X0_passHour_137 (by decide) ?_
            refine x_goto 142 d_X0_passHour_138 (by decide) ?_
            refine x_zret1 rfl d_X0_passHour_142 ?_
            exact ⟨by rw [movedB_2 hI ht c45, c46], PR.h0 hR41 _, hH42, hF43⟩
      · skip
        refine x_aload_n 1 d_X0_passHour_58 rfl rfl ?_
        refine x_dup d_X0_passHour_59 rfl ?_
        refine x_getiV (j := 6) (z := nI t) x_c0 (p_kd ho) (Nat.le_of_ble_eq_true rfl) q45 (p_n6 ho) ((PR.f6 hR2).trans ht) d_X0_passHour_60 ?_
        refine x_iconst (x := 1) d_X0_passHour_63 (by decide) ?_
        refine x_iadd d_X0_passHour_64 ?_
        refine x_putiG (j := 6) x_c0 (p_kd ho) (Nat.le_of_ble_eq_true rfl) q45 (p_n6 ho) rfl rfl d_X0_passHour_65 (fun μ47 eμ47 => ?_)
        have hR48 : PR (upd a 1 ((nI t) + 1)) o μ47 := PR.w6 hR2 eμ47
        have hH49 : μ47 o 11 = h := by rw [eμ47, upd2_at, upd_n _ _ (by decide)]; exact hH3
        have hF50 : ∀ id, (id < o ∨ o + 9 ≤ id) → μ47 id = μ id := fun id hid => (show μ47 id = μ1 id from (by rw [eμ47, upd2_ne _ _ _ (by omega)])).trans (hF4 id hid)
        have hB51 := hB
        rw [← (show μ47 (o + 6) = μ1 (o + 6) from (by rw [eμ47, upd2_ne _ _ _ (by omega)]))] at hB51
        refine x_aload_n 1 d_X0_passHour_68 rfl rfl ?_
        refine x_aload_n 1 d_X0_passHour_69 rfl rfl ?_
        refine x_getiV (j := 8) (z := (upd a 1 ((nI t) + 1)) 3) x_c0 (p_kd ho) (Nat.le_of_ble_eq_true rfl) q51 (p_n8 ho) (PR.f8 hR48) d_X0_passHour_70 ?_
        refine x_cvv (k := o) (as := [.int ((upd a 1 ((nI t) + 1)) 3)]) (c_X0_moveBeliefsAboard l E μ47 ho hR48 (hI.up1s (t := t) (by omega)) ((upd a 1 ((nI t) + 1)) 3)) v_X0_moveBeliefsAboard w_X0_moveBeliefsAboard q275 (p_ob ho) rfl ⟨Nat.le_of_ble_eq_true rfl, Nat.le_of_ble_eq_true rfl⟩ rfl (Nat.le_of_ble_eq_true rfl) d_X0_passHour_73 ?_
        rintro μ52 ⟨hR53, hF54⟩
        have hH55 := hH49
        rw [← (show μ52 o = μ47 o from (hF54 _ (by omega)))] at hH55
        have hF56 : ∀ id, (id < o ∨ o + 9 ≤ id) → μ52 id = μ id := fun id hid => (show μ52 id = μ47 id from (hF54 _ (by omega))).trans (hF50 id hid)
        have hB57 := hB51
        rw [← (show μ52 (o + 6) = μ47 (o + 6) from (hF54 _ (by omega)))] at hB57
        refine x_goto 103 d_X0_passHour_76 (by decide) ?_
        have hR58 : PR (rideF a) o μ52 := by rw [rideF_go ht ht17 c6 c21]; exact hR53
        refine x_aload_n 1 d_X0_passHour_103 rfl rfl ?_
        refine x_cvv (k := o) (as := []) (c_X0_sway l E μ52 ho hR58 hI.ride.1) v_X0_sway w_X0_sway q280 (p_ob ho) rfl ⟨Nat.le_of_ble_eq_true rfl, Nat.le_of_ble_eq_true rfl⟩ rfl (Nat.le_of_ble_eq_true rfl) d_X0_passHour_104 ?_
        rintro μ59 ⟨hR60, hF61⟩
        have hH62 := hH55
        rw [← (show μ59 o = μ52 o from (hF61 _ (by omega)))] at hH62
        have hF63 : ∀ id, (id < o ∨ o + 9 ≤ id) → μ59 id = μ id := fun id hid => (show μ59 id = μ52 id from (hF61 _ (by omega))).trans (hF56 id hid)
        have hB64 := hB57
        rw [← (show μ59 (o + 6) = μ52 (o + 6) from (hF61 _ (by omega)))] at hB64
        refine x_aload_n 1 d_X0_passHour_107 rfl rfl ?_
        refine x_aload_n 1 d_X0_passHour_108 rfl rfl ?_
        refine x_getiV (j := 11) (z := h) x_c0 (p_kd ho) (Nat.le_of_ble_eq_true rfl) q59 (p_n11 ho) hH62 d_X0_passHour_109 ?_
        refine x_iconst (x := 1) d_X0_passHour_112 (by decide) ?_
        refine x_iadd d_X0_passHour_113 ?_
        refine x_ldc q279 d_X0_passHour_114 ?_
        refine x_min q203 q204 q205 q7 (Nat.le_of_ble_eq_true rfl) (Nat.le_of_ble_eq_true rfl) d_X0_passHour_116 ?_
        refine x_putiG (j := 11) x_c0 (p_kd ho) (Nat.le_of_ble_eq_true rfl) q59 (p_n11 ho) rfl rfl d_X0_passHour_119 (fun μ65 eμ65 => ?_)
        have hR66 : PR (swayF (rideF a)) o μ65 := PR.w11 hR60 eμ65
        have hH67 : μ65 o 11 = minI (h + 1) 99999 := by rw [eμ65, upd2_at, upd, if_pos rfl]
        have hF68 : ∀ id, (id < o ∨ o + 9 ≤ id) → μ65 id = μ id := fun id hid => (show μ65 id = μ59 id from (by rw [eμ65, upd2_ne _ _ _ (by omega)])).trans (hF63 id hid)
        have hB69 := hB64
        rw [← (show μ65 (o + 6) = μ59 (o + 6) from (by rw [eμ65, upd2_ne _ _ _ (by omega)]))] at hB69
        refine x_aload_n 1 d_X0_passHour_122 rfl rfl ?_
        refine x_getiV (j := 6) (z := (swayF (rideF a)) 1) x_c0 (p_kd ho) (Nat.le_of_ble_eq_true rfl) q45 (p_n6 ho) (PR.f6 hR66) d_X0_passHour_123 ?_
        refine x_iload_n 0 d_X0_passHour_126 rfl rfl ?_
        refine x_icmp_ne 137 d_X0_passHour_127 (by decide) (fun c70 => ?_) (fun c70 => ?_)
        · skip
          refine x_iconst (x := 1) d_X0_passHour_137 (by decide) ?_
          refine x_goto 142 d_X0_passHour_138 (by decide) ?_
          refine x_zret1 rfl d_X0_passHour_142 ?_
          exact ⟨by rw [movedB_1 ht c70], PR.h0 hR66 _, hH67, hF68⟩
        · skip
          refine x_aload_n 1 d_X0_passHour_130 rfl rfl ?_
          refine x_cvip (k := o) (as := []) (c_X0_anyBeliefMoved l E μ65 ho hR66 (hI.ride.1).sway (b0 := (fun q => a (24 + 3 * q + 2))) (fun q hq => hB69 q (by rw [pn_sr hI] at hq; exact hq))) v_X0_anyBeliefMoved w_X0_anyBeliefMoved q284 (p_ob ho) rfl ⟨Nat.le_of_ble_eq_true rfl, Nat.le_of_ble_eq_true rfl⟩ rfl (Nat.le_of_ble_eq_true rfl) d_X0_passHour_131 ?_
          refine x_ifb_eq 141 d_X0_passHour_134 (by decide) (fun c71 => ?_) (fun c71 => ?_)
          · skip
            refine x_iconst (x := 0) d_X0_passHour_141 (by decide) ?_
            refine x_zret0 rfl d_X0_passHour_142 ?_
            exact ⟨by rw [movedB_2 hI ht c70, c71], PR.h0 hR66 _, hH67, hF68⟩
          · skip
            refine x_iconst (x := 1) d_X0_passHour_137 (by decide) ?_
            refine x_goto 142 d_X0_passHour_138 (by decide) ?_
            refine x_zret1 rfl d_X0_passHour_142 ?_
            exact ⟨by rw [movedB_2 hI ht c70, c71], PR.h0 hR66 _, hH67, hF68⟩
def m_X0_passHours : x_M := (yX0_passHours, prog_2_method_15_code, 3, none, 5, 118)
theorem v_X0_passHours : x_VM m_X0_passHours 1 := ⟨q267, q2, by decide +kernel, by decide +kernel, by decide +kernel⟩
theorem w_X0_passHours : x_VI m_X0_passHours := ⟨q265, q266⟩
theorem d_X0_passHours_0 : x_dec m_X0_passHours 0 (.iconst 0) 1 1 := ⟨by decide +kernel, rfl⟩
theorem d_X0_passHours_1 : x_dec m_X0_passHours 1 (.istore_n 2) 1 2 := ⟨by decide +kernel, rfl⟩
theorem d_X0_passHours_2 : x_dec m_X0_passHours 2 (.iload_n 2) 1 3 := ⟨by decide +kernel, rfl⟩
theorem d_X0_passHours_3 : x_dec m_X0_passHours 3 (.iload_n 1) 1 4 := ⟨by decide +kernel, rfl⟩
theorem d_X0_passHours_4 : x_dec m_X0_passHours 4 (.if_icmp .ge 14) 3 7 := ⟨by decide +kernel, rfl⟩
theorem d_X0_passHours_7 : x_dec m_X0_passHours 7 (.aload_n 0) 1 8 := ⟨by decide +kernel, rfl⟩
theorem d_X0_passHours_8 : x_dec m_X0_passHours 8 (.invokevirtual 104) 3 11 := ⟨by decide +kernel, rfl⟩
theorem d_X0_passHours_11 : x_dec m_X0_passHours 11 (.pop) 1 12 := ⟨by decide +kernel, rfl⟩
theorem d_X0_passHours_12 : x_dec m_X0_passHours 12 (.iinc 2 1) 3 15 := ⟨by decide +kernel, rfl⟩
theorem d_X0_passHours_15 : x_dec m_X0_passHours 15 (.goto (-13)) 3 18 := ⟨by decide +kernel, rfl⟩
theorem d_X0_passHours_18 : x_dec m_X0_passHours 18 (.return_) 1 19 := ⟨by decide +kernel, rfl⟩
set_option maxHeartbeats 4000000 in
set_option maxRecDepth 100000 in
theorem c_X0_passHours (l : Launch) (E : x_E) (μ : x_Mem) {a : x_St} {o : Nat} (ho : x_pr o) (hR : PR a o μ) (hI : WF a) {h0 : Int32} (hh : μ o 11 = h0) {n : Nat} (hn : n ≤ 200) : x_Met l m_X0_passHours E [.ref (E.1 + o), .int (nI n)] μ (x_J (fun m => PR (hoursF a n) o m ∧ m o 11 = clockF h0 n ∧ ∀ id, (id < o ∨ o + 9 ≤ id) → m id = μ id)) := by
  have ho1 : o = 1 ∨ o = 10 ∨ o = 19 := ho
  have hn7 := hI.2.1
  have hpn := hI.1
  refine x_enter (lv := [(0, .ref (E.1 + o)), (1, .int (nI n))]) (by decide +kernel) (Nat.le_of_ble_eq_true rfl) rfl ?_
  refine x_iconst (x := 0) d_X0_passHours_0 (by decide) ?_
  refine x_istore_n [(2, .int 0), (0, .ref (E.1 + o)), (1, .int (nI n))] d_X0_passHours_1 rfl (Nat.le_of_ble_eq_true rfl) rfl ?_
  have L1 : ∀ i : Nat, i ≤ n → ∀ μ4 : x_Mem, (PR (hoursF a i) o μ4) → (μ4 o 11 = clockF h0 i) → (∀ id, (id < o ∨ o + 9 ≤ id) → μ4 id = μ id) → x_G l E m_X0_passHours (x_mv E m_X0_passHours (x_J (fun m => PR (hoursF a n) o m ∧ m o 11 = clockF h0 n ∧ ∀ id, (id < o ∨ o + 9 ≤ id) → m id = μ id))) μ4 2 [(2, .int (nI i)), (0, .ref (E.1 + o)), (1, .int (nI n))] [] := by
    refine x_down _ n (fun i hi3 ih2 => ?_)
    intro μ4 hR1 hH1 hF1
    refine x_iload_n 0 d_X0_passHours_2 rfl rfl ?_
    refine x_iload_n 2 d_X0_passHours_3 rfl rfl ?_
    refine x_icmp_ge 18 d_X0_passHours_4 (by decide) (fun c5 => ?_) (fun c5 => ?_)
    · skip
      have hN := x_ge (N := n) c5 rfl rfl (by omega) (by omega)
      refine x_vret rfl d_X0_passHours_18 ?_
      have e9 : i = n := by omega
      subst e9
      exact ⟨hR1, hH1, hF1⟩
    · skip
      have hN := x_lt (N := n) c5 rfl rfl (by omega) (by omega)
      refine x_aload_n 1 d_X0_passHours_7 rfl rfl ?_
      refine x_cvi (k := o) (as := []) (c_X0_passHour l E μ4 ho hR1 (hI.hours (i)) hH1) v_X0_passHour w_X0_passHour q268 (p_ob ho) rfl ⟨Nat.le_of_ble_eq_true rfl, Nat.le_of_ble_eq_true rfl⟩ rfl (Nat.le_of_ble_eq_true rfl) d_X0_passHours_8 ?_
      rintro _ μ6 ⟨rfl, hR7, x9, hF8⟩
      have hF10 : ∀ id, (id < o ∨ o + 9 ≤ id) → μ6 id = μ id := fun id hid => (show μ6 id = μ4 id from (hF8 _ (by omega))).trans (hF1 id hid)
      refine x_pop d_X0_passHours_11 rfl ?_
      refine x_iinc [(2, .int (nI (i + 1))), (0, .ref (E.1 + o)), (1, .int (nI n))] 0 d_X0_passHours_12 rfl (x_inc _) (Nat.le_of_ble_eq_true rfl) rfl ?_
      refine x_goto 2 d_X0_passHours_15 (by decide) ?_
      exact ih2 (i + 1) (by omega) (by omega) μ6 hR7 x9 hF10
  exact L1 0 (by omega) μ hR hh (fun _ _ => rfl)
def m_X0_yardBehind : x_M := (yX0_yardBehind, prog_2_method_16_code, 4, (some FieldType.int), 5, 118)
theorem v_X0_yardBehind : x_VM m_X0_yardBehind 1 := ⟨q316, q2, by decide +kernel, by decide +kernel, by decide +kernel⟩
theorem w_X0_yardBehind : x_VI m_X0_yardBehind := ⟨q314, q315⟩
theorem d_X0_yardBehind_0 : x_dec m_X0_yardBehind 0 (.iconst 1) 1 1 := ⟨by decide +kernel, rfl⟩
theorem d_X0_yardBehind_1 : x_dec m_X0_yardBehind 1 (.istore_n 2) 1 2 := ⟨by decide +kernel, rfl⟩
theorem d_X0_yardBehind_2 : x_dec m_X0_yardBehind 2 (.iconst 0) 1 3 := ⟨by decide +kernel, rfl⟩
theorem d_X0_yardBehind_3 : x_dec m_X0_yardBehind 3 (.istore_n 3) 1 4 := ⟨by decide +kernel, rfl⟩
theorem d_X0_yardBehind_4 : x_dec m_X0_yardBehind 4 (.iload_n 3) 1 5 := ⟨by decide +kernel, rfl⟩
theorem d_X0_yardBehind_5 : x_dec m_X0_yardBehind 5 (.iload_n 1) 1 6 := ⟨by decide +kernel, rfl⟩
theorem d_X0_yardBehind_6 : x_dec m_X0_yardBehind 6 (.if_icmp .ge 27) 3 9 := ⟨by decide +kernel, rfl⟩
theorem d_X0_yardBehind_9 : x_dec m_X0_yardBehind 9 (.iload_n 2) 1 10 := ⟨by decide +kernel, rfl⟩
theorem d_X0_yardBehind_10 : x_dec m_X0_yardBehind 10 (.ifCond .eq 23) 3 13 := ⟨by decide +kernel, rfl⟩
theorem d_X0_yardBehind_13 : x_dec m_X0_yardBehind 13 (.aload_n 0) 1 14 := ⟨by decide +kernel, rfl⟩
theorem d_X0_yardBehind_14 : x_dec m_X0_yardBehind 14 (.getfield 31) 3 17 := ⟨by decide +kernel, rfl⟩
theorem d_X0_yardBehind_17 : x_dec m_X0_yardBehind 17 (.bipush 16) 2 19 := ⟨by decide +kernel, rfl⟩
theorem d_X0_yardBehind_19 : x_dec m_X0_yardBehind 19 (.if_icmp .ge 14) 3 22 := ⟨by decide +kernel, rfl⟩
theorem d_X0_yardBehind_22 : x_dec m_X0_yardBehind 22 (.aload_n 0) 1 23 := ⟨by decide +kernel, rfl⟩
theorem d_X0_yardBehind_23 : x_dec m_X0_yardBehind 23 (.invokevirtual 104) 3 26 := ⟨by decide +kernel, rfl⟩
theorem d_X0_yardBehind_26 : x_dec m_X0_yardBehind 26 (.istore_n 2) 1 27 := ⟨by decide +kernel, rfl⟩
theorem d_X0_yardBehind_27 : x_dec m_X0_yardBehind 27 (.iinc 3 1) 3 30 := ⟨by decide +kernel, rfl⟩
theorem d_X0_yardBehind_30 : x_dec m_X0_yardBehind 30 (.goto (-26)) 3 33 := ⟨by decide +kernel, rfl⟩
theorem d_X0_yardBehind_33 : x_dec m_X0_yardBehind 33 (.aload_n 0) 1 34 := ⟨by decide +kernel, rfl⟩
theorem d_X0_yardBehind_34 : x_dec m_X0_yardBehind 34 (.getfield 31) 3 37 := ⟨by decide +kernel, rfl⟩
theorem d_X0_yardBehind_37 : x_dec m_X0_yardBehind 37 (.ireturn) 1 38 := ⟨by decide +kernel, rfl⟩
set_option maxHeartbeats 4000000 in
set_option maxRecDepth 100000 in
theorem c_X0_yardBehind (l : Launch) (E : x_E) (μ : x_Mem) {a : x_St} {o : Nat} (ho : x_pr o) (hR : PR a o μ) (hI : WF a) {n : Nat} (hn : n ≤ 200) : x_Met l m_X0_yardBehind E [.ref (E.1 + o), .int (nI n)] μ (x_I (fun z m => z = hoursF a n 1 ∧ ∀ id, (id < o ∨ o + 9 ≤ id) → m id = μ id)) := by
  have ho1 : o = 1 ∨ o = 10 ∨ o = 19 := ho
  have hn7 := hI.2.1
  have hpn := hI.1
  refine x_enter (lv := [(0, .ref (E.1 + o)), (1, .int (nI n))]) (by decide +kernel) (Nat.le_of_ble_eq_true rfl) rfl ?_
  refine x_iconst (x := 1) d_X0_yardBehind_0 (by decide) ?_
  refine x_istore_n [(2, .int 1), (0, .ref (E.1 + o)), (1, .int (nI n))] d_X0_yardBehind_1 rfl (Nat.le_of_ble_eq_true rfl) rfl ?_
  refine x_iconst (x := 0) d_X0_yardBehind_2 (by decide) ?_
  refine x_istore_n [(3, .int 0), (2, .int 1), (0, .ref (E.1 + o)), (1, .int (nI n))] d_X0_yardBehind_3 rfl (Nat.le_of_ble_eq_true rfl) rfl ?_
  have L1 : ∀ i : Nat, i ≤ n → ∀ q : Bool, ∀ μ4 : x_Mem, (q = false → hoursF a i 1 = hoursF a n 1) → (PR (hoursF a i) o μ4) → (∀ id, (id < o ∨ o + 9 ≤ id) → μ4 id = μ id) → x_G l E m_X0_yardBehind (x_mv E m_X0_yardBehind (x_I (fun z m => z = hoursF a n 1 ∧ ∀ id, (id < o ∨ o + 9 ≤ id) → m id = μ id))) μ4 4 [(3, .int (nI i)), (2, .int (x_b q)), (0, .ref (E.1 + o)), (1, .int (nI n))] [] := by
    refine x_down _ n (fun i hi3 ih2 => ?_)
    intro q μ4 hq hR1 hF1
    refine x_iload_n 0 d_X0_yardBehind_4 rfl rfl ?_
    refine x_iload_n 3 d_X0_yardBehind_5 rfl rfl ?_
    refine x_icmp_ge 33 d_X0_yardBehind_6 (by decide) (fun c5 => ?_) (fun c5 => ?_)
    · skip
      have hN := x_ge (N := n) c5 rfl rfl (by omega) (by omega)
      refine x_aload_n 2 d_X0_yardBehind_33 rfl rfl ?_
      refine x_getiV (j := 6) (z := (hoursF a i) 1) x_c0 (p_kd ho) (Nat.le_of_ble_eq_true rfl) q45 (p_n6 ho) (PR.f6 hR1) d_X0_yardBehind_34 ?_
      refine x_iret rfl d_X0_yardBehind_37 ?_
      have e9 : i = n := by omega
      subst e9
      exact ⟨rfl, hF1⟩
    · skip
      have hN := x_lt (N := n) c5 rfl rfl (by omega) (by omega)
      refine x_iload_n 1 d_X0_yardBehind_9 rfl rfl ?_
      refine x_ifb_eq 33 d_X0_yardBehind_10 (by decide) (fun c6 => ?_) (fun c6 => ?_)
      · skip
        refine x_aload_n 2 d_X0_yardBehind_33 rfl rfl ?_
        refine x_getiV (j := 6) (z := (hoursF a i) 1) x_c0 (p_kd ho) (Nat.le_of_ble_eq_true rfl) q45 (p_n6 ho) (PR.f6 hR1) d_X0_yardBehind_34 ?_
        refine x_iret rfl d_X0_yardBehind_37 ?_
        exact ⟨hq c6, hF1⟩
      · skip
        refine x_aload_n 2 d_X0_yardBehind_13 rfl rfl ?_
        refine x_getiV (j := 6) (z := (hoursF a i) 1) x_c0 (p_kd ho) (Nat.le_of_ble_eq_true rfl) q45 (p_n6 ho) (PR.f6 hR1) d_X0_yardBehind_14 ?_
        refine x_bipush (x := 16) d_X0_yardBehind_17 (by decide) ?_
        refine x_icmp_ge 33 d_X0_yardBehind_19 (by decide) (fun c7 => ?_) (fun c7 => ?_)
        · skip
          refine x_aload_n 2 d_X0_yardBehind_33 rfl rfl ?_
          refine x_getiV (j := 6) (z := (hoursF a i) 1) x_c0 (p_kd ho) (Nat.le_of_ble_eq_true rfl) q45 (p_n6 ho) (PR.f6 hR1) d_X0_yardBehind_34 ?_
          refine x_iret rfl d_X0_yardBehind_37 ?_
          exact ⟨last_yard hI c7 (by omega), hF1⟩
        · skip
          refine x_aload_n 2 d_X0_yardBehind_22 rfl rfl ?_
          refine x_cvi (k := o) (as := []) (c_X0_passHour l E μ4 ho hR1 (hI.hours (i)) rfl) v_X0_passHour w_X0_passHour q268 (p_ob ho) rfl ⟨Nat.le_of_ble_eq_true rfl, Nat.le_of_ble_eq_true rfl⟩ rfl (Nat.le_of_ble_eq_true rfl) d_X0_yardBehind_23 ?_
          rintro _ μ8 ⟨rfl, hR9, x11, hF10⟩
          have hF12 : ∀ id, (id < o ∨ o + 9 ≤ id) → μ8 id = μ id := fun id hid => (show μ8 id = μ4 id from (hF10 _ (by omega))).trans (hF1 id hid)
          refine x_istore_n [(2, .int (x_b (movedB (hoursF a i)))), (3, .int (nI i)), (0, .ref (E.1 + o)), (1, .int (nI n))] d_X0_yardBehind_26 rfl (Nat.le_of_ble_eq_true rfl) rfl ?_
          refine x_iinc [(3, .int (nI (i + 1))), (2, .int (x_b (movedB (hoursF a i)))), (0, .ref (E.1 + o)), (1, .int (nI n))] 1 d_X0_yardBehind_27 rfl (x_inc _) (Nat.le_of_ble_eq_true rfl) rfl ?_
          refine x_goto 4 d_X0_yardBehind_30 (by decide) ?_
          exact ih2 (i + 1) (by omega) (by omega) (movedB (hoursF a i)) μ8 (fun z => stay_yard hI (i := i) z (by omega)) hR9 hF12
  exact L1 0 (by omega) true μ (fun z => by cases z) hR (fun _ _ => rfl)
def m_X0_becomes : x_M := (yX0_becomes, prog_2_method_2_code, 2, none, 1, 26)
theorem v_X0_becomes : x_VM m_X0_becomes 1 := ⟨q312, q2, by decide +kernel, by decide +kernel, by decide +kernel⟩
theorem w_X0_becomes : x_VI m_X0_becomes := ⟨q310, q311⟩
theorem d_X0_becomes_0 : x_dec m_X0_becomes 0 (.aload_n 1) 1 1 := ⟨by decide +kernel, rfl⟩
theorem d_X0_becomes_1 : x_dec m_X0_becomes 1 (.getfield 9) 3 4 := ⟨by decide +kernel, rfl⟩
theorem d_X0_becomes_4 : x_dec m_X0_becomes 4 (.iconst 0) 1 5 := ⟨by decide +kernel, rfl⟩
theorem d_X0_becomes_5 : x_dec m_X0_becomes 5 (.aload_n 0) 1 6 := ⟨by decide +kernel, rfl⟩
theorem d_X0_becomes_6 : x_dec m_X0_becomes 6 (.getfield 9) 3 9 := ⟨by decide +kernel, rfl⟩
theorem d_X0_becomes_9 : x_dec m_X0_becomes 9 (.iconst 0) 1 10 := ⟨by decide +kernel, rfl⟩
theorem d_X0_becomes_10 : x_dec m_X0_becomes 10 (.bipush 16) 2 12 := ⟨by decide +kernel, rfl⟩
theorem d_X0_becomes_12 : x_dec m_X0_becomes 12 (.invokestatic 67) 3 15 := ⟨by decide +kernel, rfl⟩
theorem d_X0_becomes_15 : x_dec m_X0_becomes 15 (.aload_n 1) 1 16 := ⟨by decide +kernel, rfl⟩
theorem d_X0_becomes_16 : x_dec m_X0_becomes 16 (.getfield 15) 3 19 := ⟨by decide +kernel, rfl⟩
theorem d_X0_becomes_19 : x_dec m_X0_becomes 19 (.iconst 0) 1 20 := ⟨by decide +kernel, rfl⟩
theorem d_X0_becomes_20 : x_dec m_X0_becomes 20 (.aload_n 0) 1 21 := ⟨by decide +kernel, rfl⟩
theorem d_X0_becomes_21 : x_dec m_X0_becomes 21 (.getfield 15) 3 24 := ⟨by decide +kernel, rfl⟩
theorem d_X0_becomes_24 : x_dec m_X0_becomes 24 (.iconst 0) 1 25 := ⟨by decide +kernel, rfl⟩
theorem d_X0_becomes_25 : x_dec m_X0_becomes 25 (.bipush 8) 2 27 := ⟨by decide +kernel, rfl⟩
theorem d_X0_becomes_27 : x_dec m_X0_becomes 27 (.invokestatic 67) 3 30 := ⟨by decide +kernel, rfl⟩
theorem d_X0_becomes_30 : x_dec m_X0_becomes 30 (.aload_n 1) 1 31 := ⟨by decide +kernel, rfl⟩
theorem d_X0_becomes_31 : x_dec m_X0_becomes 31 (.getfield 18) 3 34 := ⟨by decide +kernel, rfl⟩
theorem d_X0_becomes_34 : x_dec m_X0_becomes 34 (.iconst 0) 1 35 := ⟨by decide +kernel, rfl⟩
theorem d_X0_becomes_35 : x_dec m_X0_becomes 35 (.aload_n 0) 1 36 := ⟨by decide +kernel, rfl⟩
theorem d_X0_becomes_36 : x_dec m_X0_becomes 36 (.getfield 18) 3 39 := ⟨by decide +kernel, rfl⟩
theorem d_X0_becomes_39 : x_dec m_X0_becomes 39 (.iconst 0) 1 40 := ⟨by decide +kernel, rfl⟩
theorem d_X0_becomes_40 : x_dec m_X0_becomes 40 (.bipush 8) 2 42 := ⟨by decide +kernel, rfl⟩
theorem d_X0_becomes_42 : x_dec m_X0_becomes 42 (.invokestatic 67) 3 45 := ⟨by decide +kernel, rfl⟩
theorem d_X0_becomes_45 : x_dec m_X0_becomes 45 (.aload_n 1) 1 46 := ⟨by decide +kernel, rfl⟩
theorem d_X0_becomes_46 : x_dec m_X0_becomes 46 (.getfield 21) 3 49 := ⟨by decide +kernel, rfl⟩
theorem d_X0_becomes_49 : x_dec m_X0_becomes 49 (.iconst 0) 1 50 := ⟨by decide +kernel, rfl⟩
theorem d_X0_becomes_50 : x_dec m_X0_becomes 50 (.aload_n 0) 1 51 := ⟨by decide +kernel, rfl⟩
theorem d_X0_becomes_51 : x_dec m_X0_becomes 51 (.getfield 21) 3 54 := ⟨by decide +kernel, rfl⟩
theorem d_X0_becomes_54 : x_dec m_X0_becomes 54 (.iconst 0) 1 55 := ⟨by decide +kernel, rfl⟩
theorem d_X0_becomes_55 : x_dec m_X0_becomes 55 (.bipush 8) 2 57 := ⟨by decide +kernel, rfl⟩
theorem d_X0_becomes_57 : x_dec m_X0_becomes 57 (.invokestatic 67) 3 60 := ⟨by decide +kernel, rfl⟩
theorem d_X0_becomes_60 : x_dec m_X0_becomes 60 (.aload_n 1) 1 61 := ⟨by decide +kernel, rfl⟩
theorem d_X0_becomes_61 : x_dec m_X0_becomes 61 (.getfield 24) 3 64 := ⟨by decide +kernel, rfl⟩
theorem d_X0_becomes_64 : x_dec m_X0_becomes 64 (.iconst 0) 1 65 := ⟨by decide +kernel, rfl⟩
theorem d_X0_becomes_65 : x_dec m_X0_becomes 65 (.aload_n 0) 1 66 := ⟨by decide +kernel, rfl⟩
theorem d_X0_becomes_66 : x_dec m_X0_becomes 66 (.getfield 24) 3 69 := ⟨by decide +kernel, rfl⟩
theorem d_X0_becomes_69 : x_dec m_X0_becomes 69 (.iconst 0) 1 70 := ⟨by decide +kernel, rfl⟩
theorem d_X0_becomes_70 : x_dec m_X0_becomes 70 (.bipush 10) 2 72 := ⟨by decide +kernel, rfl⟩
theorem d_X0_becomes_72 : x_dec m_X0_becomes 72 (.invokestatic 67) 3 75 := ⟨by decide +kernel, rfl⟩
theorem d_X0_becomes_75 : x_dec m_X0_becomes 75 (.aload_n 0) 1 76 := ⟨by decide +kernel, rfl⟩
theorem d_X0_becomes_76 : x_dec m_X0_becomes 76 (.aload_n 1) 1 77 := ⟨by decide +kernel, rfl⟩
theorem d_X0_becomes_77 : x_dec m_X0_becomes 77 (.getfield 27) 3 80 := ⟨by decide +kernel, rfl⟩
theorem d_X0_becomes_80 : x_dec m_X0_becomes 80 (.putfield 27) 3 83 := ⟨by decide +kernel, rfl⟩
theorem d_X0_becomes_83 : x_dec m_X0_becomes 83 (.aload_n 0) 1 84 := ⟨by decide +kernel, rfl⟩
theorem d_X0_becomes_84 : x_dec m_X0_becomes 84 (.aload_n 1) 1 85 := ⟨by decide +kernel, rfl⟩
theorem d_X0_becomes_85 : x_dec m_X0_becomes 85 (.getfield 31) 3 88 := ⟨by decide +kernel, rfl⟩
theorem d_X0_becomes_88 : x_dec m_X0_becomes 88 (.putfield 31) 3 91 := ⟨by decide +kernel, rfl⟩
theorem d_X0_becomes_91 : x_dec m_X0_becomes 91 (.aload_n 0) 1 92 := ⟨by decide +kernel, rfl⟩
theorem d_X0_becomes_92 : x_dec m_X0_becomes 92 (.aload_n 1) 1 93 := ⟨by decide +kernel, rfl⟩
theorem d_X0_becomes_93 : x_dec m_X0_becomes 93 (.getfield 34) 3 96 := ⟨by decide +kernel, rfl⟩
theorem d_X0_becomes_96 : x_dec m_X0_becomes 96 (.putfield 34) 3 99 := ⟨by decide +kernel, rfl⟩
theorem d_X0_becomes_99 : x_dec m_X0_becomes 99 (.aload_n 0) 1 100 := ⟨by decide +kernel, rfl⟩
theorem d_X0_becomes_100 : x_dec m_X0_becomes 100 (.aload_n 1) 1 101 := ⟨by decide +kernel, rfl⟩
theorem d_X0_becomes_101 : x_dec m_X0_becomes 101 (.getfield 37) 3 104 := ⟨by decide +kernel, rfl⟩
theorem d_X0_becomes_104 : x_dec m_X0_becomes 104 (.putfield 37) 3 107 := ⟨by decide +kernel, rfl⟩
theorem d_X0_becomes_107 : x_dec m_X0_becomes 107 (.aload_n 0) 1 108 := ⟨by decide +kernel, rfl⟩
theorem d_X0_becomes_108 : x_dec m_X0_becomes 108 (.aload_n 1) 1 109 := ⟨by decide +kernel, rfl⟩
theorem d_X0_becomes_109 : x_dec m_X0_becomes 109 (.getfield 40) 3 112 := ⟨by decide +kernel, rfl⟩
theorem d_X0_becomes_112 : x_dec m_X0_becomes 112 (.putfield 40) 3 115 := ⟨by decide +kernel, rfl⟩
theorem d_X0_becomes_115 : x_dec m_X0_becomes 115 (.aload_n 0) 1 116 := ⟨by decide +kernel, rfl⟩
theorem d_X0_becomes_116 : x_dec m_X0_becomes 116 (.aload_n 1) 1 117 := ⟨by decide +kernel, rfl⟩
theorem d_X0_becomes_117 : x_dec m_X0_becomes 117 (.getfield 43) 3 120 := ⟨by decide +kernel, rfl⟩
theorem d_X0_becomes_120 : x_dec m_X0_becomes 120 (.putfield 43) 3 123 := ⟨by decide +kernel, rfl⟩
theorem d_X0_becomes_123 : x_dec m_X0_becomes 123 (.aload_n 0) 1 124 := ⟨by decide +kernel, rfl⟩
theorem d_X0_becomes_124 : x_dec m_X0_becomes 124 (.aload_n 1) 1 125 := ⟨by decide +kernel, rfl⟩
theorem d_X0_becomes_125 : x_dec m_X0_becomes 125 (.getfield 46) 3 128 := ⟨by decide +kernel, rfl⟩
theorem d_X0_becomes_128 : x_dec m_X0_becomes 128 (.putfield 46) 3 131 := ⟨by decide +kernel, rfl⟩
theorem d_X0_becomes_131 : x_dec m_X0_becomes 131 (.aload_n 0) 1 132 := ⟨by decide +kernel, rfl⟩
theorem d_X0_becomes_132 : x_dec m_X0_becomes 132 (.aload_n 1) 1 133 := ⟨by decide +kernel, rfl⟩
theorem d_X0_becomes_133 : x_dec m_X0_becomes 133 (.getfield 49) 3 136 := ⟨by decide +kernel, rfl⟩
theorem d_X0_becomes_136 : x_dec m_X0_becomes 136 (.putfield 49) 3 139 := ⟨by decide +kernel, rfl⟩
theorem d_X0_becomes_139 : x_dec m_X0_becomes 139 (.return_) 1 140 := ⟨by decide +kernel, rfl⟩
set_option maxHeartbeats 4000000 in
set_option maxRecDepth 100000 in
theorem c_X0_becomes (l : Launch) (E : x_E) (μ : x_Mem) {a : x_St} {o o2 : Nat} (ho : x_pr o) (ho2 : x_pr o2) (hne : o ≠ o2) (hR : PR a o2 μ) {h : Int32} (hh : μ o2 11 = h) : x_Met l m_X0_becomes E [.ref (E.1 + o), .ref (E.1 + o2)] μ (x_J (fun m => PR a o m ∧ m o 11 = h ∧ ∀ id, (id < o ∨ o + 6 ≤ id) → m id = μ id)) := by
  have ho1 : o = 1 ∨ o = 10 ∨ o = 19 := ho
  have ho3 : o2 = 1 ∨ o2 = 10 ∨ o2 = 19 := ho2
  have hF : ∀ id, (id < o ∨ o + 6 ≤ id) → μ id = μ id := fun _ _ => rfl
  refine x_enter (lv := [(0, .ref (E.1 + o)), (1, .ref (E.1 + o2))]) (by decide +kernel) (Nat.le_of_ble_eq_true rfl) rfl ?_
  refine x_aload_n 1 d_X0_becomes_0 rfl rfl ?_
  refine x_getr (j := 0) (o2 + 1) x_c0 (p_kd ho2) (Nat.le_of_ble_eq_true rfl) q31 (p_f0 ho2) d_X0_becomes_1 ?_
  refine x_iconst (x := 0) d_X0_becomes_4 (by decide) ?_
  refine x_aload_n 0 d_X0_becomes_5 rfl rfl ?_
  refine x_getr (j := 0) (o + 1) x_c0 (p_kd ho) (Nat.le_of_ble_eq_true rfl) q31 (p_f0 ho) d_X0_becomes_6 ?_
  refine x_iconst (x := 0) d_X0_becomes_9 (by decide) ?_
  refine x_bipush (x := 16) d_X0_becomes_10 (by decide) ?_
  refine x_copyG 16 16 0 0 16 (p_k1 ho2) (p_k1 ho) (p_l1 ho2) (p_l1 ho) q272 q274 q273 q8 (by omega) (by omega) (by decide) (by decide) (Nat.le_of_ble_eq_true rfl) (Nat.le_of_ble_eq_true rfl) d_X0_becomes_12 (fun μ1 eμ1 => ?_)
  have hD2 : ∀ j, j < 16 → μ1 (o + 1) j = a (8 + j) := fun j hj => by rw [eμ1, cpy2_in hj]; exact PR.need hR j hj
  have hS3 := PR.cg hR (μ' := μ1) (fun id hid => (by rw [eμ1]; exact if_neg (by omega)))
  have hH4 := hh
  rw [← (show μ1 o2 = μ o2 from (by rw [eμ1]; exact if_neg (by omega)))] at hH4
  have hF5 : ∀ id, (id < o ∨ o + 6 ≤ id) → μ1 id = μ id := fun id hid => (show μ1 id = μ id from (by rw [eμ1]; exact if_neg (by omega))).trans (hF id hid)
  refine x_aload_n 1 d_X0_becomes_15 rfl rfl ?_
  refine x_getr (j := 1) (o2 + 2) x_c0 (p_kd ho2) (Nat.le_of_ble_eq_true rfl) q34 (p_f1 ho2) d_X0_becomes_16 ?_
  refine x_iconst (x := 0) d_X0_becomes_19 (by decide) ?_
  refine x_aload_n 0 d_X0_becomes_20 rfl rfl ?_
  refine x_getr (j := 1) (o + 2) x_c0 (p_kd ho) (Nat.le_of_ble_eq_true rfl) q34 (p_f1 ho) d_X0_becomes_21 ?_
  refine x_iconst (x := 0) d_X0_becomes_24 (by decide) ?_
  refine x_bipush (x := 8) d_X0_becomes_25 (by decide) ?_
  refine x_copyG 8 8 0 0 8 (p_k2 ho2) (p_k2 ho) (p_l2 ho2) (p_l2 ho) q272 q274 q273 q8 (by omega) (by omega) (by decide) (by decide) (Nat.le_of_ble_eq_true rfl) (Nat.le_of_ble_eq_true rfl) d_X0_becomes_27 (fun μ6 eμ6 => ?_)
  have hD7 : ∀ j, j < 8 → μ6 (o + 2) j = a (24 + 3 * j) := fun j hj => by rw [eμ6, cpy2_in hj]; exact PR.kd hS3 j hj
  have hS8 := PR.cg hS3 (μ' := μ6) (fun id hid => (by rw [eμ6]; exact if_neg (by omega)))
  have hH9 := hH4
  rw [← (show μ6 o2 = μ1 o2 from (by rw [eμ6]; exact if_neg (by omega)))] at hH9
  have hF10 : ∀ id, (id < o ∨ o + 6 ≤ id) → μ6 id = μ id := fun id hid => (show μ6 id = μ1 id from (by rw [eμ6]; exact if_neg (by omega))).trans (hF5 id hid)
  have hD111 := hD2
  rw [← (show μ6 (o + 1) = μ1 (o + 1) from (by rw [eμ6]; exact if_neg (by omega)))] at hD111
  refine x_aload_n 1 d_X0_becomes_30 rfl rfl ?_
  refine x_getr (j := 2) (o2 + 3) x_c0 (p_kd ho2) (Nat.le_of_ble_eq_true rfl) q36 (p_f2 ho2) d_X0_becomes_31 ?_
  refine x_iconst (x := 0) d_X0_becomes_34 (by decide) ?_
  refine x_aload_n 0 d_X0_becomes_35 rfl rfl ?_
  refine x_getr (j := 2) (o + 3) x_c0 (p_kd ho) (Nat.le_of_ble_eq_true rfl) q36 (p_f2 ho) d_X0_becomes_36 ?_
  refine x_iconst (x := 0) d_X0_becomes_39 (by decide) ?_
  refine x_bipush (x := 8) d_X0_becomes_40 (by decide) ?_
  refine x_copyG 8 8 0 0 8 (p_k3 ho2) (p_k3 ho) (p_l3 ho2) (p_l3 ho) q272 q274 q273 q8 (by omega) (by omega) (by decide) (by decide) (Nat.le_of_ble_eq_true rfl) (Nat.le_of_ble_eq_true rfl) d_X0_becomes_42 (fun μ12 eμ12 => ?_)
  have hD13 : ∀ j, j < 8 → μ12 (o + 3) j = a (24 + 3 * j + 1) := fun j hj => by rw [eμ12, cpy2_in hj]; exact PR.wh hS8 j hj
  have hS14 := PR.cg hS8 (μ' := μ12) (fun id hid => (by rw [eμ12]; exact if_neg (by omega)))
  have hH15 := hH9
  rw [← (show μ12 o2 = μ6 o2 from (by rw [eμ12]; exact if_neg (by omega)))] at hH15
  have hF16 : ∀ id, (id < o ∨ o + 6 ≤ id) → μ12 id = μ id := fun id hid => (show μ12 id = μ6 id from (by rw [eμ12]; exact if_neg (by omega))).trans (hF10 id hid)
  have hD117 := hD111
  rw [← (show μ12 (o + 1) = μ6 (o + 1) from (by rw [eμ12]; exact if_neg (by omega)))] at hD117
  have hD218 := hD7
  rw [← (show μ12 (o + 2) = μ6 (o + 2) from (by rw [eμ12]; exact if_neg (by omega)))] at hD218
  refine x_aload_n 1 d_X0_becomes_45 rfl rfl ?_
  refine x_getr (j := 3) (o2 + 4) x_c0 (p_kd ho2) (Nat.le_of_ble_eq_true rfl) q38 (p_f3 ho2) d_X0_becomes_46 ?_
  refine x_iconst (x := 0) d_X0_becomes_49 (by decide) ?_
  refine x_aload_n 0 d_X0_becomes_50 rfl rfl ?_
  refine x_getr (j := 3) (o + 4) x_c0 (p_kd ho) (Nat.le_of_ble_eq_true rfl) q38 (p_f3 ho) d_X0_becomes_51 ?_
  refine x_iconst (x := 0) d_X0_becomes_54 (by decide) ?_
  refine x_bipush (x := 8) d_X0_becomes_55 (by decide) ?_
  refine x_copyG 8 8 0 0 8 (p_k4 ho2) (p_k4 ho) (p_l4 ho2) (p_l4 ho) q272 q274 q273 q8 (by omega) (by omega) (by decide) (by decide) (Nat.le_of_ble_eq_true rfl) (Nat.le_of_ble_eq_true rfl) d_X0_becomes_57 (fun μ19 eμ19 => ?_)
  have hD20 : ∀ j, j < 8 → μ19 (o + 4) j = a (24 + 3 * j + 2) := fun j hj => by rw [eμ19, cpy2_in hj]; exact PR.bl hS14 j hj
  have hS21 := PR.cg hS14 (μ' := μ19) (fun id hid => (by rw [eμ19]; exact if_neg (by omega)))
  have hH22 := hH15
  rw [← (show μ19 o2 = μ12 o2 from (by rw [eμ19]; exact if_neg (by omega)))] at hH22
  have hF23 : ∀ id, (id < o ∨ o + 6 ≤ id) → μ19 id = μ id := fun id hid => (show μ19 id = μ12 id from (by rw [eμ19]; exact if_neg (by omega))).trans (hF16 id hid)
  have hD124 := hD117
  rw [← (show μ19 (o + 1) = μ12 (o + 1) from (by rw [eμ19]; exact if_neg (by omega)))] at hD124
  have hD225 := hD218
  rw [← (show μ19 (o + 2) = μ12 (o + 2) from (by rw [eμ19]; exact if_neg (by omega)))] at hD225
  have hD326 := hD13
  rw [← (show μ19 (o + 3) = μ12 (o + 3) from (by rw [eμ19]; exact if_neg (by omega)))] at hD326
  refine x_aload_n 1 d_X0_becomes_60 rfl rfl ?_
  refine x_getr (j := 4) (o2 + 5) x_c0 (p_kd ho2) (Nat.le_of_ble_eq_true rfl) q40 (p_f4 ho2) d_X0_becomes_61 ?_
  refine x_iconst (x := 0) d_X0_becomes_64 (by decide) ?_
  refine x_aload_n 0 d_X0_becomes_65 rfl rfl ?_
  refine x_getr (j := 4) (o + 5) x_c0 (p_kd ho) (Nat.le_of_ble_eq_true rfl) q40 (p_f4 ho) d_X0_becomes_66 ?_
  refine x_iconst (x := 0) d_X0_becomes_69 (by decide) ?_
  refine x_bipush (x := 10) d_X0_becomes_70 (by decide) ?_
  refine x_copyG 10 10 0 0 10 (p_k5 ho2) (p_k5 ho) (p_l5 ho2) (p_l5 ho) q272 q274 q273 q8 (by omega) (by omega) (by decide) (by decide) (Nat.le_of_ble_eq_true rfl) (Nat.le_of_ble_eq_true rfl) d_X0_becomes_72 (fun μ27 eμ27 => ?_)
  have hD28 : ∀ j, j < 10 → μ27 (o + 5) j = a (48 + j) := fun j hj => by rw [eμ27, cpy2_in hj]; exact PR.spot hS21 j hj
  have hS29 := PR.cg hS21 (μ' := μ27) (fun id hid => (by rw [eμ27]; exact if_neg (by omega)))
  have hH30 := hH22
  rw [← (show μ27 o2 = μ19 o2 from (by rw [eμ27]; exact if_neg (by omega)))] at hH30
  have hF31 : ∀ id, (id < o ∨ o + 6 ≤ id) → μ27 id = μ id := fun id hid => (show μ27 id = μ19 id from (by rw [eμ27]; exact if_neg (by omega))).trans (hF23 id hid)
  have hD132 := hD124
  rw [← (show μ27 (o + 1) = μ19 (o + 1) from (by rw [eμ27]; exact if_neg (by omega)))] at hD132
  have hD233 := hD225
  rw [← (show μ27 (o + 2) = μ19 (o + 2) from (by rw [eμ27]; exact if_neg (by omega)))] at hD233
  have hD334 := hD326
  rw [← (show μ27 (o + 3) = μ19 (o + 3) from (by rw [eμ27]; exact if_neg (by omega)))] at hD334
  have hD435 := hD20
  rw [← (show μ27 (o + 4) = μ19 (o + 4) from (by rw [eμ27]; exact if_neg (by omega)))] at hD435
  refine x_aload_n 0 d_X0_becomes_75 rfl rfl ?_
  refine x_aload_n 1 d_X0_becomes_76 rfl rfl ?_
  refine x_getiV (j := 5) (z := a 7) x_c0 (p_kd ho2) (Nat.le_of_ble_eq_true rfl) q42 (p_n5 ho2) (PR.f5 hS29) d_X0_becomes_77 ?_
  refine x_putiG (j := 5) x_c0 (p_kd ho) (Nat.le_of_ble_eq_true rfl) q42 (p_n5 ho) rfl rfl d_X0_becomes_80 (fun μ36 eμ36 => ?_)
  have hG37 : μ36 o 5 = a 7 := by rw [eμ36, upd2_at, upd_s]
  have hS38 := PR.cg hS29 (μ' := μ36) (fun id hid => (by rw [eμ36, upd2_ne _ _ _ (by omega)]))
  have hH39 := hH30
  rw [← (show μ36 o2 = μ27 o2 from (by rw [eμ36, upd2_ne _ _ _ (by omega)]))] at hH39
  have hF40 : ∀ id, (id < o ∨ o + 6 ≤ id) → μ36 id = μ id := fun id hid => (show μ36 id = μ27 id from (by rw [eμ36, upd2_ne _ _ _ (by omega)])).trans (hF31 id hid)
  have hD141 := hD132
  rw [← (show μ36 (o + 1) = μ27 (o + 1) from (by rw [eμ36, upd2_ne _ _ _ (by omega)]))] at hD141
  have hD242 := hD233
  rw [← (show μ36 (o + 2) = μ27 (o + 2) from (by rw [eμ36, upd2_ne _ _ _ (by omega)]))] at hD242
  have hD343 := hD334
  rw [← (show μ36 (o + 3) = μ27 (o + 3) from (by rw [eμ36, upd2_ne _ _ _ (by omega)]))] at hD343
  have hD444 := hD435
  rw [← (show μ36 (o + 4) = μ27 (o + 4) from (by rw [eμ36, upd2_ne _ _ _ (by omega)]))] at hD444
  have hD545 := hD28
  rw [← (show μ36 (o + 5) = μ27 (o + 5) from (by rw [eμ36, upd2_ne _ _ _ (by omega)]))] at hD545
  refine x_aload_n 0 d_X0_becomes_83 rfl rfl ?_
  refine x_aload_n 1 d_X0_becomes_84 rfl rfl ?_
  refine x_getiV (j := 6) (z := a 1) x_c0 (p_kd ho2) (Nat.le_of_ble_eq_true rfl) q45 (p_n6 ho2) (PR.f6 hS38) d_X0_becomes_85 ?_
  refine x_putiG (j := 6) x_c0 (p_kd ho) (Nat.le_of_ble_eq_true rfl) q45 (p_n6 ho) rfl rfl d_X0_becomes_88 (fun μ46 eμ46 => ?_)
  have hG47 : μ46 o 5 = a 7 := by rw [eμ46, upd2_at, upd_n _ _ (by decide)]; exact hG37
  have hG48 : μ46 o 6 = a 1 := by rw [eμ46, upd2_at, upd_s]
  have hS49 := PR.cg hS38 (μ' := μ46) (fun id hid => (by rw [eμ46, upd2_ne _ _ _ (by omega)]))
  have hH50 := hH39
  rw [← (show μ46 o2 = μ36 o2 from (by rw [eμ46, upd2_ne _ _ _ (by omega)]))] at hH50
  have hF51 : ∀ id, (id < o ∨ o + 6 ≤ id) → μ46 id = μ id := fun id hid => (show μ46 id = μ36 id from (by rw [eμ46, upd2_ne _ _ _ (by omega)])).trans (hF40 id hid)
  have hD152 := hD141
  rw [← (show μ46 (o + 1) = μ36 (o + 1) from (by rw [eμ46, upd2_ne _ _ _ (by omega)]))] at hD152
  have hD253 := hD242
  rw [← (show μ46 (o + 2) = μ36 (o + 2) from (by rw [eμ46, upd2_ne _ _ _ (by omega)]))] at hD253
  have hD354 := hD343
  rw [← (show μ46 (o + 3) = μ36 (o + 3) from (by rw [eμ46, upd2_ne _ _ _ (by omega)]))] at hD354
  have hD455 := hD444
  rw [← (show μ46 (o + 4) = μ36 (o + 4) from (by rw [eμ46, upd2_ne _ _ _ (by omega)]))] at hD455
  have hD556 := hD545
  rw [← (show μ46 (o + 5) = μ36 (o + 5) from (by rw [eμ46, upd2_ne _ _ _ (by omega)]))] at hD556
  refine x_aload_n 0 d_X0_becomes_91 rfl rfl ?_
  refine x_aload_n 1 d_X0_becomes_92 rfl rfl ?_
  refine x_getiV (j := 7) (z := a 2) x_c0 (p_kd ho2) (Nat.le_of_ble_eq_true rfl) q48 (p_n7 ho2) (PR.f7 hS49) d_X0_becomes_93 ?_
  refine x_putiG (j := 7) x_c0 (p_kd ho) (Nat.le_of_ble_eq_true rfl) q48 (p_n7 ho) rfl rfl d_X0_becomes_96 (fun μ57 eμ57 => ?_)
  have hG58 : μ57 o 5 = a 7 := by rw [eμ57, upd2_at, upd_n _ _ (by decide)]; exact hG47
  have hG59 : μ57 o 6 = a 1 := by rw [eμ57, upd2_at, upd_n _ _ (by decide)]; exact hG48
  have hG60 : μ57 o 7 = a 2 := by rw [eμ57, upd2_at, upd_s]
  have hS61 := PR.cg hS49 (μ' := μ57) (fun id hid => (by rw [eμ57, upd2_ne _ _ _ (by omega)]))
  have hH62 := hH50
  rw [← (show μ57 o2 = μ46 o2 from (by rw [eμ57, upd2_ne _ _ _ (by omega)]))] at hH62
  have hF63 : ∀ id, (id < o ∨ o + 6 ≤ id) → μ57 id = μ id := fun id hid => (show μ57 id = μ46 id from (by rw [eμ57, upd2_ne _ _ _ (by omega)])).trans (hF51 id hid)
  have hD164 := hD152
  rw [← (show μ57 (o + 1) = μ46 (o + 1) from (by rw [eμ57, upd2_ne _ _ _ (by omega)]))] at hD164
  have hD265 := hD253
  rw [← (show μ57 (o + 2) = μ46 (o + 2) from (by rw [eμ57, upd2_ne _ _ _ (by omega)]))] at hD265
  have hD366 := hD354
  rw [← (show μ57 (o + 3) = μ46 (o + 3) from (by rw [eμ57, upd2_ne _ _ _ (by omega)]))] at hD366
  have hD467 := hD455
  rw [← (show μ57 (o + 4) = μ46 (o + 4) from (by rw [eμ57, upd2_ne _ _ _ (by omega)]))] at hD467
  have hD568 := hD556
  rw [← (show μ57 (o + 5) = μ46 (o + 5) from (by rw [eμ57, upd2_ne _ _ _ (by omega)]))] at hD568
  refine x_aload_n 0 d_X0_becomes_99 rfl rfl ?_
  refine x_aload_n 1 d_X0_becomes_100 rfl rfl ?_
  refine x_getiV (j := 8) (z := a 3) x_c0 (p_kd ho2) (Nat.le_of_ble_eq_true rfl) q51 (p_n8 ho2) (PR.f8 hS61) d_X0_becomes_101 ?_
  refine x_putiG (j := 8) x_c0 (p_kd ho) (Nat.le_of_ble_eq_true rfl) q51 (p_n8 ho) rfl rfl d_X0_becomes_104 (fun μ69 eμ69 => ?_)
  have hG70 : μ69 o 5 = a 7 := by rw [eμ69, upd2_at, upd_n _ _ (by decide)]; exact hG58
  have hG71 : μ69 o 6 = a 1 := by rw [eμ69, upd2_at, upd_n _ _ (by decide)]; exact hG59
  have hG72 : μ69 o 7 = a 2 := by rw [eμ69, upd2_at, upd_n _ _ (by decide)]; exact hG60
  have hG73 : μ69 o 8 = a 3 := by rw [eμ69, upd2_at, upd_s]
  have hS74 := PR.cg hS61 (μ' := μ69) (fun id hid => (by rw [eμ69, upd2_ne _ _ _ (by omega)]))
  have hH75 := hH62
  rw [← (show μ69 o2 = μ57 o2 from (by rw [eμ69, upd2_ne _ _ _ (by omega)]))] at hH75
  have hF76 : ∀ id, (id < o ∨ o + 6 ≤ id) → μ69 id = μ id := fun id hid => (show μ69 id = μ57 id from (by rw [eμ69, upd2_ne _ _ _ (by omega)])).trans (hF63 id hid)
  have hD177 := hD164
  rw [← (show μ69 (o + 1) = μ57 (o + 1) from (by rw [eμ69, upd2_ne _ _ _ (by omega)]))] at hD177
  have hD278 := hD265
  rw [← (show μ69 (o + 2) = μ57 (o + 2) from (by rw [eμ69, upd2_ne _ _ _ (by omega)]))] at hD278
  have hD379 := hD366
  rw [← (show μ69 (o + 3) = μ57 (o + 3) from (by rw [eμ69, upd2_ne _ _ _ (by omega)]))] at hD379
  have hD480 := hD467
  rw [← (show μ69 (o + 4) = μ57 (o + 4) from (by rw [eμ69, upd2_ne _ _ _ (by omega)]))] at hD480
  have hD581 := hD568
  rw [← (show μ69 (o + 5) = μ57 (o + 5) from (by rw [eμ69, upd2_ne _ _ _ (by omega)]))] at hD581
  refine x_aload_n 0 d_X0_becomes_107 rfl rfl ?_
  refine x_aload_n 1 d_X0_becomes_108 rfl rfl ?_
  refine x_getiV (j := 9) (z := a 4) x_c0 (p_kd ho2) (Nat.le_of_ble_eq_true rfl) q54 (p_n9 ho2) (PR.f9 hS74) d_X0_becomes_109 ?_
  refine x_putiG (j := 9) x_c0 (p_kd ho) (Nat.le_of_ble_eq_true rfl) q54 (p_n9 ho) rfl rfl d_X0_becomes_112 (fun μ82 eμ82 => ?_)
  have hG83 : μ82 o 5 = a 7 := by rw [eμ82, upd2_at, upd_n _ _ (by decide)]; exact hG70
  have hG84 : μ82 o 6 = a 1 := by rw [eμ82, upd2_at, upd_n _ _ (by decide)]; exact hG71
  have hG85 : μ82 o 7 = a 2 := by rw [eμ82, upd2_at, upd_n _ _ (by decide)]; exact hG72
  have hG86 : μ82 o 8 = a 3 := by rw [eμ82, upd2_at, upd_n _ _ (by decide)]; exact hG73
  have hG87 : μ82 o 9 = a 4 := by rw [eμ82, upd2_at, upd_s]
  have hS88 := PR.cg hS74 (μ' := μ82) (fun id hid => (by rw [eμ82, upd2_ne _ _ _ (by omega)]))
  have hH89 := hH75
  rw [← (show μ82 o2 = μ69 o2 from (by rw [eμ82, upd2_ne _ _ _ (by omega)]))] at hH89
  have hF90 : ∀ id, (id < o ∨ o + 6 ≤ id) → μ82 id = μ id := fun id hid => (show μ82 id = μ69 id from (by rw [eμ82, upd2_ne _ _ _ (by omega)])).trans (hF76 id hid)
  have hD191 := hD177
  rw [← (show μ82 (o + 1) = μ69 (o + 1) from (by rw [eμ82, upd2_ne _ _ _ (by omega)]))] at hD191
  have hD292 := hD278
  rw [← (show μ82 (o + 2) = μ69 (o + 2) from (by rw [eμ82, upd2_ne _ _ _ (by omega)]))] at hD292
  have hD393 := hD379
  rw [← (show μ82 (o + 3) = μ69 (o + 3) from (by rw [eμ82, upd2_ne _ _ _ (by omega)]))] at hD393
  have hD494 := hD480
  rw [← (show μ82 (o + 4) = μ69 (o + 4) from (by rw [eμ82, upd2_ne _ _ _ (by omega)]))] at hD494
  have hD595 := hD581
  rw [← (show μ82 (o + 5) = μ69 (o + 5) from (by rw [eμ82, upd2_ne _ _ _ (by omega)]))] at hD595
  refine x_aload_n 0 d_X0_becomes_115 rfl rfl ?_
  refine x_aload_n 1 d_X0_becomes_116 rfl rfl ?_
  refine x_getiV (j := 10) (z := a 5) x_c0 (p_kd ho2) (Nat.le_of_ble_eq_true rfl) q57 (p_n10 ho2) (PR.f10 hS88) d_X0_becomes_117 ?_
  refine x_putiG (j := 10) x_c0 (p_kd ho) (Nat.le_of_ble_eq_true rfl) q57 (p_n10 ho) rfl rfl d_X0_becomes_120 (fun μ96 eμ96 => ?_)
  have hG97 : μ96 o 5 = a 7 := by rw [eμ96, upd2_at, upd_n _ _ (by decide)]; exact hG83
  have hG98 : μ96 o 6 = a 1 := by rw [eμ96, upd2_at, upd_n _ _ (by decide)]; exact hG84
  have hG99 : μ96 o 7 = a 2 := by rw [eμ96, upd2_at, upd_n _ _ (by decide)]; exact hG85
  have hG100 : μ96 o 8 = a 3 := by rw [eμ96, upd2_at, upd_n _ _ (by decide)]; exact hG86
  have hG101 : μ96 o 9 = a 4 := by rw [eμ96, upd2_at, upd_n _ _ (by decide)]; exact hG87
  have hG102 : μ96 o 10 = a 5 := by rw [eμ96, upd2_at, upd_s]
  have hS103 := PR.cg hS88 (μ' := μ96) (fun id hid => (by rw [eμ96, upd2_ne _ _ _ (by omega)]))
  have hH104 := hH89
  rw [← (show μ96 o2 = μ82 o2 from (by rw [eμ96, upd2_ne _ _ _ (by omega)]))] at hH104
  have hF105 : ∀ id, (id < o ∨ o + 6 ≤ id) → μ96 id = μ id := fun id hid => (show μ96 id = μ82 id from (by rw [eμ96, upd2_ne _ _ _ (by omega)])).trans (hF90 id hid)
  have hD1106 := hD191
  rw [← (show μ96 (o + 1) = μ82 (o + 1) from (by rw [eμ96, upd2_ne _ _ _ (by omega)]))] at hD1106
  have hD2107 := hD292
  rw [← (show μ96 (o + 2) = μ82 (o + 2) from (by rw [eμ96, upd2_ne _ _ _ (by omega)]))] at hD2107
  have hD3108 := hD393
  rw [← (show μ96 (o + 3) = μ82 (o + 3) from (by rw [eμ96, upd2_ne _ _ _ (by omega)]))] at hD3108
  have hD4109 := hD494
  rw [← (show μ96 (o + 4) = μ82 (o + 4) from (by rw [eμ96, upd2_ne _ _ _ (by omega)]))] at hD4109
  have hD5110 := hD595
  rw [← (show μ96 (o + 5) = μ82 (o + 5) from (by rw [eμ96, upd2_ne _ _ _ (by omega)]))] at hD5110
  refine x_aload_n 0 d_X0_becomes_123 rfl rfl ?_
  refine x_aload_n 1 d_X0_becomes_124 rfl rfl ?_
  refine x_getiV (j := 11) (z := h) x_c0 (p_kd ho2) (Nat.le_of_ble_eq_true rfl) q59 (p_n11 ho2) hH104 d_X0_becomes_125 ?_
  refine x_putiG (j := 11) x_c0 (p_kd ho) (Nat.le_of_ble_eq_true rfl) q59 (p_n11 ho) rfl rfl d_X0_becomes_128 (fun μ111 eμ111 => ?_)
  have hG112 : μ111 o 5 = a 7 := by rw [eμ111, upd2_at, upd_n _ _ (by decide)]; exact hG97
  have hG113 : μ111 o 6 = a 1 := by rw [eμ111, upd2_at, upd_n _ _ (by decide)]; exact hG98
  have hG114 : μ111 o 7 = a 2 := by rw [eμ111, upd2_at, upd_n _ _ (by decide)]; exact hG99
  have hG115 : μ111 o 8 = a 3 := by rw [eμ111, upd2_at, upd_n _ _ (by decide)]; exact hG100
  have hG116 : μ111 o 9 = a 4 := by rw [eμ111, upd2_at, upd_n _ _ (by decide)]; exact hG101
  have hG117 : μ111 o 10 = a 5 := by rw [eμ111, upd2_at, upd_n _ _ (by decide)]; exact hG102
  have hG118 : μ111 o 11 = h := by rw [eμ111, upd2_at, upd_s]
  have hS119 := PR.cg hS103 (μ' := μ111) (fun id hid => (by rw [eμ111, upd2_ne _ _ _ (by omega)]))
  have hH120 := hH104
  rw [← (show μ111 o2 = μ96 o2 from (by rw [eμ111, upd2_ne _ _ _ (by omega)]))] at hH120
  have hF121 : ∀ id, (id < o ∨ o + 6 ≤ id) → μ111 id = μ id := fun id hid => (show μ111 id = μ96 id from (by rw [eμ111, upd2_ne _ _ _ (by omega)])).trans (hF105 id hid)
  have hD1122 := hD1106
  rw [← (show μ111 (o + 1) = μ96 (o + 1) from (by rw [eμ111, upd2_ne _ _ _ (by omega)]))] at hD1122
  have hD2123 := hD2107
  rw [← (show μ111 (o + 2) = μ96 (o + 2) from (by rw [eμ111, upd2_ne _ _ _ (by omega)]))] at hD2123
  have hD3124 := hD3108
  rw [← (show μ111 (o + 3) = μ96 (o + 3) from (by rw [eμ111, upd2_ne _ _ _ (by omega)]))] at hD3124
  have hD4125 := hD4109
  rw [← (show μ111 (o + 4) = μ96 (o + 4) from (by rw [eμ111, upd2_ne _ _ _ (by omega)]))] at hD4125
  have hD5126 := hD5110
  rw [← (show μ111 (o + 5) = μ96 (o + 5) from (by rw [eμ111, upd2_ne _ _ _ (by omega)]))] at hD5126
  refine x_aload_n 0 d_X0_becomes_131 rfl rfl ?_
  refine x_aload_n 1 d_X0_becomes_132 rfl rfl ?_
  refine x_getiV (j := 12) (z := a 6) x_c0 (p_kd ho2) (Nat.le_of_ble_eq_true rfl) q61 (p_n12 ho2) (PR.f12 hS119) d_X0_becomes_133 ?_
  refine x_putiG (j := 12) x_c0 (p_kd ho) (Nat.le_of_ble_eq_true rfl) q61 (p_n12 ho) rfl rfl d_X0_becomes_136 (fun μ127 eμ127 => ?_)
  have hG128 : μ127 o 5 = a 7 := by rw [eμ127, upd2_at, upd_n _ _ (by decide)]; exact hG112
  have hG129 : μ127 o 6 = a 1 := by rw [eμ127, upd2_at, upd_n _ _ (by decide)]; exact hG113
  have hG130 : μ127 o 7 = a 2 := by rw [eμ127, upd2_at, upd_n _ _ (by decide)]; exact hG114
  have hG131 : μ127 o 8 = a 3 := by rw [eμ127, upd2_at, upd_n _ _ (by decide)]; exact hG115
  have hG132 : μ127 o 9 = a 4 := by rw [eμ127, upd2_at, upd_n _ _ (by decide)]; exact hG116
  have hG133 : μ127 o 10 = a 5 := by rw [eμ127, upd2_at, upd_n _ _ (by decide)]; exact hG117
  have hG134 : μ127 o 11 = h := by rw [eμ127, upd2_at, upd_n _ _ (by decide)]; exact hG118
  have hG135 : μ127 o 12 = a 6 := by rw [eμ127, upd2_at, upd_s]
  have hS136 := PR.cg hS119 (μ' := μ127) (fun id hid => (by rw [eμ127, upd2_ne _ _ _ (by omega)]))
  have hH137 := hH120
  rw [← (show μ127 o2 = μ111 o2 from (by rw [eμ127, upd2_ne _ _ _ (by omega)]))] at hH137
  have hF138 : ∀ id, (id < o ∨ o + 6 ≤ id) → μ127 id = μ id := fun id hid => (show μ127 id = μ111 id from (by rw [eμ127, upd2_ne _ _ _ (by omega)])).trans (hF121 id hid)
  have hD1139 := hD1122
  rw [← (show μ127 (o + 1) = μ111 (o + 1) from (by rw [eμ127, upd2_ne _ _ _ (by omega)]))] at hD1139
  have hD2140 := hD2123
  rw [← (show μ127 (o + 2) = μ111 (o + 2) from (by rw [eμ127, upd2_ne _ _ _ (by omega)]))] at hD2140
  have hD3141 := hD3124
  rw [← (show μ127 (o + 3) = μ111 (o + 3) from (by rw [eμ127, upd2_ne _ _ _ (by omega)]))] at hD3141
  have hD4142 := hD4125
  rw [← (show μ127 (o + 4) = μ111 (o + 4) from (by rw [eμ127, upd2_ne _ _ _ (by omega)]))] at hD4142
  have hD5143 := hD5126
  rw [← (show μ127 (o + 5) = μ111 (o + 5) from (by rw [eμ127, upd2_ne _ _ _ (by omega)]))] at hD5143
  refine x_vret rfl d_X0_becomes_139 ?_
  exact ⟨PR.mk5 hD1139 hD2140 hD3141 hD4142 hD5143 hG128 hG129 hG130 hG131 hG132 hG133 hG135, hG134, hF138⟩
def m_X0_newcomer : x_M := (yX0_newcomer, prog_2_method_3_code, 5, (some FieldType.int), 0, 0)
theorem v_X0_newcomer : x_VM m_X0_newcomer 3 := ⟨q229, q2, by decide +kernel, by decide +kernel, by decide +kernel⟩
theorem w_X0_newcomer : x_VI m_X0_newcomer := ⟨q227, q228⟩
theorem d_X0_newcomer_0 : x_dec m_X0_newcomer 0 (.aload_n 0) 1 1 := ⟨by decide +kernel, rfl⟩
theorem d_X0_newcomer_1 : x_dec m_X0_newcomer 1 (.getfield 27) 3 4 := ⟨by decide +kernel, rfl⟩
theorem d_X0_newcomer_4 : x_dec m_X0_newcomer 4 (.istore 4) 2 6 := ⟨by decide +kernel, rfl⟩
theorem d_X0_newcomer_6 : x_dec m_X0_newcomer 6 (.iload 4) 2 8 := ⟨by decide +kernel, rfl⟩
theorem d_X0_newcomer_8 : x_dec m_X0_newcomer 8 (.bipush 8) 2 10 := ⟨by decide +kernel, rfl⟩
theorem d_X0_newcomer_10 : x_dec m_X0_newcomer 10 (.if_icmp .ge 37) 3 13 := ⟨by decide +kernel, rfl⟩
theorem d_X0_newcomer_13 : x_dec m_X0_newcomer 13 (.aload_n 0) 1 14 := ⟨by decide +kernel, rfl⟩
theorem d_X0_newcomer_14 : x_dec m_X0_newcomer 14 (.getfield 15) 3 17 := ⟨by decide +kernel, rfl⟩
theorem d_X0_newcomer_17 : x_dec m_X0_newcomer 17 (.iload 4) 2 19 := ⟨by decide +kernel, rfl⟩
theorem d_X0_newcomer_19 : x_dec m_X0_newcomer 19 (.iload_n 1) 1 20 := ⟨by decide +kernel, rfl⟩
theorem d_X0_newcomer_20 : x_dec m_X0_newcomer 20 (.iastore) 1 21 := ⟨by decide +kernel, rfl⟩
theorem d_X0_newcomer_21 : x_dec m_X0_newcomer 21 (.aload_n 0) 1 22 := ⟨by decide +kernel, rfl⟩
theorem d_X0_newcomer_22 : x_dec m_X0_newcomer 22 (.getfield 18) 3 25 := ⟨by decide +kernel, rfl⟩
theorem d_X0_newcomer_25 : x_dec m_X0_newcomer 25 (.iload 4) 2 27 := ⟨by decide +kernel, rfl⟩
theorem d_X0_newcomer_27 : x_dec m_X0_newcomer 27 (.iload_n 2) 1 28 := ⟨by decide +kernel, rfl⟩
theorem d_X0_newcomer_28 : x_dec m_X0_newcomer 28 (.iastore) 1 29 := ⟨by decide +kernel, rfl⟩
theorem d_X0_newcomer_29 : x_dec m_X0_newcomer 29 (.aload_n 0) 1 30 := ⟨by decide +kernel, rfl⟩
theorem d_X0_newcomer_30 : x_dec m_X0_newcomer 30 (.getfield 21) 3 33 := ⟨by decide +kernel, rfl⟩
theorem d_X0_newcomer_33 : x_dec m_X0_newcomer 33 (.iload 4) 2 35 := ⟨by decide +kernel, rfl⟩
theorem d_X0_newcomer_35 : x_dec m_X0_newcomer 35 (.iload_n 3) 1 36 := ⟨by decide +kernel, rfl⟩
theorem d_X0_newcomer_36 : x_dec m_X0_newcomer 36 (.iastore) 1 37 := ⟨by decide +kernel, rfl⟩
theorem d_X0_newcomer_37 : x_dec m_X0_newcomer 37 (.aload_n 0) 1 38 := ⟨by decide +kernel, rfl⟩
theorem d_X0_newcomer_38 : x_dec m_X0_newcomer 38 (.dup) 1 39 := ⟨by decide +kernel, rfl⟩
theorem d_X0_newcomer_39 : x_dec m_X0_newcomer 39 (.getfield 27) 3 42 := ⟨by decide +kernel, rfl⟩
theorem d_X0_newcomer_42 : x_dec m_X0_newcomer 42 (.iconst 1) 1 43 := ⟨by decide +kernel, rfl⟩
theorem d_X0_newcomer_43 : x_dec m_X0_newcomer 43 (.iadd) 1 44 := ⟨by decide +kernel, rfl⟩
theorem d_X0_newcomer_44 : x_dec m_X0_newcomer 44 (.putfield 27) 3 47 := ⟨by decide +kernel, rfl⟩
theorem d_X0_newcomer_47 : x_dec m_X0_newcomer 47 (.iload 4) 2 49 := ⟨by decide +kernel, rfl⟩
theorem d_X0_newcomer_49 : x_dec m_X0_newcomer 49 (.ireturn) 1 50 := ⟨by decide +kernel, rfl⟩
set_option maxHeartbeats 4000000 in
set_option maxRecDepth 100000 in
theorem c_X0_newcomer (l : Launch) (E : x_E) (μ : x_Mem) {a : x_St} {o : Nat} (ho : x_pr o) (hR : PR a o μ) (hI : WF a) (hlt : pn a < 8) {h : Int32} (hh : μ o 11 = h) (k w b : Int32) : x_Met l m_X0_newcomer E [.ref (E.1 + o), .int k, .int w, .int b] μ (x_I (fun z m => z = nI (pn a) ∧ PR (comeF a k w b) o m ∧ m o 11 = h ∧ ∀ id, (id < o ∨ o + 9 ≤ id) → m id = μ id)) := by
  have ho1 : o = 1 ∨ o = 10 ∨ o = 19 := ho
  have hn7 := hI.2.1
  have hpn := hI.1
  have hF : ∀ id, (id < o ∨ o + 9 ≤ id) → μ id = μ id := fun _ _ => rfl
  refine x_enter (lv := [(0, .ref (E.1 + o)), (1, .int k), (2, .int w), (3, .int b)]) (by decide +kernel) (Nat.le_of_ble_eq_true rfl) rfl ?_
  refine x_aload_n 0 d_X0_newcomer_0 rfl rfl ?_
  refine x_getiV (j := 5) (z := nI (pn a)) x_c0 (p_kd ho) (Nat.le_of_ble_eq_true rfl) q42 (p_n5 ho) (by rw [PR.f5 hR]; (repeat rw [upd_n _ _ (by omega)]); exact hn7) d_X0_newcomer_1 ?_
  refine x_istore [(4, .int (nI (pn a))), (0, .ref (E.1 + o)), (1, .int k), (2, .int w), (3, .int b)] d_X0_newcomer_4 (Nat.le_of_ble_eq_true rfl) rfl ?_
  refine x_iload 0 d_X0_newcomer_6 rfl ?_
  refine x_bipush (x := 8) d_X0_newcomer_8 (by decide) ?_
  refine x_icmp_ge 47 d_X0_newcomer_10 (by decide) (fun c1 => ?_) (fun c1 => ?_)
  · skip
    exact absurd (x_ge (N := 8) c1 rfl rfl (by omega) (by omega)) (by omega)
  · skip
    refine x_aload_n 1 d_X0_newcomer_13 rfl rfl ?_
    refine x_getr (j := 1) (o + 2) x_c0 (p_kd ho) (Nat.le_of_ble_eq_true rfl) q34 (p_f1 ho) d_X0_newcomer_14 ?_
    refine x_iload 0 d_X0_newcomer_17 rfl ?_
    refine x_iload_n 2 d_X0_newcomer_19 rfl rfl ?_
    refine x_iastNG 8 (pn a) (p_k2 ho) (p_l2 ho) (by omega) (by decide) d_X0_newcomer_20 (fun μ2 eμ2 => ?_)
    have hR3 : PR (upd a (24 + 3 * (pn a)) k) o μ2 := PR.a2 hR eμ2 (by omega)
    have hF4 : ∀ id, (id < o ∨ o + 9 ≤ id) → μ2 id = μ id := fun id hid => (show μ2 id = μ id from (by rw [eμ2, upd2_ne _ _ _ (by omega)])).trans (hF id hid)
    have hH5 := hh
    rw [← (show μ2 o = μ o from (by rw [eμ2, upd2_ne _ _ _ (by omega)]))] at hH5
    refine x_aload_n 1 d_X0_newcomer_21 rfl rfl ?_
    refine x_getr (j := 2) (o + 3) x_c0 (p_kd ho) (Nat.le_of_ble_eq_true rfl) q36 (p_f2 ho) d_X0_newcomer_22 ?_
    refine x_iload 0 d_X0_newcomer_25 rfl ?_
    refine x_iload_n 3 d_X0_newcomer_27 rfl rfl ?_
    refine x_iastNG 8 (pn a) (p_k3 ho) (p_l3 ho) (by omega) (by decide) d_X0_newcomer_28 (fun μ6 eμ6 => ?_)
    have hR7 : PR (upd (upd a (24 + 3 * (pn a)) k) (24 + 3 * (pn a) + 1) w) o μ6 := PR.a3 hR3 eμ6 (by omega)
    have hF8 : ∀ id, (id < o ∨ o + 9 ≤ id) → μ6 id = μ id := fun id hid => (show μ6 id = μ2 id from (by rw [eμ6, upd2_ne _ _ _ (by omega)])).trans (hF4 id hid)
    have hH9 := hH5
    rw [← (show μ6 o = μ2 o from (by rw [eμ6, upd2_ne _ _ _ (by omega)]))] at hH9
    refine x_aload_n 1 d_X0_newcomer_29 rfl rfl ?_
    refine x_getr (j := 3) (o + 4) x_c0 (p_kd ho) (Nat.le_of_ble_eq_true rfl) q38 (p_f3 ho) d_X0_newcomer_30 ?_
    refine x_iload 0 d_X0_newcomer_33 rfl ?_
    refine x_iload_n 4 d_X0_newcomer_35 rfl rfl ?_
    refine x_iastNG 8 (pn a) (p_k4 ho) (p_l4 ho) (by omega) (by decide) d_X0_newcomer_36 (fun μ10 eμ10 => ?_)
    have hR11 : PR (upd (upd (upd a (24 + 3 * (pn a)) k) (24 + 3 * (pn a) + 1) w) (24 + 3 * (pn a) + 2) b) o μ10 := PR.a4 hR7 eμ10 (by omega)
    have hF12 : ∀ id, (id < o ∨ o + 9 ≤ id) → μ10 id = μ id := fun id hid => (show μ10 id = μ6 id from (by rw [eμ10, upd2_ne _ _ _ (by omega)])).trans (hF8 id hid)
    have hH13 := hH9
    rw [← (show μ10 o = μ6 o from (by rw [eμ10, upd2_ne _ _ _ (by omega)]))] at hH13
    refine x_aload_n 1 d_X0_newcomer_37 rfl rfl ?_
    refine x_dup d_X0_newcomer_38 rfl ?_
    refine x_getiV (j := 5) (z := nI (pn a)) x_c0 (p_kd ho) (Nat.le_of_ble_eq_true rfl) q42 (p_n5 ho) (by rw [PR.f5 hR11]; (repeat rw [upd_n _ _ (by omega)]); exact hn7) d_X0_newcomer_39 ?_
    refine x_iconst (x := 1) d_X0_newcomer_42 (by decide) ?_
    refine x_iadd d_X0_newcomer_43 ?_
    refine x_putiG (j := 5) x_c0 (p_kd ho) (Nat.le_of_ble_eq_true rfl) q42 (p_n5 ho) rfl rfl d_X0_newcomer_44 (fun μ14 eμ14 => ?_)
    have hR15 : PR (upd (upd (upd (upd a (24 + 3 * (pn a)) k) (24 + 3 * (pn a) + 1) w) (24 + 3 * (pn a) + 2) b) 7 ((nI (pn a)) + 1)) o μ14 := PR.w5 hR11 eμ14
    have hH16 : μ14 o 11 = h := by rw [eμ14, upd2_at, upd_n _ _ (by decide)]; exact hH13
    have hF17 : ∀ id, (id < o ∨ o + 9 ≤ id) → μ14 id = μ id := fun id hid => (show μ14 id = μ10 id from (by rw [eμ14, upd2_ne _ _ _ (by omega)])).trans (hF12 id hid)
    refine x_iload 0 d_X0_newcomer_47 rfl ?_
    refine x_iret rfl d_X0_newcomer_49 ?_
    exact ⟨rfl, hR15, hH16, hF17⟩
def m_X0_nextDraw : x_M := (yX0_nextDraw, prog_2_method_14_code, 1, (some FieldType.int), 0, 0)
theorem v_X0_nextDraw : x_VM m_X0_nextDraw 0 := ⟨q455, q2, by decide +kernel, by decide +kernel, by decide +kernel⟩
theorem w_X0_nextDraw : x_VI m_X0_nextDraw := ⟨q453, q454⟩
theorem d_X0_nextDraw_0 : x_dec m_X0_nextDraw 0 (.aload_n 0) 1 1 := ⟨by decide +kernel, rfl⟩
theorem d_X0_nextDraw_1 : x_dec m_X0_nextDraw 1 (.aload_n 0) 1 2 := ⟨by decide +kernel, rfl⟩
theorem d_X0_nextDraw_2 : x_dec m_X0_nextDraw 2 (.getfield 49) 3 5 := ⟨by decide +kernel, rfl⟩
theorem d_X0_nextDraw_5 : x_dec m_X0_nextDraw 5 (.ldc 103) 2 7 := ⟨by decide +kernel, rfl⟩
theorem d_X0_nextDraw_7 : x_dec m_X0_nextDraw 7 (.imul) 1 8 := ⟨by decide +kernel, rfl⟩
theorem d_X0_nextDraw_8 : x_dec m_X0_nextDraw 8 (.sipush 12345) 3 11 := ⟨by decide +kernel, rfl⟩
theorem d_X0_nextDraw_11 : x_dec m_X0_nextDraw 11 (.iadd) 1 12 := ⟨by decide +kernel, rfl⟩
theorem d_X0_nextDraw_12 : x_dec m_X0_nextDraw 12 (.putfield 49) 3 15 := ⟨by decide +kernel, rfl⟩
theorem d_X0_nextDraw_15 : x_dec m_X0_nextDraw 15 (.aload_n 0) 1 16 := ⟨by decide +kernel, rfl⟩
theorem d_X0_nextDraw_16 : x_dec m_X0_nextDraw 16 (.getfield 49) 3 19 := ⟨by decide +kernel, rfl⟩
theorem d_X0_nextDraw_19 : x_dec m_X0_nextDraw 19 (.bipush 8) 2 21 := ⟨by decide +kernel, rfl⟩
theorem d_X0_nextDraw_21 : x_dec m_X0_nextDraw 21 (.iushr) 1 22 := ⟨by decide +kernel, rfl⟩
theorem d_X0_nextDraw_22 : x_dec m_X0_nextDraw 22 (.ireturn) 1 23 := ⟨by decide +kernel, rfl⟩
set_option maxHeartbeats 4000000 in
set_option maxRecDepth 100000 in
theorem c_X0_nextDraw (l : Launch) (E : x_E) (μ : x_Mem) {a : x_St} {o : Nat} (ho : x_pr o) (hR : PR a o μ) {h : Int32} (hh : μ o 11 = h) : x_Met l m_X0_nextDraw E [.ref (E.1 + o)] μ (x_I (fun z m => z = drawV a ∧ PR (upd a 6 (zF a)) o m ∧ m o 11 = h ∧ ∀ id, (id < o ∨ o + 9 ≤ id) → m id = μ id)) := by
  have ho1 : o = 1 ∨ o = 10 ∨ o = 19 := ho
  have hF : ∀ id, (id < o ∨ o + 9 ≤ id) → μ id = μ id := fun _ _ => rfl
  refine x_enter (lv := [(0, .ref (E.1 + o))]) (by decide +kernel) (Nat.le_of_ble_eq_true rfl) rfl ?_
  refine x_aload_n 0 d_X0_nextDraw_0 rfl rfl ?_
  refine x_aload_n 0 d_X0_nextDraw_1 rfl rfl ?_
  refine x_getiV (j := 12) (z := a 6) x_c0 (p_kd ho) (Nat.le_of_ble_eq_true rfl) q61 (p_n12 ho) (PR.f12 hR) d_X0_nextDraw_2 ?_
  refine x_ldc q456 d_X0_nextDraw_5 ?_
  refine x_imul d_X0_nextDraw_7 ?_
  refine x_sipush (x := 12345) d_X0_nextDraw_8 (by decide) ?_
  refine x_iadd d_X0_nextDraw_11 ?_
  refine x_putiG (j := 12) x_c0 (p_kd ho) (Nat.le_of_ble_eq_true rfl) q61 (p_n12 ho) rfl rfl d_X0_nextDraw_12 (fun μ1 eμ1 => ?_)
  have hR2 : PR (upd a 6 (((a 6) * 1103515245) + 12345)) o μ1 := PR.w12 hR eμ1
  have hH3 : μ1 o 11 = h := by rw [eμ1, upd2_at, upd_n _ _ (by decide)]; exact hh
  have hF4 : ∀ id, (id < o ∨ o + 9 ≤ id) → μ1 id = μ id := fun id hid => (show μ1 id = μ id from (by rw [eμ1, upd2_ne _ _ _ (by omega)])).trans (hF id hid)
  refine x_aload_n 0 d_X0_nextDraw_15 rfl rfl ?_
  refine x_getiV (j := 12) (z := (upd a 6 (((a 6) * 1103515245) + 12345)) 6) x_c0 (p_kd ho) (Nat.le_of_ble_eq_true rfl) q61 (p_n12 ho) (PR.f12 hR2) d_X0_nextDraw_16 ?_
  refine x_bipush (x := 8) d_X0_nextDraw_19 (by decide) ?_
  refine x_iushr d_X0_nextDraw_21 ?_
  refine x_iret rfl d_X0_nextDraw_22 ?_
  exact ⟨rfl, hR2, hH3, hF4⟩
def m_X0_spotsInUse : x_M := (yX0_spotsInUse, prog_2_method_13_code, 3, (some FieldType.int), 0, 0)
theorem v_X0_spotsInUse : x_VM m_X0_spotsInUse 0 := ⟨q657, q2, by decide +kernel, by decide +kernel, by decide +kernel⟩
theorem w_X0_spotsInUse : x_VI m_X0_spotsInUse := ⟨q655, q656⟩
theorem d_X0_spotsInUse_0 : x_dec m_X0_spotsInUse 0 (.iconst 0) 1 1 := ⟨by decide +kernel, rfl⟩
theorem d_X0_spotsInUse_1 : x_dec m_X0_spotsInUse 1 (.istore_n 1) 1 2 := ⟨by decide +kernel, rfl⟩
theorem d_X0_spotsInUse_2 : x_dec m_X0_spotsInUse 2 (.iconst 0) 1 3 := ⟨by decide +kernel, rfl⟩
theorem d_X0_spotsInUse_3 : x_dec m_X0_spotsInUse 3 (.istore_n 2) 1 4 := ⟨by decide +kernel, rfl⟩
theorem d_X0_spotsInUse_4 : x_dec m_X0_spotsInUse 4 (.iload_n 2) 1 5 := ⟨by decide +kernel, rfl⟩
theorem d_X0_spotsInUse_5 : x_dec m_X0_spotsInUse 5 (.bipush 10) 2 7 := ⟨by decide +kernel, rfl⟩
theorem d_X0_spotsInUse_7 : x_dec m_X0_spotsInUse 7 (.if_icmp .ge 22) 3 10 := ⟨by decide +kernel, rfl⟩
theorem d_X0_spotsInUse_10 : x_dec m_X0_spotsInUse 10 (.aload_n 0) 1 11 := ⟨by decide +kernel, rfl⟩
theorem d_X0_spotsInUse_11 : x_dec m_X0_spotsInUse 11 (.getfield 24) 3 14 := ⟨by decide +kernel, rfl⟩
theorem d_X0_spotsInUse_14 : x_dec m_X0_spotsInUse 14 (.iload_n 2) 1 15 := ⟨by decide +kernel, rfl⟩
theorem d_X0_spotsInUse_15 : x_dec m_X0_spotsInUse 15 (.iaload) 1 16 := ⟨by decide +kernel, rfl⟩
theorem d_X0_spotsInUse_16 : x_dec m_X0_spotsInUse 16 (.iconst (-1)) 1 17 := ⟨by decide +kernel, rfl⟩
theorem d_X0_spotsInUse_17 : x_dec m_X0_spotsInUse 17 (.if_icmp .eq 6) 3 20 := ⟨by decide +kernel, rfl⟩
theorem d_X0_spotsInUse_20 : x_dec m_X0_spotsInUse 20 (.iinc 1 1) 3 23 := ⟨by decide +kernel, rfl⟩
theorem d_X0_spotsInUse_23 : x_dec m_X0_spotsInUse 23 (.iinc 2 1) 3 26 := ⟨by decide +kernel, rfl⟩
theorem d_X0_spotsInUse_26 : x_dec m_X0_spotsInUse 26 (.goto (-22)) 3 29 := ⟨by decide +kernel, rfl⟩
theorem d_X0_spotsInUse_29 : x_dec m_X0_spotsInUse 29 (.iload_n 1) 1 30 := ⟨by decide +kernel, rfl⟩
theorem d_X0_spotsInUse_30 : x_dec m_X0_spotsInUse 30 (.ireturn) 1 31 := ⟨by decide +kernel, rfl⟩
set_option maxHeartbeats 4000000 in
set_option maxRecDepth 100000 in
theorem c_X0_spotsInUse (l : Launch) (E : x_E) (μ : x_Mem) {a : x_St} {o : Nat} (ho : x_pr o) (hR : PR a o μ) : x_Met l m_X0_spotsInUse E [.ref (E.1 + o)] μ (x_I (fun z m => z = spotsF a ∧ m = μ)) := by
  refine x_enter (lv := [(0, .ref (E.1 + o))]) (by decide +kernel) (Nat.le_of_ble_eq_true rfl) rfl ?_
  refine x_iconst (x := 0) d_X0_spotsInUse_0 (by decide) ?_
  refine x_istore_n [(1, .int 0), (0, .ref (E.1 + o))] d_X0_spotsInUse_1 rfl (Nat.le_of_ble_eq_true rfl) rfl ?_
  refine x_iconst (x := 0) d_X0_spotsInUse_2 (by decide) ?_
  refine x_istore_n [(2, .int 0), (1, .int 0), (0, .ref (E.1 + o))] d_X0_spotsInUse_3 rfl (Nat.le_of_ble_eq_true rfl) rfl ?_
  have L1 : ∀ i : Nat, i ≤ 10 → ∀ r : Int32, (r = cntTo 0 (fun j => decide (¬ a (48 + j) = -1)) i) → x_G l E m_X0_spotsInUse (x_mv E m_X0_spotsInUse (x_I (fun z m => z = spotsF a ∧ m = μ))) μ 4 [(2, .int (nI i)), (1, .int r), (0, .ref (E.1 + o))] [] := by
    refine x_down _ 10 (fun i hi3 ih2 => ?_)
    intro r hr
    refine x_iload_n 0 d_X0_spotsInUse_4 rfl rfl ?_
    refine x_bipush (x := 10) d_X0_spotsInUse_5 (by decide) ?_
    refine x_icmp_ge 29 d_X0_spotsInUse_7 (by decide) (fun c4 => ?_) (fun c4 => ?_)
    · skip
      have hN := x_ge (N := 10) c4 rfl rfl (by omega) (by omega)
      refine x_iload_n 1 d_X0_spotsInUse_29 rfl rfl ?_
      refine x_iret rfl d_X0_spotsInUse_30 ?_
      exact ⟨by rw [hr, spotsF]; congr 1; omega, rfl⟩
    · skip
      have hN := x_lt (N := 10) c4 rfl rfl (by omega) (by omega)
      refine x_aload_n 2 d_X0_spotsInUse_10 rfl rfl ?_
      refine x_getr (j := 4) (o + 5) x_c0 (p_kd ho) (Nat.le_of_ble_eq_true rfl) q40 (p_f4 ho) d_X0_spotsInUse_11 ?_
      refine x_iload_n 0 d_X0_spotsInUse_14 rfl rfl ?_
      refine x_ialdN (z := a (48 + i)) 10 i (p_k5 ho) (p_l5 ho) (by omega) (by decide) (PR.spot hR i (by omega)) d_X0_spotsInUse_15 ?_
      refine x_iconst (x := (-1)) d_X0_spotsInUse_16 (by decide) ?_
      refine x_icmp_eq 23 d_X0_spotsInUse_17 (by decide) (fun c5 => ?_) (fun c5 => ?_)
      · skip
        refine x_iinc [(2, .int (nI (i + 1))), (1, .int r), (0, .ref (E.1 + o))] 0 d_X0_spotsInUse_23 rfl (x_inc _) (Nat.le_of_ble_eq_true rfl) rfl ?_
        refine x_goto 4 d_X0_spotsInUse_26 (by decide) ?_
        exact ih2 (i + 1) (by omega) (by omega) r (by rw [hr, cntTo]; simp [c4, c5])
      · skip
        refine x_iinc [(1, .int (r + 1)), (2, .int (nI i)), (0, .ref (E.1 + o))] 1 d_X0_spotsInUse_20 rfl rfl (Nat.le_of_ble_eq_true rfl) rfl ?_
        refine x_iinc [(2, .int (nI (i + 1))), (1, .int (r + 1)), (0, .ref (E.1 + o))] 1 d_X0_spotsInUse_23 rfl (x_inc _) (Nat.le_of_ble_eq_true rfl) rfl ?_
        refine x_goto 4 d_X0_spotsInUse_26 (by decide) ?_
        exact ih2 (i + 1) (by omega) (by omega) (r + 1) (by rw [hr, cntTo]; simp [c4, c5])
  exact L1 0 (by omega) 0 (by rfl)
def m_X0_letRide : x_M := (yX0_letRide, prog_2_method_4_code, 3, none, 1, 21)
theorem v_X0_letRide : x_VM m_X0_letRide 1 := ⟨q361, q2, by decide +kernel, by decide +kernel, by decide +kernel⟩
theorem w_X0_letRide : x_VI m_X0_letRide := ⟨q359, q360⟩
theorem d_X0_letRide_0 : x_dec m_X0_letRide 0 (.iconst 0) 1 1 := ⟨by decide +kernel, rfl⟩
theorem d_X0_letRide_1 : x_dec m_X0_letRide 1 (.istore_n 2) 1 2 := ⟨by decide +kernel, rfl⟩
theorem d_X0_letRide_2 : x_dec m_X0_letRide 2 (.iload_n 2) 1 3 := ⟨by decide +kernel, rfl⟩
theorem d_X0_letRide_3 : x_dec m_X0_letRide 3 (.aload_n 0) 1 4 := ⟨by decide +kernel, rfl⟩
theorem d_X0_letRide_4 : x_dec m_X0_letRide 4 (.getfield 27) 3 7 := ⟨by decide +kernel, rfl⟩
theorem d_X0_letRide_7 : x_dec m_X0_letRide 7 (.if_icmp .ge 31) 3 10 := ⟨by decide +kernel, rfl⟩
theorem d_X0_letRide_10 : x_dec m_X0_letRide 10 (.aload_n 0) 1 11 := ⟨by decide +kernel, rfl⟩
theorem d_X0_letRide_11 : x_dec m_X0_letRide 11 (.getfield 18) 3 14 := ⟨by decide +kernel, rfl⟩
theorem d_X0_letRide_14 : x_dec m_X0_letRide 14 (.iload_n 2) 1 15 := ⟨by decide +kernel, rfl⟩
theorem d_X0_letRide_15 : x_dec m_X0_letRide 15 (.iload_n 1) 1 16 := ⟨by decide +kernel, rfl⟩
theorem d_X0_letRide_16 : x_dec m_X0_letRide 16 (.iload_n 2) 1 17 := ⟨by decide +kernel, rfl⟩
theorem d_X0_letRide_17 : x_dec m_X0_letRide 17 (.invokestatic 73) 3 20 := ⟨by decide +kernel, rfl⟩
theorem d_X0_letRide_20 : x_dec m_X0_letRide 20 (.ifCond .eq 7) 3 23 := ⟨by decide +kernel, rfl⟩
theorem d_X0_letRide_23 : x_dec m_X0_letRide 23 (.iconst (-1)) 1 24 := ⟨by decide +kernel, rfl⟩
theorem d_X0_letRide_24 : x_dec m_X0_letRide 24 (.goto 7) 3 27 := ⟨by decide +kernel, rfl⟩
theorem d_X0_letRide_27 : x_dec m_X0_letRide 27 (.aload_n 0) 1 28 := ⟨by decide +kernel, rfl⟩
theorem d_X0_letRide_28 : x_dec m_X0_letRide 28 (.getfield 31) 3 31 := ⟨by decide +kernel, rfl⟩
theorem d_X0_letRide_31 : x_dec m_X0_letRide 31 (.iastore) 1 32 := ⟨by decide +kernel, rfl⟩
theorem d_X0_letRide_32 : x_dec m_X0_letRide 32 (.iinc 2 1) 3 35 := ⟨by decide +kernel, rfl⟩
theorem d_X0_letRide_35 : x_dec m_X0_letRide 35 (.goto (-33)) 3 38 := ⟨by decide +kernel, rfl⟩
theorem d_X0_letRide_38 : x_dec m_X0_letRide 38 (.return_) 1 39 := ⟨by decide +kernel, rfl⟩
set_option maxHeartbeats 4000000 in
set_option maxRecDepth 100000 in
theorem c_X0_letRide (l : Launch) (E : x_E) (μ : x_Mem) {a : x_St} {o : Nat} (ho : x_pr o) (hR : PR a o μ) (hI : WF a) {n : Nat} (hn : n < 65536) : x_Met l m_X0_letRide E [.ref (E.1 + o), .int (nI n)] μ (x_J (fun m => PR (rideTo a n.testBit (pn a)) o m ∧ ∀ id, id ≠ o + 3 → m id = μ id)) := by
  have ho1 : o = 1 ∨ o = 10 ∨ o = 19 := ho
  have hn7 := hI.2.1
  have hpn := hI.1
  refine x_enter (lv := [(0, .ref (E.1 + o)), (1, .int (nI n))]) (by decide +kernel) (Nat.le_of_ble_eq_true rfl) rfl ?_
  refine x_iconst (x := 0) d_X0_letRide_0 (by decide) ?_
  refine x_istore_n [(2, .int 0), (0, .ref (E.1 + o)), (1, .int (nI n))] d_X0_letRide_1 rfl (Nat.le_of_ble_eq_true rfl) rfl ?_
  have L1 : ∀ i : Nat, i ≤ pn a → ∀ μ4 : x_Mem, (PR (rideTo a n.testBit i) o μ4) → (∀ id, id ≠ o + 3 → μ4 id = μ id) → x_G l E m_X0_letRide (x_mv E m_X0_letRide (x_J (fun m => PR (rideTo a n.testBit (pn a)) o m ∧ ∀ id, id ≠ o + 3 → m id = μ id))) μ4 2 [(2, .int (nI i)), (0, .ref (E.1 + o)), (1, .int (nI n))] [] := by
    refine x_down _ (pn a) (fun i hi3 ih2 => ?_)
    intro μ4 hR1 hF1
    refine x_iload_n 0 d_X0_letRide_2 rfl rfl ?_
    refine x_aload_n 1 d_X0_letRide_3 rfl rfl ?_
    refine x_getiV (j := 5) (z := nI (pn a)) x_c0 (p_kd ho) (Nat.le_of_ble_eq_true rfl) q42 (p_n5 ho) (((PR.f5 hR1).trans ((fun j hj => rideTo_same a n.testBit i j (by omega) (by omega)) 7 (by omega))).trans hn7) d_X0_letRide_4 ?_
    refine x_icmp_ge 38 d_X0_letRide_7 (by decide) (fun c5 => ?_) (fun c5 => ?_)
    · skip
      have hN := x_ge c5 rfl rfl (by omega) (by omega)
      refine x_vret rfl d_X0_letRide_38 ?_
      have e9 : i = pn a := by omega
      subst e9
      exact ⟨hR1, hF1⟩
    · skip
      have hN := x_lt c5 rfl rfl (by omega) (by omega)
      refine x_aload_n 1 d_X0_letRide_10 rfl rfl ?_
      refine x_getr (j := 2) (o + 3) x_c0 (p_kd ho) (Nat.le_of_ble_eq_true rfl) q36 (p_f2 ho) d_X0_letRide_11 ?_
      refine x_iload_n 0 d_X0_letRide_14 rfl rfl ?_
      refine x_iload_n 2 d_X0_letRide_15 rfl rfl ?_
      refine x_iload_n 0 d_X0_letRide_16 rfl rfl ?_
      refine x_csNp (as := [.int (nI n), .int (nI i)]) (c_X3_has l E μ4 (n := n) (p := i) (by omega) (by omega)) v_X3_has q363 rfl rfl rfl rfl ⟨Nat.le_of_ble_eq_true rfl, Nat.le_of_ble_eq_true rfl⟩ rfl (Nat.le_of_ble_eq_true rfl) d_X0_letRide_17 ?_
      refine x_ifb_eq 27 d_X0_letRide_20 (by decide) (fun c6 => ?_) (fun c6 => ?_)
      · skip
        refine x_aload_n 1 d_X0_letRide_27 rfl rfl ?_
        refine x_getiV (j := 6) (z := a 1) x_c0 (p_kd ho) (Nat.le_of_ble_eq_true rfl) q45 (p_n6 ho) ((PR.f6 hR1).trans ((fun j hj => rideTo_same a n.testBit i j (by omega) (by omega)) 1 (by omega))) d_X0_letRide_28 ?_
        refine x_iastNG 8 i (p_k3 ho) (p_l3 ho) (by omega) (by decide) d_X0_letRide_31 (fun μ7 eμ7 => ?_)
        have hR8 : PR (upd (rideTo a n.testBit i) (24 + 3 * i + 1) (a 1)) o μ7 := PR.a3 hR1 eμ7 (by omega)
        have hF9 : ∀ id, id ≠ o + 3 → μ7 id = μ id := fun id hid => (show μ7 id = μ4 id from (by rw [eμ7, upd2_ne _ _ _ (by omega)])).trans (hF1 id hid)
        refine x_iinc [(2, .int (nI (i + 1))), (0, .ref (E.1 + o)), (1, .int (nI n))] 0 d_X0_letRide_32 rfl (x_inc _) (Nat.le_of_ble_eq_true rfl) rfl ?_
        refine x_goto 2 d_X0_letRide_35 (by decide) ?_
        exact ih2 (i + 1) (by omega) (by omega) μ7 (by rw [rideTo, if_neg (by rw [c6]; decide)]; exact hR8) hF9
      · skip
        refine x_iconst (x := (-1)) d_X0_letRide_23 (by decide) ?_
        refine x_goto 31 d_X0_letRide_24 (by decide) ?_
        refine x_iastNG 8 i (p_k3 ho) (p_l3 ho) (by omega) (by decide) d_X0_letRide_31 (fun μ10 eμ10 => ?_)
        have hR11 : PR (upd (rideTo a n.testBit i) (24 + 3 * i + 1) (-1)) o μ10 := PR.a3 hR1 eμ10 (by omega)
        have hF12 : ∀ id, id ≠ o + 3 → μ10 id = μ id := fun id hid => (show μ10 id = μ4 id from (by rw [eμ10, upd2_ne _ _ _ (by omega)])).trans (hF1 id hid)
        refine x_iinc [(2, .int (nI (i + 1))), (0, .ref (E.1 + o)), (1, .int (nI n))] 0 d_X0_letRide_32 rfl (x_inc _) (Nat.le_of_ble_eq_true rfl) rfl ?_
        refine x_goto 2 d_X0_letRide_35 (by decide) ?_
        exact ih2 (i + 1) (by omega) (by omega) μ10 (by rw [rideTo, if_pos c6]; exact hR11) hF12
  exact L1 0 (by omega) μ hR (fun _ _ => rfl)
