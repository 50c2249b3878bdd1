def m_X0_companions : x_M := (yX0_companions, prog_2_method_6_code, 4, (some FieldType.int), 0, 0)
theorem v_X0_companions : x_VM m_X0_companions 1 := ⟨q209, q2, by decide +kernel, by decide +kernel, by decide +kernel⟩
theorem w_X0_companions : x_VI m_X0_companions := ⟨q208, qs1⟩
theorem d_X0_companions_0 : x_dec m_X0_companions 0 (.iconst (-1)) 1 1 := ⟨by decide +kernel, rfl⟩
theorem d_X0_companions_1 : x_dec m_X0_companions 1 (.istore_n 2) 1 2 := ⟨by decide +kernel, rfl⟩
theorem d_X0_companions_2 : x_dec m_X0_companions 2 (.iconst 0) 1 3 := ⟨by decide +kernel, rfl⟩
theorem d_X0_companions_3 : x_dec m_X0_companions 3 (.istore_n 3) 1 4 := ⟨by decide +kernel, rfl⟩
theorem d_X0_companions_4 : x_dec m_X0_companions 4 (.iload_n 3) 1 5 := ⟨by decide +kernel, rfl⟩
theorem d_X0_companions_5 : x_dec m_X0_companions 5 (.aload_n 0) 1 6 := ⟨by decide +kernel, rfl⟩
theorem d_X0_companions_6 : x_dec m_X0_companions 6 (.getfield 27) 3 9 := ⟨by decide +kernel, rfl⟩
theorem d_X0_companions_9 : x_dec m_X0_companions 9 (.if_icmp .ge 27) 3 12 := ⟨by decide +kernel, rfl⟩
theorem d_X0_companions_12 : x_dec m_X0_companions 12 (.aload_n 0) 1 13 := ⟨by decide +kernel, rfl⟩
theorem d_X0_companions_13 : x_dec m_X0_companions 13 (.getfield 18) 3 16 := ⟨by decide +kernel, rfl⟩
theorem d_X0_companions_16 : x_dec m_X0_companions 16 (.iload_n 3) 1 17 := ⟨by decide +kernel, rfl⟩
theorem d_X0_companions_17 : x_dec m_X0_companions 17 (.iaload) 1 18 := ⟨by decide +kernel, rfl⟩
theorem d_X0_companions_18 : x_dec m_X0_companions 18 (.aload_n 0) 1 19 := ⟨by decide +kernel, rfl⟩
theorem d_X0_companions_19 : x_dec m_X0_companions 19 (.getfield 18) 3 22 := ⟨by decide +kernel, rfl⟩
theorem d_X0_companions_22 : x_dec m_X0_companions 22 (.iload_n 1) 1 23 := ⟨by decide +kernel, rfl⟩
theorem d_X0_companions_23 : x_dec m_X0_companions 23 (.iaload) 1 24 := ⟨by decide +kernel, rfl⟩
theorem d_X0_companions_24 : x_dec m_X0_companions 24 (.if_icmp .ne 6) 3 27 := ⟨by decide +kernel, rfl⟩
theorem d_X0_companions_27 : x_dec m_X0_companions 27 (.iinc 2 1) 3 30 := ⟨by decide +kernel, rfl⟩
theorem d_X0_companions_30 : x_dec m_X0_companions 30 (.iinc 3 1) 3 33 := ⟨by decide +kernel, rfl⟩
theorem d_X0_companions_33 : x_dec m_X0_companions 33 (.goto (-29)) 3 36 := ⟨by decide +kernel, rfl⟩
theorem d_X0_companions_36 : x_dec m_X0_companions 36 (.iload_n 2) 1 37 := ⟨by decide +kernel, rfl⟩
theorem d_X0_companions_37 : x_dec m_X0_companions 37 (.ireturn) 1 38 := ⟨by decide +kernel, rfl⟩
set_option maxHeartbeats 4000000 in
set_option maxRecDepth 100000 in
theorem c_X0_companions (l : Launch) (E : x_E) (μ : x_Mem) {a : x_St} {o : Nat} (ho : x_pr o) (hR : PR a o μ) (hI : WF a) {p : Nat} (hp : p < 8) : x_Met l m_X0_companions E [.ref (E.1 + o), .int (nI p)] μ (x_I (fun z m => z = compF a p ∧ m = μ)) := by
  have ho1 : o = 1 ∨ o = 10 ∨ o = 19 := ho
  have hn7 := hI.2.1
  have hpn := hI.1
  refine x_enter (lv := [(0, .ref (E.1 + o)), (1, .int (nI p))]) (by decide +kernel) (Nat.le_of_ble_eq_true rfl) rfl ?_
  refine x_iconst (x := (-1)) d_X0_companions_0 (by decide) ?_
  refine x_istore_n [(2, .int (-1)), (0, .ref (E.1 + o)), (1, .int (nI p))] d_X0_companions_1 rfl (Nat.le_of_ble_eq_true rfl) rfl ?_
  refine x_iconst (x := 0) d_X0_companions_2 (by decide) ?_
  refine x_istore_n [(3, .int 0), (2, .int (-1)), (0, .ref (E.1 + o)), (1, .int (nI p))] d_X0_companions_3 rfl (Nat.le_of_ble_eq_true rfl) rfl ?_
  have L1 : ∀ i : Nat, i ≤ pn a → ∀ r : Int32, (r = cntTo (-1) (withB a p) i) → x_G l E m_X0_companions (x_mv E m_X0_companions (x_I (fun z m => z = compF a p ∧ m = μ))) μ 4 [(3, .int (nI i)), (2, .int r), (0, .ref (E.1 + o)), (1, .int (nI p))] [] := by
    refine x_down _ (pn a) (fun i hi3 ih2 => ?_)
    intro r hr
    refine x_iload_n 0 d_X0_companions_4 rfl rfl ?_
    refine x_aload_n 2 d_X0_companions_5 rfl rfl ?_
    refine x_getiV (j := 5) (z := nI (pn a)) x_c0 (p_kd ho) (Nat.le_of_ble_eq_true rfl) q42 (p_n5 ho) ((PR.f5 hR).trans hn7) d_X0_companions_6 ?_
    refine x_icmp_ge 36 d_X0_companions_9 (by decide) (fun c4 => ?_) (fun c4 => ?_)
    · skip
      have hN := x_ge c4 rfl rfl (by omega) (by omega)
      refine x_iload_n 1 d_X0_companions_36 rfl rfl ?_
      refine x_iret rfl d_X0_companions_37 ?_
      exact ⟨by rw [hr, compF]; congr 1; omega, rfl⟩
    · skip
      have hN := x_lt c4 rfl rfl (by omega) (by omega)
      refine x_aload_n 2 d_X0_companions_12 rfl rfl ?_
      refine x_getr (j := 2) (o + 3) x_c0 (p_kd ho) (Nat.le_of_ble_eq_true rfl) q36 (p_f2 ho) d_X0_companions_13 ?_
      refine x_iload_n 0 d_X0_companions_16 rfl rfl ?_
      refine x_ialdN (z := a (24 + 3 * i + 1)) 8 i (p_k3 ho) (p_l3 ho) (by omega) (by decide) (PR.wh hR i (by omega)) d_X0_companions_17 ?_
      refine x_aload_n 2 d_X0_companions_18 rfl rfl ?_
      refine x_getr (j := 2) (o + 3) x_c0 (p_kd ho) (Nat.le_of_ble_eq_true rfl) q36 (p_f2 ho) d_X0_companions_19 ?_
      refine x_iload_n 3 d_X0_companions_22 rfl rfl ?_
      refine x_ialdN (z := a (24 + 3 * p + 1)) 8 p (p_k3 ho) (p_l3 ho) (by omega) (by decide) (PR.wh hR p (by omega)) d_X0_companions_23 ?_
      refine x_icmp_ne 30 d_X0_companions_24 (by decide) (fun c5 => ?_) (fun c5 => ?_)
      · skip
        refine x_iinc [(3, .int (nI (i + 1))), (2, .int r), (0, .ref (E.1 + o)), (1, .int (nI p))] 0 d_X0_companions_30 rfl (x_inc _) (Nat.le_of_ble_eq_true rfl) rfl ?_
        refine x_goto 4 d_X0_companions_33 (by decide) ?_
        exact ih2 (i + 1) (by omega) (by omega) r (by rw [hr, cntTo]; simp [withB, c4, c5])
      · skip
        refine x_iinc [(2, .int (r + 1)), (3, .int (nI i)), (0, .ref (E.1 + o)), (1, .int (nI p))] 1 d_X0_companions_27 rfl rfl (Nat.le_of_ble_eq_true rfl) rfl ?_
        refine x_iinc [(3, .int (nI (i + 1))), (2, .int (r + 1)), (0, .ref (E.1 + o)), (1, .int (nI p))] 1 d_X0_companions_30 rfl (x_inc _) (Nat.le_of_ble_eq_true rfl) rfl ?_
        refine x_goto 4 d_X0_companions_33 (by decide) ?_
        exact ih2 (i + 1) (by omega) (by omega) (r + 1) (by rw [hr, cntTo]; simp [withB, c4, c5])
  exact L1 0 (by omega) (-1) (by rfl)
def m_X0_faith : x_M := (yX0_faith, prog_2_method_5_code, 5, (some FieldType.int), 1, 26)
theorem v_X0_faith : x_VM m_X0_faith 1 := ⟨q202, q2, by decide +kernel, by decide +kernel, by decide +kernel⟩
theorem w_X0_faith : x_VI m_X0_faith := ⟨q200, q201⟩
theorem d_X0_faith_0 : x_dec m_X0_faith 0 (.aload_n 0) 1 1 := ⟨by decide +kernel, rfl⟩
theorem d_X0_faith_1 : x_dec m_X0_faith 1 (.getfield 21) 3 4 := ⟨by decide +kernel, rfl⟩
theorem d_X0_faith_4 : x_dec m_X0_faith 4 (.iload_n 1) 1 5 := ⟨by decide +kernel, rfl⟩
theorem d_X0_faith_5 : x_dec m_X0_faith 5 (.iaload) 1 6 := ⟨by decide +kernel, rfl⟩
theorem d_X0_faith_6 : x_dec m_X0_faith 6 (.istore_n 2) 1 7 := ⟨by decide +kernel, rfl⟩
theorem d_X0_faith_7 : x_dec m_X0_faith 7 (.aload_n 0) 1 8 := ⟨by decide +kernel, rfl⟩
theorem d_X0_faith_8 : x_dec m_X0_faith 8 (.getfield 34) 3 11 := ⟨by decide +kernel, rfl⟩
theorem d_X0_faith_11 : x_dec m_X0_faith 11 (.ifCond .ne 8) 3 14 := ⟨by decide +kernel, rfl⟩
theorem d_X0_faith_14 : x_dec m_X0_faith 14 (.bipush 20) 2 16 := ⟨by decide +kernel, rfl⟩
theorem d_X0_faith_16 : x_dec m_X0_faith 16 (.goto 4) 3 19 := ⟨by decide +kernel, rfl⟩
theorem d_X0_faith_19 : x_dec m_X0_faith 19 (.iconst 0) 1 20 := ⟨by decide +kernel, rfl⟩
theorem d_X0_faith_20 : x_dec m_X0_faith 20 (.istore_n 3) 1 21 := ⟨by decide +kernel, rfl⟩
theorem d_X0_faith_21 : x_dec m_X0_faith 21 (.aload_n 0) 1 22 := ⟨by decide +kernel, rfl⟩
theorem d_X0_faith_22 : x_dec m_X0_faith 22 (.getfield 43) 3 25 := ⟨by decide +kernel, rfl⟩
theorem d_X0_faith_25 : x_dec m_X0_faith 25 (.bipush 30) 2 27 := ⟨by decide +kernel, rfl⟩
theorem d_X0_faith_27 : x_dec m_X0_faith 27 (.invokestatic 77) 3 30 := ⟨by decide +kernel, rfl⟩
theorem d_X0_faith_30 : x_dec m_X0_faith 30 (.istore 4) 2 32 := ⟨by decide +kernel, rfl⟩
theorem d_X0_faith_32 : x_dec m_X0_faith 32 (.aload_n 0) 1 33 := ⟨by decide +kernel, rfl⟩
theorem d_X0_faith_33 : x_dec m_X0_faith 33 (.getfield 15) 3 36 := ⟨by decide +kernel, rfl⟩
theorem d_X0_faith_36 : x_dec m_X0_faith 36 (.iload_n 1) 1 37 := ⟨by decide +kernel, rfl⟩
theorem d_X0_faith_37 : x_dec m_X0_faith 37 (.iaload) 1 38 := ⟨by decide +kernel, rfl⟩
theorem d_X0_faith_38 : x_dec m_X0_faith 38 (.tableswitch 90 1 6 #[38, 49, 53, 60, 75, 42]) 38 76 := ⟨by decide +kernel, rfl⟩
theorem d_X0_faith_76 : x_dec m_X0_faith 76 (.iload_n 2) 1 77 := ⟨by decide +kernel, rfl⟩
theorem d_X0_faith_77 : x_dec m_X0_faith 77 (.iconst 2) 1 78 := ⟨by decide +kernel, rfl⟩
theorem d_X0_faith_78 : x_dec m_X0_faith 78 (.idiv) 1 79 := ⟨by decide +kernel, rfl⟩
theorem d_X0_faith_79 : x_dec m_X0_faith 79 (.ireturn) 1 80 := ⟨by decide +kernel, rfl⟩
theorem d_X0_faith_80 : x_dec m_X0_faith 80 (.iload_n 2) 1 81 := ⟨by decide +kernel, rfl⟩
theorem d_X0_faith_81 : x_dec m_X0_faith 81 (.iconst 2) 1 82 := ⟨by decide +kernel, rfl⟩
theorem d_X0_faith_82 : x_dec m_X0_faith 82 (.idiv) 1 83 := ⟨by decide +kernel, rfl⟩
theorem d_X0_faith_83 : x_dec m_X0_faith 83 (.bipush 20) 2 85 := ⟨by decide +kernel, rfl⟩
theorem d_X0_faith_85 : x_dec m_X0_faith 85 (.isub) 1 86 := ⟨by decide +kernel, rfl⟩
theorem d_X0_faith_86 : x_dec m_X0_faith 86 (.ireturn) 1 87 := ⟨by decide +kernel, rfl⟩
theorem d_X0_faith_87 : x_dec m_X0_faith 87 (.iload_n 2) 1 88 := ⟨by decide +kernel, rfl⟩
theorem d_X0_faith_88 : x_dec m_X0_faith 88 (.iload_n 3) 1 89 := ⟨by decide +kernel, rfl⟩
theorem d_X0_faith_89 : x_dec m_X0_faith 89 (.iadd) 1 90 := ⟨by decide +kernel, rfl⟩
theorem d_X0_faith_90 : x_dec m_X0_faith 90 (.ireturn) 1 91 := ⟨by decide +kernel, rfl⟩
theorem d_X0_faith_91 : x_dec m_X0_faith 91 (.iload_n 2) 1 92 := ⟨by decide +kernel, rfl⟩
theorem d_X0_faith_92 : x_dec m_X0_faith 92 (.iload_n 3) 1 93 := ⟨by decide +kernel, rfl⟩
theorem d_X0_faith_93 : x_dec m_X0_faith 93 (.iadd) 1 94 := ⟨by decide +kernel, rfl⟩
theorem d_X0_faith_94 : x_dec m_X0_faith 94 (.iload 4) 2 96 := ⟨by decide +kernel, rfl⟩
theorem d_X0_faith_96 : x_dec m_X0_faith 96 (.isub) 1 97 := ⟨by decide +kernel, rfl⟩
theorem d_X0_faith_97 : x_dec m_X0_faith 97 (.ireturn) 1 98 := ⟨by decide +kernel, rfl⟩
theorem d_X0_faith_98 : x_dec m_X0_faith 98 (.iload_n 2) 1 99 := ⟨by decide +kernel, rfl⟩
theorem d_X0_faith_99 : x_dec m_X0_faith 99 (.iload_n 3) 1 100 := ⟨by decide +kernel, rfl⟩
theorem d_X0_faith_100 : x_dec m_X0_faith 100 (.iadd) 1 101 := ⟨by decide +kernel, rfl⟩
theorem d_X0_faith_101 : x_dec m_X0_faith 101 (.iload 4) 2 103 := ⟨by decide +kernel, rfl⟩
theorem d_X0_faith_103 : x_dec m_X0_faith 103 (.isub) 1 104 := ⟨by decide +kernel, rfl⟩
theorem d_X0_faith_104 : x_dec m_X0_faith 104 (.iconst 5) 1 105 := ⟨by decide +kernel, rfl⟩
theorem d_X0_faith_105 : x_dec m_X0_faith 105 (.aload_n 0) 1 106 := ⟨by decide +kernel, rfl⟩
theorem d_X0_faith_106 : x_dec m_X0_faith 106 (.iload_n 1) 1 107 := ⟨by decide +kernel, rfl⟩
theorem d_X0_faith_107 : x_dec m_X0_faith 107 (.invokevirtual 83) 3 110 := ⟨by decide +kernel, rfl⟩
theorem d_X0_faith_110 : x_dec m_X0_faith 110 (.imul) 1 111 := ⟨by decide +kernel, rfl⟩
theorem d_X0_faith_111 : x_dec m_X0_faith 111 (.iadd) 1 112 := ⟨by decide +kernel, rfl⟩
theorem d_X0_faith_112 : x_dec m_X0_faith 112 (.ireturn) 1 113 := ⟨by decide +kernel, rfl⟩
theorem d_X0_faith_113 : x_dec m_X0_faith 113 (.aload_n 0) 1 114 := ⟨by decide +kernel, rfl⟩
theorem d_X0_faith_114 : x_dec m_X0_faith 114 (.getfield 34) 3 117 := ⟨by decide +kernel, rfl⟩
theorem d_X0_faith_117 : x_dec m_X0_faith 117 (.ifCond .ne 7) 3 120 := ⟨by decide +kernel, rfl⟩
theorem d_X0_faith_120 : x_dec m_X0_faith 120 (.iload_n 2) 1 121 := ⟨by decide +kernel, rfl⟩
theorem d_X0_faith_121 : x_dec m_X0_faith 121 (.goto 6) 3 124 := ⟨by decide +kernel, rfl⟩
theorem d_X0_faith_124 : x_dec m_X0_faith 124 (.iconst 2) 1 125 := ⟨by decide +kernel, rfl⟩
theorem d_X0_faith_125 : x_dec m_X0_faith 125 (.iload_n 2) 1 126 := ⟨by decide +kernel, rfl⟩
theorem d_X0_faith_126 : x_dec m_X0_faith 126 (.imul) 1 127 := ⟨by decide +kernel, rfl⟩
theorem d_X0_faith_127 : x_dec m_X0_faith 127 (.ireturn) 1 128 := ⟨by decide +kernel, rfl⟩
theorem d_X0_faith_128 : x_dec m_X0_faith 128 (.iload_n 2) 1 129 := ⟨by decide +kernel, rfl⟩
theorem d_X0_faith_129 : x_dec m_X0_faith 129 (.ireturn) 1 130 := ⟨by decide +kernel, rfl⟩
set_option maxHeartbeats 4000000 in
set_option maxRecDepth 100000 in
theorem c_X0_faith (l : Launch) (E : x_E) (μ : x_Mem) {a : x_St} {o : Nat} (ho : x_pr o) (hR : PR a o μ) (hI : WF a) {p : Nat} (hp : p < 8) : x_Met l m_X0_faith E [.ref (E.1 + o), .int (nI p)] μ (x_I (fun z m => z = faithF a p ∧ m = μ)) := by
  have ho1 : o = 1 ∨ o = 10 ∨ o = 19 := ho
  have hn7 := hI.2.1
  have hpn := hI.1
  refine x_enter (lv := [(0, .ref (E.1 + o)), (1, .int (nI p))]) (by decide +kernel) (Nat.le_of_ble_eq_true rfl) rfl ?_
  refine x_aload_n 0 d_X0_faith_0 rfl rfl ?_
  refine x_getr (j := 3) (o + 4) x_c0 (p_kd ho) (Nat.le_of_ble_eq_true rfl) q38 (p_f3 ho) d_X0_faith_1 ?_
  refine x_iload_n 1 d_X0_faith_4 rfl rfl ?_
  refine x_ialdN (z := a (24 + 3 * p + 2)) 8 p (p_k4 ho) (p_l4 ho) (by omega) (by decide) (PR.bl hR p (by omega)) d_X0_faith_5 ?_
  refine x_istore_n [(2, .int (a (24 + 3 * p + 2))), (0, .ref (E.1 + o)), (1, .int (nI p))] d_X0_faith_6 rfl (Nat.le_of_ble_eq_true rfl) rfl ?_
  refine x_aload_n 1 d_X0_faith_7 rfl rfl ?_
  refine x_getiV (j := 7) (z := a 2) x_c0 (p_kd ho) (Nat.le_of_ble_eq_true rfl) q48 (p_n7 ho) (PR.f7 hR) d_X0_faith_8 ?_
  refine x_if_ne 19 d_X0_faith_11 (by decide) (fun c1 => ?_) (fun c1 => ?_)
  · skip
    refine x_iconst (x := 0) d_X0_faith_19 (by decide) ?_
    refine x_istore_n [(3, .int 0), (2, .int (a (24 + 3 * p + 2))), (0, .ref (E.1 + o)), (1, .int (nI p))] d_X0_faith_20 rfl (Nat.le_of_ble_eq_true rfl) rfl ?_
    refine x_aload_n 2 d_X0_faith_21 rfl rfl ?_
    refine x_getiV (j := 10) (z := a 5) x_c0 (p_kd ho) (Nat.le_of_ble_eq_true rfl) q57 (p_n10 ho) (PR.f10 hR) d_X0_faith_22 ?_
    refine x_bipush (x := 30) d_X0_faith_25 (by decide) ?_
    refine x_min q203 q204 q205 q7 (Nat.le_of_ble_eq_true rfl) (Nat.le_of_ble_eq_true rfl) d_X0_faith_27 ?_
    refine x_istore [(4, .int (minI (a 5) 30)), (3, .int 0), (2, .int (a (24 + 3 * p + 2))), (0, .ref (E.1 + o)), (1, .int (nI p))] d_X0_faith_30 (Nat.le_of_ble_eq_true rfl) rfl ?_
    refine x_aload_n 3 d_X0_faith_32 rfl rfl ?_
    refine x_getr (j := 1) (o + 2) x_c0 (p_kd ho) (Nat.le_of_ble_eq_true rfl) q34 (p_f1 ho) d_X0_faith_33 ?_
    refine x_iload_n 4 d_X0_faith_36 rfl rfl ?_
    refine x_ialdN (z := a (24 + 3 * p)) 8 p (p_k2 ho) (p_l2 ho) (by omega) (by decide) (PR.kd hR p (by omega)) d_X0_faith_37 ?_
    by_cases k2 : a (24 + 3 * p) = 1
    · have k2T : (a (24 + 3 * p)).toInt = 1 := by rw [k2]; decide
      refine x_tswIn 76 (off := 38) d_X0_faith_38 (by rw [k2T]; decide) (by rw [k2T]; decide) (by rw [k2T]; decide) (by decide) ?_
      refine x_iload_n 2 d_X0_faith_76 rfl rfl ?_
      refine x_iconst (x := 2) d_X0_faith_77 (by decide) ?_
      refine x_idiv d_X0_faith_78 (by decide) ?_
      refine x_iret rfl d_X0_faith_79 ?_
      refine ⟨?_, rfl⟩
      first | (simp [faithF, dayF, c1, k2]; done) | (exfalso; simp_all; done)
    by_cases k3 : a (24 + 3 * p) = 2
    · have k3T : (a (24 + 3 * p)).toInt = 2 := by rw [k3]; decide
      refine x_tswIn 87 (off := 49) d_X0_faith_38 (by rw [k3T]; decide) (by rw [k3T]; decide) (by rw [k3T]; decide) (by decide) ?_
      refine x_iload_n 2 d_X0_faith_87 rfl rfl ?_
      refine x_iload_n 1 d_X0_faith_88 rfl rfl ?_
      refine x_iadd d_X0_faith_89 ?_
      refine x_iret rfl d_X0_faith_90 ?_
      refine ⟨?_, rfl⟩
      first | (simp [faithF, dayF, c1, k3]; done) | (exfalso; simp_all; done)
    by_cases k4 : a (24 + 3 * p) = 3
    · have k4T : (a (24 + 3 * p)).toInt = 3 := by rw [k4]; decide
      refine x_tswIn 91 (off := 53) d_X0_faith_38 (by rw [k4T]; decide) (by rw [k4T]; decide) (by rw [k4T]; decide) (by decide) ?_
      refine x_iload_n 2 d_X0_faith_91 rfl rfl ?_
      refine x_iload_n 1 d_X0_faith_92 rfl rfl ?_
      refine x_iadd d_X0_faith_93 ?_
      refine x_iload 0 d_X0_faith_94 rfl ?_
      refine x_isub d_X0_faith_96 ?_
      refine x_iret rfl d_X0_faith_97 ?_
      refine ⟨?_, rfl⟩
      first | (simp [faithF, dayF, c1, k4]; done) | (exfalso; simp_all; done)
    by_cases k5 : a (24 + 3 * p) = 4
    · have k5T : (a (24 + 3 * p)).toInt = 4 := by rw [k5]; decide
      refine x_tswIn 98 (off := 60) d_X0_faith_38 (by rw [k5T]; decide) (by rw [k5T]; decide) (by rw [k5T]; decide) (by decide) ?_
      refine x_iload_n 2 d_X0_faith_98 rfl rfl ?_
      refine x_iload_n 1 d_X0_faith_99 rfl rfl ?_
      refine x_iadd d_X0_faith_100 ?_
      refine x_iload 0 d_X0_faith_101 rfl ?_
      refine x_isub d_X0_faith_103 ?_
      refine x_iconst (x := 5) d_X0_faith_104 (by decide) ?_
      refine x_aload_n 3 d_X0_faith_105 rfl rfl ?_
      refine x_iload_n 4 d_X0_faith_106 rfl rfl ?_
      refine x_cvip (k := o) (as := [.int (nI p)]) (c_X0_companions l E μ ho hR hI (p := p) (by omega)) v_X0_companions w_X0_companions q206 (p_ob ho) rfl ⟨Nat.le_of_ble_eq_true rfl, Nat.le_of_ble_eq_true rfl⟩ rfl (Nat.le_of_ble_eq_true rfl) d_X0_faith_107 ?_
      refine x_imul d_X0_faith_110 ?_
      refine x_iadd d_X0_faith_111 ?_
      refine x_iret rfl d_X0_faith_112 ?_
      refine ⟨?_, rfl⟩
      first | (simp [faithF, dayF, c1, k5]; done) | (exfalso; simp_all; done)
    by_cases k6 : a (24 + 3 * p) = 5
    · have k6T : (a (24 + 3 * p)).toInt = 5 := by rw [k6]; decide
      refine x_tswIn 113 (off := 75) d_X0_faith_38 (by rw [k6T]; decide) (by rw [k6T]; decide) (by rw [k6T]; decide) (by decide) ?_
      refine x_aload_n 3 d_X0_faith_113 rfl rfl ?_
      refine x_getiV (j := 7) (z := a 2) x_c0 (p_kd ho) (Nat.le_of_ble_eq_true rfl) q48 (p_n7 ho) (PR.f7 hR) d_X0_faith_114 ?_
      refine x_if_ne 124 d_X0_faith_117 (by decide) (fun c7 => ?_) (fun c7 => ?_)
      · skip
        refine x_iconst (x := 2) d_X0_faith_124 (by decide) ?_
        refine x_iload_n 2 d_X0_faith_125 rfl rfl ?_
        refine x_imul d_X0_faith_126 ?_
        refine x_iret rfl d_X0_faith_127 ?_
        refine ⟨?_, rfl⟩
        first | (simp [faithF, dayF, c1, k6, c7]; done) | (exfalso; simp_all; done)
      · skip
        exact absurd c7 c1
    by_cases k8 : a (24 + 3 * p) = 6
    · have k8T : (a (24 + 3 * p)).toInt = 6 := by rw [k8]; decide
      refine x_tswIn 80 (off := 42) d_X0_faith_38 (by rw [k8T]; decide) (by rw [k8T]; decide) (by rw [k8T]; decide) (by decide) ?_
      refine x_iload_n 2 d_X0_faith_80 rfl rfl ?_
      refine x_iconst (x := 2) d_X0_faith_81 (by decide) ?_
      refine x_idiv d_X0_faith_82 (by decide) ?_
      refine x_bipush (x := 20) d_X0_faith_83 (by decide) ?_
      refine x_isub d_X0_faith_85 ?_
      refine x_iret rfl d_X0_faith_86 ?_
      refine ⟨?_, rfl⟩
      first | (simp [faithF, dayF, c1, k8]; done) | (exfalso; simp_all; done)
    have k2T : ¬ (a (24 + 3 * p)).toInt = 1 := lv_neT k2 (by decide)
    have k3T : ¬ (a (24 + 3 * p)).toInt = 2 := lv_neT k3 (by decide)
    have k4T : ¬ (a (24 + 3 * p)).toInt = 3 := lv_neT k4 (by decide)
    have k5T : ¬ (a (24 + 3 * p)).toInt = 4 := lv_neT k5 (by decide)
    have k6T : ¬ (a (24 + 3 * p)).toInt = 5 := lv_neT k6 (by decide)
    have k8T : ¬ (a (24 + 3 * p)).toInt = 6 := lv_neT k8 (by decide)
    refine x_tswOut 128 d_X0_faith_38 (by omega) (by decide) ?_
    refine x_iload_n 2 d_X0_faith_128 rfl rfl ?_
    refine x_iret rfl d_X0_faith_129 ?_
    refine ⟨?_, rfl⟩
    first | (simp [faithF, dayF, c1, k2, k3, k4, k5, k6, k8]; done) | (exfalso; simp_all; done)
  · skip
    refine x_bipush (x := 20) d_X0_faith_14 (by decide) ?_
    refine x_goto 20 d_X0_faith_16 (by decide) ?_
    refine x_istore_n [(3, .int 20), (2, .int (a (24 + 3 * p + 2))), (0, .ref (E.1 + o)), (1, .int (nI p))] d_X0_faith_20 rfl (Nat.le_of_ble_eq_true rfl) rfl ?_
    refine x_aload_n 2 d_X0_faith_21 rfl rfl ?_
    refine x_getiV (j := 10) (z := a 5) x_c0 (p_kd ho) (Nat.le_of_ble_eq_true rfl) q57 (p_n10 ho) (PR.f10 hR) d_X0_faith_22 ?_
    refine x_bipush (x := 30) d_X0_faith_25 (by decide) ?_
    refine x_min q203 q204 q205 q7 (Nat.le_of_ble_eq_true rfl) (Nat.le_of_ble_eq_true rfl) d_X0_faith_27 ?_
    refine x_istore [(4, .int (minI (a 5) 30)), (3, .int 20), (2, .int (a (24 + 3 * p + 2))), (0, .ref (E.1 + o)), (1, .int (nI p))] d_X0_faith_30 (Nat.le_of_ble_eq_true rfl) rfl ?_
    refine x_aload_n 3 d_X0_faith_32 rfl rfl ?_
    refine x_getr (j := 1) (o + 2) x_c0 (p_kd ho) (Nat.le_of_ble_eq_true rfl) q34 (p_f1 ho) d_X0_faith_33 ?_
    refine x_iload_n 4 d_X0_faith_36 rfl rfl ?_
    refine x_ialdN (z := a (24 + 3 * p)) 8 p (p_k2 ho) (p_l2 ho) (by omega) (by decide) (PR.kd hR p (by omega)) d_X0_faith_37 ?_
    by_cases k9 : a (24 + 3 * p) = 1
    · have k9T : (a (24 + 3 * p)).toInt = 1 := by rw [k9]; decide
      refine x_tswIn 76 (off := 38) d_X0_faith_38 (by rw [k9T]; decide) (by rw [k9T]; decide) (by rw [k9T]; decide) (by decide) ?_
      refine x_iload_n 2 d_X0_faith_76 rfl rfl ?_
      refine x_iconst (x := 2) d_X0_faith_77 (by decide) ?_
      refine x_idiv d_X0_faith_78 (by decide) ?_
      refine x_iret rfl d_X0_faith_79 ?_
      refine ⟨?_, rfl⟩
      first | (simp [faithF, dayF, c1, k9]; done) | (exfalso; simp_all; done)
    by_cases k10 : a (24 + 3 * p) = 2
    · have k10T : (a (24 + 3 * p)).toInt = 2 := by rw [k10]; decide
      refine x_tswIn 87 (off := 49) d_X0_faith_38 (by rw [k10T]; decide) (by rw [k10T]; decide) (by rw [k10T]; decide) (by decide) ?_
      refine x_iload_n 2 d_X0_faith_87 rfl rfl ?_
      refine x_iload_n 1 d_X0_faith_88 rfl rfl ?_
      refine x_iadd d_X0_faith_89 ?_
      refine x_iret rfl d_X0_faith_90 ?_
      refine ⟨?_, rfl⟩
      first | (simp [faithF, dayF, c1, k10]; done) | (exfalso; simp_all; done)
    by_cases k11 : a (24 + 3 * p) = 3
    · have k11T : (a (24 + 3 * p)).toInt = 3 := by rw [k11]; decide
      refine x_tswIn 91 (off := 53) d_X0_faith_38 (by rw [k11T]; decide) (by rw [k11T]; decide) (by rw [k11T]; decide) (by decide) ?_
      refine x_iload_n 2 d_X0_faith_91 rfl rfl ?_
      refine x_iload_n 1 d_X0_faith_92 rfl rfl ?_
      refine x_iadd d_X0_faith_93 ?_
      refine x_iload 0 d_X0_faith_94 rfl ?_
      refine x_isub d_X0_faith_96 ?_
      refine x_iret rfl d_X0_faith_97 ?_
      refine ⟨?_, rfl⟩
      first | (simp [faithF, dayF, c1, k11]; done) | (exfalso; simp_all; done)
    by_cases k12 : a (24 + 3 * p) = 4
    · have k12T : (a (24 + 3 * p)).toInt = 4 := by rw [k12]; decide
      refine x_tswIn 98 (off := 60) d_X0_faith_38 (by rw [k12T]; decide) (by rw [k12T]; decide) (by rw [k12T]; decide) (by decide) ?_
      refine x_iload_n 2 d_X0_faith_98 rfl rfl ?_
      refine x_iload_n 1 d_X0_faith_99 rfl rfl ?_
      refine x_iadd d_X0_faith_100 ?_
      refine x_iload 0 d_X0_faith_101 rfl ?_
      refine x_isub d_X0_faith_103 ?_
      refine x_iconst (x := 5) d_X0_faith_104 (by decide) ?_
      refine x_aload_n 3 d_X0_faith_105 rfl rfl ?_
      refine x_iload_n 4 d_X0_faith_106 rfl rfl ?_
      refine x_cvip (k := o) (as := [.int (nI p)]) (c_X0_companions l E μ ho hR hI (p := p) (by omega)) v_X0_companions w_X0_companions q206 (p_ob ho) rfl ⟨Nat.le_of_ble_eq_true rfl, Nat.le_of_ble_eq_true rfl⟩ rfl (Nat.le_of_ble_eq_true rfl) d_X0_faith_107 ?_
      refine x_imul d_X0_faith_110 ?_
      refine x_iadd d_X0_faith_111 ?_
      refine x_iret rfl d_X0_faith_112 ?_
      refine ⟨?_, rfl⟩
      first | (simp [faithF, dayF, c1, k12]; done) | (exfalso; simp_all; done)
    by_cases k13 : a (24 + 3 * p) = 5
    · have k13T : (a (24 + 3 * p)).toInt = 5 := by rw [k13]; decide
      refine x_tswIn 113 (off := 75) d_X0_faith_38 (by rw [k13T]; decide) (by rw [k13T]; decide) (by rw [k13T]; decide) (by decide) ?_
      refine x_aload_n 3 d_X0_faith_113 rfl rfl ?_
      refine x_getiV (j := 7) (z := a 2) x_c0 (p_kd ho) (Nat.le_of_ble_eq_true rfl) q48 (p_n7 ho) (PR.f7 hR) d_X0_faith_114 ?_
      refine x_if_ne 124 d_X0_faith_117 (by decide) (fun c14 => ?_) (fun c14 => ?_)
      · skip
        exact absurd c1 c14
      · skip
        refine x_iload_n 2 d_X0_faith_120 rfl rfl ?_
        refine x_goto 127 d_X0_faith_121 (by decide) ?_
        refine x_iret rfl d_X0_faith_127 ?_
        refine ⟨?_, rfl⟩
        first | (simp [faithF, dayF, c1, k13, c14]; done) | (exfalso; simp_all; done)
    by_cases k15 : a (24 + 3 * p) = 6
    · have k15T : (a (24 + 3 * p)).toInt = 6 := by rw [k15]; decide
      refine x_tswIn 80 (off := 42) d_X0_faith_38 (by rw [k15T]; decide) (by rw [k15T]; decide) (by rw [k15T]; decide) (by decide) ?_
      refine x_iload_n 2 d_X0_faith_80 rfl rfl ?_
      refine x_iconst (x := 2) d_X0_faith_81 (by decide) ?_
      refine x_idiv d_X0_faith_82 (by decide) ?_
      refine x_bipush (x := 20) d_X0_faith_83 (by decide) ?_
      refine x_isub d_X0_faith_85 ?_
      refine x_iret rfl d_X0_faith_86 ?_
      refine ⟨?_, rfl⟩
      first | (simp [faithF, dayF, c1, k15]; done) | (exfalso; simp_all; done)
    have k9T : ¬ (a (24 + 3 * p)).toInt = 1 := lv_neT k9 (by decide)
    have k10T : ¬ (a (24 + 3 * p)).toInt = 2 := lv_neT k10 (by decide)
    have k11T : ¬ (a (24 + 3 * p)).toInt = 3 := lv_neT k11 (by decide)
    have k12T : ¬ (a (24 + 3 * p)).toInt = 4 := lv_neT k12 (by decide)
    have k13T : ¬ (a (24 + 3 * p)).toInt = 5 := lv_neT k13 (by decide)
    have k15T : ¬ (a (24 + 3 * p)).toInt = 6 := lv_neT k15 (by decide)
    refine x_tswOut 128 d_X0_faith_38 (by omega) (by decide) ?_
    refine x_iload_n 2 d_X0_faith_128 rfl rfl ?_
    refine x_iret rfl d_X0_faith_129 ?_
    refine ⟨?_, rfl⟩
    first | (simp [faithF, dayF, c1, k9, k10, k11, k12, k13, k15]; done) | (exfalso; simp_all; done)
def m_X0_brings : x_M := (yX0_brings, prog_2_method_7_code, 5, (some FieldType.int), 2, 50)
theorem v_X0_brings : x_VM m_X0_brings 2 := ⟨q198, q2, by decide +kernel, by decide +kernel, by decide +kernel⟩
theorem w_X0_brings : x_VI m_X0_brings := ⟨q196, q197⟩
theorem d_X0_brings_0 : x_dec m_X0_brings 0 (.aload_n 0) 1 1 := ⟨by decide +kernel, rfl⟩
theorem d_X0_brings_1 : x_dec m_X0_brings 1 (.getfield 18) 3 4 := ⟨by decide +kernel, rfl⟩
theorem d_X0_brings_4 : x_dec m_X0_brings 4 (.iload_n 1) 1 5 := ⟨by decide +kernel, rfl⟩
theorem d_X0_brings_5 : x_dec m_X0_brings 5 (.iaload) 1 6 := ⟨by decide +kernel, rfl⟩
theorem d_X0_brings_6 : x_dec m_X0_brings 6 (.istore_n 3) 1 7 := ⟨by decide +kernel, rfl⟩
theorem d_X0_brings_7 : x_dec m_X0_brings 7 (.iload_n 3) 1 8 := ⟨by decide +kernel, rfl⟩
theorem d_X0_brings_8 : x_dec m_X0_brings 8 (.iconst (-1)) 1 9 := ⟨by decide +kernel, rfl⟩
theorem d_X0_brings_9 : x_dec m_X0_brings 9 (.if_icmp .ne 9) 3 12 := ⟨by decide +kernel, rfl⟩
theorem d_X0_brings_12 : x_dec m_X0_brings 12 (.aload_n 0) 1 13 := ⟨by decide +kernel, rfl⟩
theorem d_X0_brings_13 : x_dec m_X0_brings 13 (.iload_n 1) 1 14 := ⟨by decide +kernel, rfl⟩
theorem d_X0_brings_14 : x_dec m_X0_brings 14 (.invokevirtual 87) 3 17 := ⟨by decide +kernel, rfl⟩
theorem d_X0_brings_17 : x_dec m_X0_brings 17 (.ireturn) 1 18 := ⟨by decide +kernel, rfl⟩
theorem d_X0_brings_18 : x_dec m_X0_brings 18 (.iload_n 3) 1 19 := ⟨by decide +kernel, rfl⟩
theorem d_X0_brings_19 : x_dec m_X0_brings 19 (.iload_n 2) 1 20 := ⟨by decide +kernel, rfl⟩
theorem d_X0_brings_20 : x_dec m_X0_brings 20 (.if_icmp .gt 9) 3 23 := ⟨by decide +kernel, rfl⟩
theorem d_X0_brings_23 : x_dec m_X0_brings 23 (.iload_n 2) 1 24 := ⟨by decide +kernel, rfl⟩
theorem d_X0_brings_24 : x_dec m_X0_brings 24 (.iload_n 3) 1 25 := ⟨by decide +kernel, rfl⟩
theorem d_X0_brings_25 : x_dec m_X0_brings 25 (.isub) 1 26 := ⟨by decide +kernel, rfl⟩
theorem d_X0_brings_26 : x_dec m_X0_brings 26 (.goto 8) 3 29 := ⟨by decide +kernel, rfl⟩
theorem d_X0_brings_29 : x_dec m_X0_brings 29 (.iload_n 3) 1 30 := ⟨by decide +kernel, rfl⟩
theorem d_X0_brings_30 : x_dec m_X0_brings 30 (.iload_n 2) 1 31 := ⟨by decide +kernel, rfl⟩
theorem d_X0_brings_31 : x_dec m_X0_brings 31 (.isub) 1 32 := ⟨by decide +kernel, rfl⟩
theorem d_X0_brings_32 : x_dec m_X0_brings 32 (.iconst 1) 1 33 := ⟨by decide +kernel, rfl⟩
theorem d_X0_brings_33 : x_dec m_X0_brings 33 (.isub) 1 34 := ⟨by decide +kernel, rfl⟩
theorem d_X0_brings_34 : x_dec m_X0_brings 34 (.istore 4) 2 36 := ⟨by decide +kernel, rfl⟩
theorem d_X0_brings_36 : x_dec m_X0_brings 36 (.iconst 0) 1 37 := ⟨by decide +kernel, rfl⟩
theorem d_X0_brings_37 : x_dec m_X0_brings 37 (.aload_n 0) 1 38 := ⟨by decide +kernel, rfl⟩
theorem d_X0_brings_38 : x_dec m_X0_brings 38 (.iload_n 1) 1 39 := ⟨by decide +kernel, rfl⟩
theorem d_X0_brings_39 : x_dec m_X0_brings 39 (.invokevirtual 87) 3 42 := ⟨by decide +kernel, rfl⟩
theorem d_X0_brings_42 : x_dec m_X0_brings 42 (.bipush 10) 2 44 := ⟨by decide +kernel, rfl⟩
theorem d_X0_brings_44 : x_dec m_X0_brings 44 (.iload 4) 2 46 := ⟨by decide +kernel, rfl⟩
theorem d_X0_brings_46 : x_dec m_X0_brings 46 (.imul) 1 47 := ⟨by decide +kernel, rfl⟩
theorem d_X0_brings_47 : x_dec m_X0_brings 47 (.isub) 1 48 := ⟨by decide +kernel, rfl⟩
theorem d_X0_brings_48 : x_dec m_X0_brings 48 (.invokestatic 90) 3 51 := ⟨by decide +kernel, rfl⟩
theorem d_X0_brings_51 : x_dec m_X0_brings 51 (.ireturn) 1 52 := ⟨by decide +kernel, rfl⟩
set_option maxHeartbeats 4000000 in
set_option maxRecDepth 100000 in
theorem c_X0_brings (l : Launch) (E : x_E) (μ : x_Mem) {a : x_St} {o : Nat} (ho : x_pr o) (hR : PR a o μ) (hI : WF a) {p : Nat} (hp : p < 8) (k : Int32) : x_Met l m_X0_brings E [.ref (E.1 + o), .int (nI p), .int k] μ (x_I (fun z m => z = bringsF a p k ∧ m = μ)) := by
  have ho1 : o = 1 ∨ o = 10 ∨ o = 19 := ho
  have hn7 := hI.2.1
  have hpn := hI.1
  refine x_enter (lv := [(0, .ref (E.1 + o)), (1, .int (nI p)), (2, .int k)]) (by decide +kernel) (Nat.le_of_ble_eq_true rfl) rfl ?_
  refine x_aload_n 0 d_X0_brings_0 rfl rfl ?_
  refine x_getr (j := 2) (o + 3) x_c0 (p_kd ho) (Nat.le_of_ble_eq_true rfl) q36 (p_f2 ho) d_X0_brings_1 ?_
  refine x_iload_n 1 d_X0_brings_4 rfl rfl ?_
  refine x_ialdN (z := a (24 + 3 * p + 1)) 8 p (p_k3 ho) (p_l3 ho) (by omega) (by decide) (PR.wh hR p (by omega)) d_X0_brings_5 ?_
  refine x_istore_n [(3, .int (a (24 + 3 * p + 1))), (0, .ref (E.1 + o)), (1, .int (nI p)), (2, .int k)] d_X0_brings_6 rfl (Nat.le_of_ble_eq_true rfl) rfl ?_
  refine x_iload_n 0 d_X0_brings_7 rfl rfl ?_
  refine x_iconst (x := (-1)) d_X0_brings_8 (by decide) ?_
  refine x_icmp_ne 18 d_X0_brings_9 (by decide) (fun c1 => ?_) (fun c1 => ?_)
  · skip
    refine x_iload_n 0 d_X0_brings_18 rfl rfl ?_
    refine x_iload_n 3 d_X0_brings_19 rfl rfl ?_
    refine x_icmp_gt 29 d_X0_brings_20 (by decide) (fun c2 => ?_) (fun c2 => ?_)
    · skip
      have d1 := Int32.not_le.mpr c2
      refine x_iload_n 0 d_X0_brings_29 rfl rfl ?_
      refine x_iload_n 3 d_X0_brings_30 rfl rfl ?_
      refine x_isub d_X0_brings_31 ?_
      refine x_iconst (x := 1) d_X0_brings_32 (by decide) ?_
      refine x_isub d_X0_brings_33 ?_
      refine x_istore [(4, .int (((a (24 + 3 * p + 1)) - k) - 1)), (3, .int (a (24 + 3 * p + 1))), (0, .ref (E.1 + o)), (1, .int (nI p)), (2, .int k)] d_X0_brings_34 (Nat.le_of_ble_eq_true rfl) rfl ?_
      refine x_iconst (x := 0) d_X0_brings_36 (by decide) ?_
      refine x_aload_n 2 d_X0_brings_37 rfl rfl ?_
      refine x_iload_n 3 d_X0_brings_38 rfl rfl ?_
      refine x_cvip (k := o) (as := [.int (nI p)]) (c_X0_faith l E μ ho hR hI (p := p) (by omega)) v_X0_faith w_X0_faith q199 (p_ob ho) rfl ⟨Nat.le_of_ble_eq_true rfl, Nat.le_of_ble_eq_true rfl⟩ rfl (Nat.le_of_ble_eq_true rfl) d_X0_brings_39 ?_
      refine x_bipush (x := 10) d_X0_brings_42 (by decide) ?_
      refine x_iload 0 d_X0_brings_44 rfl ?_
      refine x_imul d_X0_brings_46 ?_
      refine x_isub d_X0_brings_47 ?_
      refine x_max q210 q211 q212 q7 (Nat.le_of_ble_eq_true rfl) (Nat.le_of_ble_eq_true rfl) d_X0_brings_48 ?_
      refine x_iret rfl d_X0_brings_51 ?_
      exact ⟨by simp [bringsF, farF, d1, c1, c2], rfl⟩
    · skip
      have d1 := Int32.not_lt.mp c2
      refine x_iload_n 3 d_X0_brings_23 rfl rfl ?_
      refine x_iload_n 0 d_X0_brings_24 rfl rfl ?_
      refine x_isub d_X0_brings_25 ?_
      refine x_goto 34 d_X0_brings_26 (by decide) ?_
      refine x_istore [(4, .int (k - (a (24 + 3 * p + 1)))), (3, .int (a (24 + 3 * p + 1))), (0, .ref (E.1 + o)), (1, .int (nI p)), (2, .int k)] d_X0_brings_34 (Nat.le_of_ble_eq_true rfl) rfl ?_
      refine x_iconst (x := 0) d_X0_brings_36 (by decide) ?_
      refine x_aload_n 2 d_X0_brings_37 rfl rfl ?_
      refine x_iload_n 3 d_X0_brings_38 rfl rfl ?_
      refine x_cvip (k := o) (as := [.int (nI p)]) (c_X0_faith l E μ ho hR hI (p := p) (by omega)) v_X0_faith w_X0_faith q199 (p_ob ho) rfl ⟨Nat.le_of_ble_eq_true rfl, Nat.le_of_ble_eq_true rfl⟩ rfl (Nat.le_of_ble_eq_true rfl) d_X0_brings_39 ?_
      refine x_bipush (x := 10) d_X0_brings_42 (by decide) ?_
      refine x_iload 0 d_X0_brings_44 rfl ?_
      refine x_imul d_X0_brings_46 ?_
      refine x_isub d_X0_brings_47 ?_
      refine x_max q210 q211 q212 q7 (Nat.le_of_ble_eq_true rfl) (Nat.le_of_ble_eq_true rfl) d_X0_brings_48 ?_
      refine x_iret rfl d_X0_brings_51 ?_
      exact ⟨by simp [bringsF, farF, d1, c1, c2], rfl⟩
  · skip
    refine x_aload_n 1 d_X0_brings_12 rfl rfl ?_
    refine x_iload_n 2 d_X0_brings_13 rfl rfl ?_
    refine x_cvip (k := o) (as := [.int (nI p)]) (c_X0_faith l E μ ho hR hI (p := p) (by omega)) v_X0_faith w_X0_faith q199 (p_ob ho) rfl ⟨Nat.le_of_ble_eq_true rfl, Nat.le_of_ble_eq_true rfl⟩ rfl (Nat.le_of_ble_eq_true rfl) d_X0_brings_14 ?_
    refine x_iret rfl d_X0_brings_17 ?_
    exact ⟨by simp [bringsF, c1], rfl⟩
def m_X0_sumAt : x_M := (yX0_sumAt, prog_2_method_8_code, 4, (some FieldType.int), 3, 74)
theorem v_X0_sumAt : x_VM m_X0_sumAt 1 := ⟨q194, q2, by decide +kernel, by decide +kernel, by decide +kernel⟩
theorem w_X0_sumAt : x_VI m_X0_sumAt := ⟨q192, q193⟩
theorem d_X0_sumAt_0 : x_dec m_X0_sumAt 0 (.iconst 0) 1 1 := ⟨by decide +kernel, rfl⟩
theorem d_X0_sumAt_1 : x_dec m_X0_sumAt 1 (.istore_n 2) 1 2 := ⟨by decide +kernel, rfl⟩
theorem d_X0_sumAt_2 : x_dec m_X0_sumAt 2 (.iconst 0) 1 3 := ⟨by decide +kernel, rfl⟩
theorem d_X0_sumAt_3 : x_dec m_X0_sumAt 3 (.istore_n 3) 1 4 := ⟨by decide +kernel, rfl⟩
theorem d_X0_sumAt_4 : x_dec m_X0_sumAt 4 (.iload_n 3) 1 5 := ⟨by decide +kernel, rfl⟩
theorem d_X0_sumAt_5 : x_dec m_X0_sumAt 5 (.aload_n 0) 1 6 := ⟨by decide +kernel, rfl⟩
theorem d_X0_sumAt_6 : x_dec m_X0_sumAt 6 (.getfield 27) 3 9 := ⟨by decide +kernel, rfl⟩
theorem d_X0_sumAt_9 : x_dec m_X0_sumAt 9 (.if_icmp .ge 18) 3 12 := ⟨by decide +kernel, rfl⟩
theorem d_X0_sumAt_12 : x_dec m_X0_sumAt 12 (.iload_n 2) 1 13 := ⟨by decide +kernel, rfl⟩
theorem d_X0_sumAt_13 : x_dec m_X0_sumAt 13 (.aload_n 0) 1 14 := ⟨by decide +kernel, rfl⟩
theorem d_X0_sumAt_14 : x_dec m_X0_sumAt 14 (.iload_n 3) 1 15 := ⟨by decide +kernel, rfl⟩
theorem d_X0_sumAt_15 : x_dec m_X0_sumAt 15 (.iload_n 1) 1 16 := ⟨by decide +kernel, rfl⟩
theorem d_X0_sumAt_16 : x_dec m_X0_sumAt 16 (.invokevirtual 93) 3 19 := ⟨by decide +kernel, rfl⟩
theorem d_X0_sumAt_19 : x_dec m_X0_sumAt 19 (.iadd) 1 20 := ⟨by decide +kernel, rfl⟩
theorem d_X0_sumAt_20 : x_dec m_X0_sumAt 20 (.istore_n 2) 1 21 := ⟨by decide +kernel, rfl⟩
theorem d_X0_sumAt_21 : x_dec m_X0_sumAt 21 (.iinc 3 1) 3 24 := ⟨by decide +kernel, rfl⟩
theorem d_X0_sumAt_24 : x_dec m_X0_sumAt 24 (.goto (-20)) 3 27 := ⟨by decide +kernel, rfl⟩
theorem d_X0_sumAt_27 : x_dec m_X0_sumAt 27 (.iload_n 2) 1 28 := ⟨by decide +kernel, rfl⟩
theorem d_X0_sumAt_28 : x_dec m_X0_sumAt 28 (.ireturn) 1 29 := ⟨by decide +kernel, rfl⟩
set_option maxHeartbeats 4000000 in
set_option maxRecDepth 100000 in
theorem c_X0_sumAt (l : Launch) (E : x_E) (μ : x_Mem) {a : x_St} {o : Nat} (ho : x_pr o) (hR : PR a o μ) (hI : WF a) (k : Int32) : x_Met l m_X0_sumAt E [.ref (E.1 + o), .int k] μ (x_I (fun z m => z = sumF a k ∧ m = μ)) := by
  have ho1 : o = 1 ∨ o = 10 ∨ o = 19 := ho
  have hn7 := hI.2.1
  have hpn := hI.1
  refine x_enter (lv := [(0, .ref (E.1 + o)), (1, .int k)]) (by decide +kernel) (Nat.le_of_ble_eq_true rfl) rfl ?_
  refine x_iconst (x := 0) d_X0_sumAt_0 (by decide) ?_
  refine x_istore_n [(2, .int 0), (0, .ref (E.1 + o)), (1, .int k)] d_X0_sumAt_1 rfl (Nat.le_of_ble_eq_true rfl) rfl ?_
  refine x_iconst (x := 0) d_X0_sumAt_2 (by decide) ?_
  refine x_istore_n [(3, .int 0), (2, .int 0), (0, .ref (E.1 + o)), (1, .int k)] d_X0_sumAt_3 rfl (Nat.le_of_ble_eq_true rfl) rfl ?_
  have L1 : ∀ i : Nat, i ≤ pn a → ∀ r : Int32, (r = sumTo (fun p => bringsF a p k) i) → x_G l E m_X0_sumAt (x_mv E m_X0_sumAt (x_I (fun z m => z = sumF a k ∧ m = μ))) μ 4 [(3, .int (nI i)), (2, .int r), (0, .ref (E.1 + o)), (1, .int k)] [] := by
    refine x_down _ (pn a) (fun i hi3 ih2 => ?_)
    intro r hr
    refine x_iload_n 0 d_X0_sumAt_4 rfl rfl ?_
    refine x_aload_n 2 d_X0_sumAt_5 rfl rfl ?_
    refine x_getiV (j := 5) (z := nI (pn a)) x_c0 (p_kd ho) (Nat.le_of_ble_eq_true rfl) q42 (p_n5 ho) ((PR.f5 hR).trans hn7) d_X0_sumAt_6 ?_
    refine x_icmp_ge 27 d_X0_sumAt_9 (by decide) (fun c4 => ?_) (fun c4 => ?_)
    · skip
      have hN := x_ge c4 rfl rfl (by omega) (by omega)
      refine x_iload_n 1 d_X0_sumAt_27 rfl rfl ?_
      refine x_iret rfl d_X0_sumAt_28 ?_
      exact ⟨by rw [hr, sumF]; congr 1; omega, rfl⟩
    · skip
      have hN := x_lt c4 rfl rfl (by omega) (by omega)
      refine x_iload_n 1 d_X0_sumAt_12 rfl rfl ?_
      refine x_aload_n 2 d_X0_sumAt_13 rfl rfl ?_
      refine x_iload_n 0 d_X0_sumAt_14 rfl rfl ?_
      refine x_iload_n 3 d_X0_sumAt_15 rfl rfl ?_
      refine x_cvip (k := o) (as := [.int (nI i), .int k]) (c_X0_brings l E μ ho hR hI (p := i) (by omega) k) v_X0_brings w_X0_brings q195 (p_ob ho) rfl ⟨Nat.le_of_ble_eq_true rfl, Nat.le_of_ble_eq_true rfl⟩ rfl (Nat.le_of_ble_eq_true rfl) d_X0_sumAt_16 ?_
      refine x_iadd d_X0_sumAt_19 ?_
      refine x_istore_n [(2, .int (r + (bringsF a i k))), (3, .int (nI i)), (0, .ref (E.1 + o)), (1, .int k)] d_X0_sumAt_20 rfl (Nat.le_of_ble_eq_true rfl) rfl ?_
      refine x_iinc [(3, .int (nI (i + 1))), (2, .int (r + (bringsF a i k))), (0, .ref (E.1 + o)), (1, .int k)] 1 d_X0_sumAt_21 rfl (x_inc _) (Nat.le_of_ble_eq_true rfl) rfl ?_
      refine x_goto 4 d_X0_sumAt_24 (by decide) ?_
      exact ih2 (i + 1) (by omega) (by omega) (r + (bringsF a i k)) (by rw [hr, sumTo])
  exact L1 0 (by omega) 0 (by rfl)
def m_X0_isThere : x_M := (yX0_isThere, prog_2_method_9_code, 2, (some FieldType.boolean), 4, 97)
theorem v_X0_isThere : x_VM m_X0_isThere 1 := ⟨q216, q2, by decide +kernel, by decide +kernel, by decide +kernel⟩
theorem w_X0_isThere : x_VI m_X0_isThere := ⟨q214, q215⟩
theorem d_X0_isThere_0 : x_dec m_X0_isThere 0 (.iload_n 1) 1 1 := ⟨by decide +kernel, rfl⟩
theorem d_X0_isThere_1 : x_dec m_X0_isThere 1 (.ifCond .lt 27) 3 4 := ⟨by decide +kernel, rfl⟩
theorem d_X0_isThere_4 : x_dec m_X0_isThere 4 (.iload_n 1) 1 5 := ⟨by decide +kernel, rfl⟩
theorem d_X0_isThere_5 : x_dec m_X0_isThere 5 (.bipush 16) 2 7 := ⟨by decide +kernel, rfl⟩
theorem d_X0_isThere_7 : x_dec m_X0_isThere 7 (.if_icmp .ge 21) 3 10 := ⟨by decide +kernel, rfl⟩
theorem d_X0_isThere_10 : x_dec m_X0_isThere 10 (.aload_n 0) 1 11 := ⟨by decide +kernel, rfl⟩
theorem d_X0_isThere_11 : x_dec m_X0_isThere 11 (.iload_n 1) 1 12 := ⟨by decide +kernel, rfl⟩
theorem d_X0_isThere_12 : x_dec m_X0_isThere 12 (.invokevirtual 96) 3 15 := ⟨by decide +kernel, rfl⟩
theorem d_X0_isThere_15 : x_dec m_X0_isThere 15 (.aload_n 0) 1 16 := ⟨by decide +kernel, rfl⟩
theorem d_X0_isThere_16 : x_dec m_X0_isThere 16 (.getfield 9) 3 19 := ⟨by decide +kernel, rfl⟩
theorem d_X0_isThere_19 : x_dec m_X0_isThere 19 (.iload_n 1) 1 20 := ⟨by decide +kernel, rfl⟩
theorem d_X0_isThere_20 : x_dec m_X0_isThere 20 (.iaload) 1 21 := ⟨by decide +kernel, rfl⟩
theorem d_X0_isThere_21 : x_dec m_X0_isThere 21 (.if_icmp .lt 7) 3 24 := ⟨by decide +kernel, rfl⟩
theorem d_X0_isThere_24 : x_dec m_X0_isThere 24 (.iconst 1) 1 25 := ⟨by decide +kernel, rfl⟩
theorem d_X0_isThere_25 : x_dec m_X0_isThere 25 (.goto 4) 3 28 := ⟨by decide +kernel, rfl⟩
theorem d_X0_isThere_28 : x_dec m_X0_isThere 28 (.iconst 0) 1 29 := ⟨by decide +kernel, rfl⟩
theorem d_X0_isThere_29 : x_dec m_X0_isThere 29 (.ireturn) 1 30 := ⟨by decide +kernel, rfl⟩
set_option maxHeartbeats 4000000 in
set_option maxRecDepth 100000 in
theorem c_X0_isThere (l : Launch) (E : x_E) (μ : x_Mem) {a : x_St} {o : Nat} (ho : x_pr o) (hR : PR a o μ) (hI : WF a) {k : Nat} (hk : k < 16) : x_Met l m_X0_isThere E [.ref (E.1 + o), .int (nI k)] μ (x_I (fun z m => z = x_b (thereB a k) ∧ m = μ)) := by
  have ho1 : o = 1 ∨ o = 10 ∨ o = 19 := ho
  have hn7 := hI.2.1
  have hpn := hI.1
  refine x_enter (lv := [(0, .ref (E.1 + o)), (1, .int (nI k))]) (by decide +kernel) (Nat.le_of_ble_eq_true rfl) rfl ?_
  refine x_iload_n 1 d_X0_isThere_0 rfl rfl ?_
  refine x_if_lt 28 d_X0_isThere_1 (by decide) (fun c1 => ?_) (fun c1 => ?_)
  · skip
    exact absurd c1 (nI_pos (by omega))
  · skip
    refine x_iload_n 1 d_X0_isThere_4 rfl rfl ?_
    refine x_bipush (x := 16) d_X0_isThere_5 (by decide) ?_
    refine x_icmp_ge 28 d_X0_isThere_7 (by decide) (fun c2 => ?_) (fun c2 => ?_)
    · skip
      exact absurd (x_ge (N := 16) c2 rfl rfl (by omega) (by omega)) (by omega)
    · skip
      refine x_aload_n 0 d_X0_isThere_10 rfl rfl ?_
      refine x_iload_n 1 d_X0_isThere_11 rfl rfl ?_
      refine x_cvip (k := o) (as := [.int (nI k)]) (c_X0_sumAt l E μ ho hR hI (nI k)) v_X0_sumAt w_X0_sumAt q217 (p_ob ho) rfl ⟨Nat.le_of_ble_eq_true rfl, Nat.le_of_ble_eq_true rfl⟩ rfl (Nat.le_of_ble_eq_true rfl) d_X0_isThere_12 ?_
      refine x_aload_n 0 d_X0_isThere_15 rfl rfl ?_
      refine x_getr (j := 0) (o + 1) x_c0 (p_kd ho) (Nat.le_of_ble_eq_true rfl) q31 (p_f0 ho) d_X0_isThere_16 ?_
      refine x_iload_n 1 d_X0_isThere_19 rfl rfl ?_
      refine x_ialdN (z := a (8 + k)) 16 k (p_k1 ho) (p_l1 ho) (by omega) (by decide) (PR.need hR k (by omega)) d_X0_isThere_20 ?_
      refine x_icmp_lt 28 d_X0_isThere_21 (by decide) (fun c3 => ?_) (fun c3 => ?_)
      · skip
        have d1 := Int32.not_le.mpr c3
        refine x_iconst (x := 0) d_X0_isThere_28 (by decide) ?_
        refine x_zret0 rfl d_X0_isThere_29 ?_
        exact ⟨by simp [thereB, d1], rfl⟩
      · skip
        have d1 := Int32.not_lt.mp c3
        refine x_iconst (x := 1) d_X0_isThere_24 (by decide) ?_
        refine x_goto 29 d_X0_isThere_25 (by decide) ?_
        refine x_zret1 rfl d_X0_isThere_29 ?_
        exact ⟨by simp [thereB, d1], rfl⟩
def m_X0_thereSet : x_M := (yX0_thereSet, prog_2_method_10_code, 3, (some FieldType.int), 5, 118)
theorem v_X0_thereSet : x_VM m_X0_thereSet 0 := ⟨q299, q2, by decide +kernel, by decide +kernel, by decide +kernel⟩
theorem w_X0_thereSet : x_VI m_X0_thereSet := ⟨q297, q298⟩
theorem d_X0_thereSet_0 : x_dec m_X0_thereSet 0 (.iconst 0) 1 1 := ⟨by decide +kernel, rfl⟩
theorem d_X0_thereSet_1 : x_dec m_X0_thereSet 1 (.istore_n 1) 1 2 := ⟨by decide +kernel, rfl⟩
theorem d_X0_thereSet_2 : x_dec m_X0_thereSet 2 (.iconst 0) 1 3 := ⟨by decide +kernel, rfl⟩
theorem d_X0_thereSet_3 : x_dec m_X0_thereSet 3 (.istore_n 2) 1 4 := ⟨by decide +kernel, rfl⟩
theorem d_X0_thereSet_4 : x_dec m_X0_thereSet 4 (.iload_n 2) 1 5 := ⟨by decide +kernel, rfl⟩
theorem d_X0_thereSet_5 : x_dec m_X0_thereSet 5 (.bipush 16) 2 7 := ⟨by decide +kernel, rfl⟩
theorem d_X0_thereSet_7 : x_dec m_X0_thereSet 7 (.if_icmp .ge 23) 3 10 := ⟨by decide +kernel, rfl⟩
theorem d_X0_thereSet_10 : x_dec m_X0_thereSet 10 (.aload_n 0) 1 11 := ⟨by decide +kernel, rfl⟩
theorem d_X0_thereSet_11 : x_dec m_X0_thereSet 11 (.iload_n 2) 1 12 := ⟨by decide +kernel, rfl⟩
theorem d_X0_thereSet_12 : x_dec m_X0_thereSet 12 (.invokevirtual 99) 3 15 := ⟨by decide +kernel, rfl⟩
theorem d_X0_thereSet_15 : x_dec m_X0_thereSet 15 (.ifCond .eq 9) 3 18 := ⟨by decide +kernel, rfl⟩
theorem d_X0_thereSet_18 : x_dec m_X0_thereSet 18 (.iload_n 1) 1 19 := ⟨by decide +kernel, rfl⟩
theorem d_X0_thereSet_19 : x_dec m_X0_thereSet 19 (.iconst 1) 1 20 := ⟨by decide +kernel, rfl⟩
theorem d_X0_thereSet_20 : x_dec m_X0_thereSet 20 (.iload_n 2) 1 21 := ⟨by decide +kernel, rfl⟩
theorem d_X0_thereSet_21 : x_dec m_X0_thereSet 21 (.ishl) 1 22 := ⟨by decide +kernel, rfl⟩
theorem d_X0_thereSet_22 : x_dec m_X0_thereSet 22 (.ior) 1 23 := ⟨by decide +kernel, rfl⟩
theorem d_X0_thereSet_23 : x_dec m_X0_thereSet 23 (.istore_n 1) 1 24 := ⟨by decide +kernel, rfl⟩
theorem d_X0_thereSet_24 : x_dec m_X0_thereSet 24 (.iinc 2 1) 3 27 := ⟨by decide +kernel, rfl⟩
theorem d_X0_thereSet_27 : x_dec m_X0_thereSet 27 (.goto (-23)) 3 30 := ⟨by decide +kernel, rfl⟩
theorem d_X0_thereSet_30 : x_dec m_X0_thereSet 30 (.iload_n 1) 1 31 := ⟨by decide +kernel, rfl⟩
theorem d_X0_thereSet_31 : x_dec m_X0_thereSet 31 (.ireturn) 1 32 := ⟨by decide +kernel, rfl⟩
set_option maxHeartbeats 4000000 in
set_option maxRecDepth 100000 in
theorem c_X0_thereSet (l : Launch) (E : x_E) (μ : x_Mem) {a : x_St} {o : Nat} (ho : x_pr o) (hR : PR a o μ) (hI : WF a)  : x_Met l m_X0_thereSet E [.ref (E.1 + o)] μ (x_I (fun z m => z = thereF a ∧ m = μ)) := by
  have ho1 : o = 1 ∨ o = 10 ∨ o = 19 := ho
  have hn7 := hI.2.1
  have hpn := hI.1
  refine x_enter (lv := [(0, .ref (E.1 + o))]) (by decide +kernel) (Nat.le_of_ble_eq_true rfl) rfl ?_
  refine x_iconst (x := 0) d_X0_thereSet_0 (by decide) ?_
  refine x_istore_n [(1, .int 0), (0, .ref (E.1 + o))] d_X0_thereSet_1 rfl (Nat.le_of_ble_eq_true rfl) rfl ?_
  refine x_iconst (x := 0) d_X0_thereSet_2 (by decide) ?_
  refine x_istore_n [(2, .int 0), (1, .int 0), (0, .ref (E.1 + o))] d_X0_thereSet_3 rfl (Nat.le_of_ble_eq_true rfl) rfl ?_
  have L1 : ∀ i : Nat, i ≤ 16 → ∀ r : Int32, (r = setTo (thereB a) i) → x_G l E m_X0_thereSet (x_mv E m_X0_thereSet (x_I (fun z m => z = thereF a ∧ m = μ))) μ 4 [(2, .int (nI i)), (1, .int r), (0, .ref (E.1 + o))] [] := by
    refine x_down _ 16 (fun i hi3 ih2 => ?_)
    intro r hr
    refine x_iload_n 0 d_X0_thereSet_4 rfl rfl ?_
    refine x_bipush (x := 16) d_X0_thereSet_5 (by decide) ?_
    refine x_icmp_ge 30 d_X0_thereSet_7 (by decide) (fun c4 => ?_) (fun c4 => ?_)
    · skip
      have hN := x_ge (N := 16) c4 rfl rfl (by omega) (by omega)
      refine x_iload_n 1 d_X0_thereSet_30 rfl rfl ?_
      refine x_iret rfl d_X0_thereSet_31 ?_
      exact ⟨by rw [hr, thereF]; congr 1; omega, rfl⟩
    · skip
      have hN := x_lt (N := 16) c4 rfl rfl (by omega) (by omega)
      refine x_aload_n 2 d_X0_thereSet_10 rfl rfl ?_
      refine x_iload_n 0 d_X0_thereSet_11 rfl rfl ?_
      refine x_cvip (k := o) (as := [.int (nI i)]) (c_X0_isThere l E μ ho hR hI (k := i) (by omega)) v_X0_isThere w_X0_isThere q300 (p_ob ho) rfl ⟨Nat.le_of_ble_eq_true rfl, Nat.le_of_ble_eq_true rfl⟩ rfl (Nat.le_of_ble_eq_true rfl) d_X0_thereSet_12 ?_
      refine x_ifb_eq 24 d_X0_thereSet_15 (by decide) (fun c5 => ?_) (fun c5 => ?_)
      · skip
        refine x_iinc [(2, .int (nI (i + 1))), (1, .int r), (0, .ref (E.1 + o))] 0 d_X0_thereSet_24 rfl (x_inc _) (Nat.le_of_ble_eq_true rfl) rfl ?_
        refine x_goto 4 d_X0_thereSet_27 (by decide) ?_
        exact ih2 (i + 1) (by omega) (by omega) r (by rw [hr, setTo]; simp [c4, c5])
      · skip
        refine x_iload_n 1 d_X0_thereSet_18 rfl rfl ?_
        refine x_iconst (x := 1) d_X0_thereSet_19 (by decide) ?_
        refine x_iload_n 0 d_X0_thereSet_20 rfl rfl ?_
        refine x_ishl d_X0_thereSet_21 ?_
        refine x_ior d_X0_thereSet_22 ?_
        refine x_istore_n [(1, .int (r ||| (1 <<< ((nI i) &&& 31)))), (2, .int (nI i)), (0, .ref (E.1 + o))] d_X0_thereSet_23 rfl (Nat.le_of_ble_eq_true rfl) rfl ?_
        refine x_iinc [(2, .int (nI (i + 1))), (1, .int (r ||| (1 <<< ((nI i) &&& 31)))), (0, .ref (E.1 + o))] 1 d_X0_thereSet_24 rfl (x_inc _) (Nat.le_of_ble_eq_true rfl) rfl ?_
        refine x_goto 4 d_X0_thereSet_27 (by decide) ?_
        exact ih2 (i + 1) (by omega) (by omega) (r ||| (1 <<< ((nI i) &&& 31))) (by rw [hr, setTo]; simp [c4, c5])
  exact L1 0 (by omega) 0 (by rfl)
def m_X0_aboardSet : x_M := (yX0_aboardSet, prog_2_method_11_code, 3, (some FieldType.int), 0, 0)
theorem v_X0_aboardSet : x_VM m_X0_aboardSet 0 := ⟨q295, q2, by decide +kernel, by decide +kernel, by decide +kernel⟩
theorem w_X0_aboardSet : x_VI m_X0_aboardSet := ⟨q293, q294⟩
theorem d_X0_aboardSet_0 : x_dec m_X0_aboardSet 0 (.iconst 0) 1 1 := ⟨by decide +kernel, rfl⟩
theorem d_X0_aboardSet_1 : x_dec m_X0_aboardSet 1 (.istore_n 1) 1 2 := ⟨by decide +kernel, rfl⟩
theorem d_X0_aboardSet_2 : x_dec m_X0_aboardSet 2 (.iconst 0) 1 3 := ⟨by decide +kernel, rfl⟩
theorem d_X0_aboardSet_3 : x_dec m_X0_aboardSet 3 (.istore_n 2) 1 4 := ⟨by decide +kernel, rfl⟩
theorem d_X0_aboardSet_4 : x_dec m_X0_aboardSet 4 (.iload_n 2) 1 5 := ⟨by decide +kernel, rfl⟩
theorem d_X0_aboardSet_5 : x_dec m_X0_aboardSet 5 (.aload_n 0) 1 6 := ⟨by decide +kernel, rfl⟩
theorem d_X0_aboardSet_6 : x_dec m_X0_aboardSet 6 (.getfield 27) 3 9 := ⟨by decide +kernel, rfl⟩
theorem d_X0_aboardSet_9 : x_dec m_X0_aboardSet 9 (.if_icmp .ge 25) 3 12 := ⟨by decide +kernel, rfl⟩
theorem d_X0_aboardSet_12 : x_dec m_X0_aboardSet 12 (.aload_n 0) 1 13 := ⟨by decide +kernel, rfl⟩
theorem d_X0_aboardSet_13 : x_dec m_X0_aboardSet 13 (.getfield 18) 3 16 := ⟨by decide +kernel, rfl⟩
theorem d_X0_aboardSet_16 : x_dec m_X0_aboardSet 16 (.iload_n 2) 1 17 := ⟨by decide +kernel, rfl⟩
theorem d_X0_aboardSet_17 : x_dec m_X0_aboardSet 17 (.iaload) 1 18 := ⟨by decide +kernel, rfl⟩
theorem d_X0_aboardSet_18 : x_dec m_X0_aboardSet 18 (.iconst (-1)) 1 19 := ⟨by decide +kernel, rfl⟩
theorem d_X0_aboardSet_19 : x_dec m_X0_aboardSet 19 (.if_icmp .ne 9) 3 22 := ⟨by decide +kernel, rfl⟩
theorem d_X0_aboardSet_22 : x_dec m_X0_aboardSet 22 (.iload_n 1) 1 23 := ⟨by decide +kernel, rfl⟩
theorem d_X0_aboardSet_23 : x_dec m_X0_aboardSet 23 (.iconst 1) 1 24 := ⟨by decide +kernel, rfl⟩
theorem d_X0_aboardSet_24 : x_dec m_X0_aboardSet 24 (.iload_n 2) 1 25 := ⟨by decide +kernel, rfl⟩
theorem d_X0_aboardSet_25 : x_dec m_X0_aboardSet 25 (.ishl) 1 26 := ⟨by decide +kernel, rfl⟩
theorem d_X0_aboardSet_26 : x_dec m_X0_aboardSet 26 (.ior) 1 27 := ⟨by decide +kernel, rfl⟩
theorem d_X0_aboardSet_27 : x_dec m_X0_aboardSet 27 (.istore_n 1) 1 28 := ⟨by decide +kernel, rfl⟩
theorem d_X0_aboardSet_28 : x_dec m_X0_aboardSet 28 (.iinc 2 1) 3 31 := ⟨by decide +kernel, rfl⟩
theorem d_X0_aboardSet_31 : x_dec m_X0_aboardSet 31 (.goto (-27)) 3 34 := ⟨by decide +kernel, rfl⟩
theorem d_X0_aboardSet_34 : x_dec m_X0_aboardSet 34 (.iload_n 1) 1 35 := ⟨by decide +kernel, rfl⟩
theorem d_X0_aboardSet_35 : x_dec m_X0_aboardSet 35 (.ireturn) 1 36 := ⟨by decide +kernel, rfl⟩
set_option maxHeartbeats 4000000 in
set_option maxRecDepth 100000 in
theorem c_X0_aboardSet (l : Launch) (E : x_E) (μ : x_Mem) {a : x_St} {o : Nat} (ho : x_pr o) (hR : PR a o μ) (hI : WF a)  : x_Met l m_X0_aboardSet E [.ref (E.1 + o)] μ (x_I (fun z m => z = aboardF a ∧ m = μ)) := by
  have ho1 : o = 1 ∨ o = 10 ∨ o = 19 := ho
  have hn7 := hI.2.1
  have hpn := hI.1
  refine x_enter (lv := [(0, .ref (E.1 + o))]) (by decide +kernel) (Nat.le_of_ble_eq_true rfl) rfl ?_
  refine x_iconst (x := 0) d_X0_aboardSet_0 (by decide) ?_
  refine x_istore_n [(1, .int 0), (0, .ref (E.1 + o))] d_X0_aboardSet_1 rfl (Nat.le_of_ble_eq_true rfl) rfl ?_
  refine x_iconst (x := 0) d_X0_aboardSet_2 (by decide) ?_
  refine x_istore_n [(2, .int 0), (1, .int 0), (0, .ref (E.1 + o))] d_X0_aboardSet_3 rfl (Nat.le_of_ble_eq_true rfl) rfl ?_
  have L1 : ∀ i : Nat, i ≤ pn a → ∀ r : Int32, (r = setTo (fun p => decide (a (24 + 3 * p + 1) = -1)) i) → x_G l E m_X0_aboardSet (x_mv E m_X0_aboardSet (x_I (fun z m => z = aboardF a ∧ m = μ))) μ 4 [(2, .int (nI i)), (1, .int r), (0, .ref (E.1 + o))] [] := by
    refine x_down _ (pn a) (fun i hi3 ih2 => ?_)
    intro r hr
    refine x_iload_n 0 d_X0_aboardSet_4 rfl rfl ?_
    refine x_aload_n 2 d_X0_aboardSet_5 rfl rfl ?_
    refine x_getiV (j := 5) (z := nI (pn a)) x_c0 (p_kd ho) (Nat.le_of_ble_eq_true rfl) q42 (p_n5 ho) ((PR.f5 hR).trans hn7) d_X0_aboardSet_6 ?_
    refine x_icmp_ge 34 d_X0_aboardSet_9 (by decide) (fun c4 => ?_) (fun c4 => ?_)
    · skip
      have hN := x_ge c4 rfl rfl (by omega) (by omega)
      refine x_iload_n 1 d_X0_aboardSet_34 rfl rfl ?_
      refine x_iret rfl d_X0_aboardSet_35 ?_
      exact ⟨by rw [hr, aboardF]; congr 1; omega, rfl⟩
    · skip
      have hN := x_lt c4 rfl rfl (by omega) (by omega)
      refine x_aload_n 2 d_X0_aboardSet_12 rfl rfl ?_
      refine x_getr (j := 2) (o + 3) x_c0 (p_kd ho) (Nat.le_of_ble_eq_true rfl) q36 (p_f2 ho) d_X0_aboardSet_13 ?_
      refine x_iload_n 0 d_X0_aboardSet_16 rfl rfl ?_
      refine x_ialdN (z := a (24 + 3 * i + 1)) 8 i (p_k3 ho) (p_l3 ho) (by omega) (by decide) (PR.wh hR i (by omega)) d_X0_aboardSet_17 ?_
      refine x_iconst (x := (-1)) d_X0_aboardSet_18 (by decide) ?_
      refine x_icmp_ne 28 d_X0_aboardSet_19 (by decide) (fun c5 => ?_) (fun c5 => ?_)
      · skip
        refine x_iinc [(2, .int (nI (i + 1))), (1, .int r), (0, .ref (E.1 + o))] 0 d_X0_aboardSet_28 rfl (x_inc _) (Nat.le_of_ble_eq_true rfl) rfl ?_
        refine x_goto 4 d_X0_aboardSet_31 (by decide) ?_
        exact ih2 (i + 1) (by omega) (by omega) r (by rw [hr, setTo]; simp [c4, c5])
      · skip
        refine x_iload_n 1 d_X0_aboardSet_22 rfl rfl ?_
        refine x_iconst (x := 1) d_X0_aboardSet_23 (by decide) ?_
        refine x_iload_n 0 d_X0_aboardSet_24 rfl rfl ?_
        refine x_ishl d_X0_aboardSet_25 ?_
        refine x_ior d_X0_aboardSet_26 ?_
        refine x_istore_n [(1, .int (r ||| (1 <<< ((nI i) &&& 31)))), (2, .int (nI i)), (0, .ref (E.1 + o))] d_X0_aboardSet_27 rfl (Nat.le_of_ble_eq_true rfl) rfl ?_
        refine x_iinc [(2, .int (nI (i + 1))), (1, .int (r ||| (1 <<< ((nI i) &&& 31)))), (0, .ref (E.1 + o))] 1 d_X0_aboardSet_28 rfl (x_inc _) (Nat.le_of_ble_eq_true rfl) rfl ?_
        refine x_goto 4 d_X0_aboardSet_31 (by decide) ?_
        exact ih2 (i + 1) (by omega) (by omega) (r ||| (1 <<< ((nI i) &&& 31))) (by rw [hr, setTo]; simp [c4, c5])
  exact L1 0 (by omega) 0 (by rfl)
def m_X0_beliefOfAll : x_M := (yX0_beliefOfAll, prog_2_method_12_code, 3, (some FieldType.int), 0, 0)
theorem v_X0_beliefOfAll : x_VM m_X0_beliefOfAll 0 := ⟨q304, q2, by decide +kernel, by decide +kernel, by decide +kernel⟩
theorem w_X0_beliefOfAll : x_VI m_X0_beliefOfAll := ⟨q302, q303⟩
theorem d_X0_beliefOfAll_0 : x_dec m_X0_beliefOfAll 0 (.iconst 0) 1 1 := ⟨by decide +kernel, rfl⟩
theorem d_X0_beliefOfAll_1 : x_dec m_X0_beliefOfAll 1 (.istore_n 1) 1 2 := ⟨by decide +kernel, rfl⟩
theorem d_X0_beliefOfAll_2 : x_dec m_X0_beliefOfAll 2 (.iconst 0) 1 3 := ⟨by decide +kernel, rfl⟩
theorem d_X0_beliefOfAll_3 : x_dec m_X0_beliefOfAll 3 (.istore_n 2) 1 4 := ⟨by decide +kernel, rfl⟩
theorem d_X0_beliefOfAll_4 : x_dec m_X0_beliefOfAll 4 (.iload_n 2) 1 5 := ⟨by decide +kernel, rfl⟩
theorem d_X0_beliefOfAll_5 : x_dec m_X0_beliefOfAll 5 (.aload_n 0) 1 6 := ⟨by decide +kernel, rfl⟩
theorem d_X0_beliefOfAll_6 : x_dec m_X0_beliefOfAll 6 (.getfield 27) 3 9 := ⟨by decide +kernel, rfl⟩
theorem d_X0_beliefOfAll_9 : x_dec m_X0_beliefOfAll 9 (.if_icmp .ge 18) 3 12 := ⟨by decide +kernel, rfl⟩
theorem d_X0_beliefOfAll_12 : x_dec m_X0_beliefOfAll 12 (.iload_n 1) 1 13 := ⟨by decide +kernel, rfl⟩
theorem d_X0_beliefOfAll_13 : x_dec m_X0_beliefOfAll 13 (.aload_n 0) 1 14 := ⟨by decide +kernel, rfl⟩
theorem d_X0_beliefOfAll_14 : x_dec m_X0_beliefOfAll 14 (.getfield 21) 3 17 := ⟨by decide +kernel, rfl⟩
theorem d_X0_beliefOfAll_17 : x_dec m_X0_beliefOfAll 17 (.iload_n 2) 1 18 := ⟨by decide +kernel, rfl⟩
theorem d_X0_beliefOfAll_18 : x_dec m_X0_beliefOfAll 18 (.iaload) 1 19 := ⟨by decide +kernel, rfl⟩
theorem d_X0_beliefOfAll_19 : x_dec m_X0_beliefOfAll 19 (.iadd) 1 20 := ⟨by decide +kernel, rfl⟩
theorem d_X0_beliefOfAll_20 : x_dec m_X0_beliefOfAll 20 (.istore_n 1) 1 21 := ⟨by decide +kernel, rfl⟩
theorem d_X0_beliefOfAll_21 : x_dec m_X0_beliefOfAll 21 (.iinc 2 1) 3 24 := ⟨by decide +kernel, rfl⟩
theorem d_X0_beliefOfAll_24 : x_dec m_X0_beliefOfAll 24 (.goto (-20)) 3 27 := ⟨by decide +kernel, rfl⟩
theorem d_X0_beliefOfAll_27 : x_dec m_X0_beliefOfAll 27 (.iload_n 1) 1 28 := ⟨by decide +kernel, rfl⟩
theorem d_X0_beliefOfAll_28 : x_dec m_X0_beliefOfAll 28 (.ireturn) 1 29 := ⟨by decide +kernel, rfl⟩
set_option maxHeartbeats 4000000 in
set_option maxRecDepth 100000 in
theorem c_X0_beliefOfAll (l : Launch) (E : x_E) (μ : x_Mem) {a : x_St} {o : Nat} (ho : x_pr o) (hR : PR a o μ) (hI : WF a)  : x_Met l m_X0_beliefOfAll E [.ref (E.1 + o)] μ (x_I (fun z m => z = beliefsF a ∧ m = μ)) := by
  have ho1 : o = 1 ∨ o = 10 ∨ o = 19 := ho
  have hn7 := hI.2.1
  have hpn := hI.1
  refine x_enter (lv := [(0, .ref (E.1 + o))]) (by decide +kernel) (Nat.le_of_ble_eq_true rfl) rfl ?_
  refine x_iconst (x := 0) d_X0_beliefOfAll_0 (by decide) ?_
  refine x_istore_n [(1, .int 0), (0, .ref (E.1 + o))] d_X0_beliefOfAll_1 rfl (Nat.le_of_ble_eq_true rfl) rfl ?_
  refine x_iconst (x := 0) d_X0_beliefOfAll_2 (by decide) ?_
  refine x_istore_n [(2, .int 0), (1, .int 0), (0, .ref (E.1 + o))] d_X0_beliefOfAll_3 rfl (Nat.le_of_ble_eq_true rfl) rfl ?_
  have L1 : ∀ i : Nat, i ≤ pn a → ∀ r : Int32, (r = sumTo (fun p => a (24 + 3 * p + 2)) i) → x_G l E m_X0_beliefOfAll (x_mv E m_X0_beliefOfAll (x_I (fun z m => z = beliefsF a ∧ m = μ))) μ 4 [(2, .int (nI i)), (1, .int r), (0, .ref (E.1 + o))] [] := by
    refine x_down _ (pn a) (fun i hi3 ih2 => ?_)
    intro r hr
    refine x_iload_n 0 d_X0_beliefOfAll_4 rfl rfl ?_
    refine x_aload_n 2 d_X0_beliefOfAll_5 rfl rfl ?_
    refine x_getiV (j := 5) (z := nI (pn a)) x_c0 (p_kd ho) (Nat.le_of_ble_eq_true rfl) q42 (p_n5 ho) ((PR.f5 hR).trans hn7) d_X0_beliefOfAll_6 ?_
    refine x_icmp_ge 27 d_X0_beliefOfAll_9 (by decide) (fun c4 => ?_) (fun c4 => ?_)
    · skip
      have hN := x_ge c4 rfl rfl (by omega) (by omega)
      refine x_iload_n 1 d_X0_beliefOfAll_27 rfl rfl ?_
      refine x_iret rfl d_X0_beliefOfAll_28 ?_
      exact ⟨by rw [hr, beliefsF]; congr 1; omega, rfl⟩
    · skip
      have hN := x_lt c4 rfl rfl (by omega) (by omega)
      refine x_iload_n 1 d_X0_beliefOfAll_12 rfl rfl ?_
      refine x_aload_n 2 d_X0_beliefOfAll_13 rfl rfl ?_
      refine x_getr (j := 3) (o + 4) x_c0 (p_kd ho) (Nat.le_of_ble_eq_true rfl) q38 (p_f3 ho) d_X0_beliefOfAll_14 ?_
      refine x_iload_n 0 d_X0_beliefOfAll_17 rfl rfl ?_
      refine x_ialdN (z := a (24 + 3 * i + 2)) 8 i (p_k4 ho) (p_l4 ho) (by omega) (by decide) (PR.bl hR i (by omega)) d_X0_beliefOfAll_18 ?_
      refine x_iadd d_X0_beliefOfAll_19 ?_
      refine x_istore_n [(1, .int (r + (a (24 + 3 * i + 2)))), (2, .int (nI i)), (0, .ref (E.1 + o))] d_X0_beliefOfAll_20 rfl (Nat.le_of_ble_eq_true rfl) rfl ?_
      refine x_iinc [(2, .int (nI (i + 1))), (1, .int (r + (a (24 + 3 * i + 2)))), (0, .ref (E.1 + o))] 1 d_X0_beliefOfAll_21 rfl (x_inc _) (Nat.le_of_ble_eq_true rfl) rfl ?_
      refine x_goto 4 d_X0_beliefOfAll_24 (by decide) ?_
      exact ih2 (i + 1) (by omega) (by omega) (r + (a (24 + 3 * i + 2))) (by rw [hr, sumTo])
  exact L1 0 (by omega) 0 (by rfl)
