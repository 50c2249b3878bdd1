def m_X4_farthestBy : x_M := (yX4_farthestBy, prog_6_method_50_code, 8, (some FieldType.int), 10, 223)
theorem v_X4_farthestBy : x_VM m_X4_farthestBy 3 := ⟨q909, q6, by decide +kernel, by decide +kernel, by decide +kernel⟩
theorem w_X4_farthestBy : x_VI m_X4_farthestBy := ⟨q908, qs43⟩
theorem d_X4_farthestBy_0 : x_dec m_X4_farthestBy 0 (.aload_n 0) 1 1 := ⟨by decide +kernel, rfl⟩
theorem d_X4_farthestBy_1 : x_dec m_X4_farthestBy 1 (.invokevirtual 134) 3 4 := ⟨by decide +kernel, rfl⟩
theorem d_X4_farthestBy_4 : x_dec m_X4_farthestBy 4 (.iconst 0) 1 5 := ⟨by decide +kernel, rfl⟩
theorem d_X4_farthestBy_5 : x_dec m_X4_farthestBy 5 (.istore 4) 2 7 := ⟨by decide +kernel, rfl⟩
theorem d_X4_farthestBy_7 : x_dec m_X4_farthestBy 7 (.iconst (-1)) 1 8 := ⟨by decide +kernel, rfl⟩
theorem d_X4_farthestBy_8 : x_dec m_X4_farthestBy 8 (.istore 5) 2 10 := ⟨by decide +kernel, rfl⟩
theorem d_X4_farthestBy_10 : x_dec m_X4_farthestBy 10 (.iconst 0) 1 11 := ⟨by decide +kernel, rfl⟩
theorem d_X4_farthestBy_11 : x_dec m_X4_farthestBy 11 (.istore 6) 2 13 := ⟨by decide +kernel, rfl⟩
theorem d_X4_farthestBy_13 : x_dec m_X4_farthestBy 13 (.iload 6) 2 15 := ⟨by decide +kernel, rfl⟩
theorem d_X4_farthestBy_15 : x_dec m_X4_farthestBy 15 (.iload_n 2) 1 16 := ⟨by decide +kernel, rfl⟩
theorem d_X4_farthestBy_16 : x_dec m_X4_farthestBy 16 (.if_icmp .ge 56) 3 19 := ⟨by decide +kernel, rfl⟩
theorem d_X4_farthestBy_19 : x_dec m_X4_farthestBy 19 (.aload_n 0) 1 20 := ⟨by decide +kernel, rfl⟩
theorem d_X4_farthestBy_20 : x_dec m_X4_farthestBy 20 (.getfield 9) 3 23 := ⟨by decide +kernel, rfl⟩
theorem d_X4_farthestBy_23 : x_dec m_X4_farthestBy 23 (.iload_n 1) 1 24 := ⟨by decide +kernel, rfl⟩
theorem d_X4_farthestBy_24 : x_dec m_X4_farthestBy 24 (.iload 6) 2 26 := ⟨by decide +kernel, rfl⟩
theorem d_X4_farthestBy_26 : x_dec m_X4_farthestBy 26 (.iastore) 1 27 := ⟨by decide +kernel, rfl⟩
theorem d_X4_farthestBy_27 : x_dec m_X4_farthestBy 27 (.aload_n 0) 1 28 := ⟨by decide +kernel, rfl⟩
theorem d_X4_farthestBy_28 : x_dec m_X4_farthestBy 28 (.iload_n 3) 1 29 := ⟨by decide +kernel, rfl⟩
theorem d_X4_farthestBy_29 : x_dec m_X4_farthestBy 29 (.invokevirtual 137) 3 32 := ⟨by decide +kernel, rfl⟩
theorem d_X4_farthestBy_32 : x_dec m_X4_farthestBy 32 (.istore 7) 2 34 := ⟨by decide +kernel, rfl⟩
theorem d_X4_farthestBy_34 : x_dec m_X4_farthestBy 34 (.iload 7) 2 36 := ⟨by decide +kernel, rfl⟩
theorem d_X4_farthestBy_36 : x_dec m_X4_farthestBy 36 (.iload 5) 2 38 := ⟨by decide +kernel, rfl⟩
theorem d_X4_farthestBy_38 : x_dec m_X4_farthestBy 38 (.if_icmp .le 8) 3 41 := ⟨by decide +kernel, rfl⟩
theorem d_X4_farthestBy_41 : x_dec m_X4_farthestBy 41 (.iload 6) 2 43 := ⟨by decide +kernel, rfl⟩
theorem d_X4_farthestBy_43 : x_dec m_X4_farthestBy 43 (.goto 5) 3 46 := ⟨by decide +kernel, rfl⟩
theorem d_X4_farthestBy_46 : x_dec m_X4_farthestBy 46 (.iload 4) 2 48 := ⟨by decide +kernel, rfl⟩
theorem d_X4_farthestBy_48 : x_dec m_X4_farthestBy 48 (.istore 4) 2 50 := ⟨by decide +kernel, rfl⟩
theorem d_X4_farthestBy_50 : x_dec m_X4_farthestBy 50 (.iload 7) 2 52 := ⟨by decide +kernel, rfl⟩
theorem d_X4_farthestBy_52 : x_dec m_X4_farthestBy 52 (.iload 5) 2 54 := ⟨by decide +kernel, rfl⟩
theorem d_X4_farthestBy_54 : x_dec m_X4_farthestBy 54 (.if_icmp .le 8) 3 57 := ⟨by decide +kernel, rfl⟩
theorem d_X4_farthestBy_57 : x_dec m_X4_farthestBy 57 (.iload 7) 2 59 := ⟨by decide +kernel, rfl⟩
theorem d_X4_farthestBy_59 : x_dec m_X4_farthestBy 59 (.goto 5) 3 62 := ⟨by decide +kernel, rfl⟩
theorem d_X4_farthestBy_62 : x_dec m_X4_farthestBy 62 (.iload 5) 2 64 := ⟨by decide +kernel, rfl⟩
theorem d_X4_farthestBy_64 : x_dec m_X4_farthestBy 64 (.istore 5) 2 66 := ⟨by decide +kernel, rfl⟩
theorem d_X4_farthestBy_66 : x_dec m_X4_farthestBy 66 (.iinc 6 1) 3 69 := ⟨by decide +kernel, rfl⟩
theorem d_X4_farthestBy_69 : x_dec m_X4_farthestBy 69 (.goto (-56)) 3 72 := ⟨by decide +kernel, rfl⟩
theorem d_X4_farthestBy_72 : x_dec m_X4_farthestBy 72 (.iload 4) 2 74 := ⟨by decide +kernel, rfl⟩
theorem d_X4_farthestBy_74 : x_dec m_X4_farthestBy 74 (.ireturn) 1 75 := ⟨by decide +kernel, rfl⟩
set_option maxHeartbeats 4000000 in
set_option maxRecDepth 100000 in
theorem c_X4_farthestBy (l : Launch) (E : x_E) (μ : x_Mem) {a : x_St} (hR : MR a μ) (hI : WF a) {j N h : Nat} (hj : j < 58) (hN0 : N < 100) (hh : h < 1000) (hU : ∀ k, k < N → WF (upd a j (nI k))) : x_Met l m_X4_farthestBy E [.ref (E.1 + 41), .int (nI j), .int (nI N), .int (nI h)] μ (x_I (fun z m => z = (bestTo (fun k => hoursF (upd a j (nI k)) h 1) N).1 ∧ MR a m ∧ ∀ id, (id ≠ 42 ∧ id ≠ 44 ∧ id ≠ 46) → m id = μ id)) := by
  have hn7 := hI.2.1
  have hpn := hI.1
  have hF : ∀ id, (id ≠ 42 ∧ id ≠ 44 ∧ id ≠ 46) → μ id = μ id := fun _ _ => rfl
  refine x_enter (lv := [(0, .ref (E.1 + 41)), (1, .int (nI j)), (2, .int (nI N)), (3, .int (nI h))]) (by decide +kernel) (Nat.le_of_ble_eq_true rfl) rfl ?_
  refine x_aload_n 0 d_X4_farthestBy_0 rfl rfl ?_
  refine x_cvv (k := 41) (as := []) (c_X4_thinks l E μ hR) v_X4_thinks w_X4_thinks q859 o_M rfl ⟨Nat.le_of_ble_eq_true rfl, Nat.le_of_ble_eq_true rfl⟩ rfl (Nat.le_of_ble_eq_true rfl) d_X4_farthestBy_1 ?_
  rintro μ1 ⟨hW2, hF3⟩
  have hR4 := MR.cg hR (μ' := μ1) (fun id hid => (hF3 _ (by omega)))
  have hF5 : ∀ id, (id ≠ 42 ∧ id ≠ 44 ∧ id ≠ 46) → μ1 id = μ id := fun id hid => (show μ1 id = μ id from (hF3 _ (by omega))).trans (hF id hid)
  refine x_iconst (x := 0) d_X4_farthestBy_4 (by decide) ?_
  refine x_istore [(4, .int 0), (0, .ref (E.1 + 41)), (1, .int (nI j)), (2, .int (nI N)), (3, .int (nI h))] d_X4_farthestBy_5 (Nat.le_of_ble_eq_true rfl) rfl ?_
  refine x_iconst (x := (-1)) d_X4_farthestBy_7 (by decide) ?_
  refine x_istore [(5, .int (-1)), (4, .int 0), (0, .ref (E.1 + 41)), (1, .int (nI j)), (2, .int (nI N)), (3, .int (nI h))] d_X4_farthestBy_8 (Nat.le_of_ble_eq_true rfl) rfl ?_
  refine x_iconst (x := 0) d_X4_farthestBy_10 (by decide) ?_
  refine x_istore [(6, .int 0), (5, .int (-1)), (4, .int 0), (0, .ref (E.1 + 41)), (1, .int (nI j)), (2, .int (nI N)), (3, .int (nI h))] d_X4_farthestBy_11 (Nat.le_of_ble_eq_true rfl) rfl ?_
  have L6 : ∀ v : Nat, v ≤ N → ∀ b : Int32, ∀ m : Int32, ∀ μ9 : x_Mem, (b = (bestTo (fun k => hoursF (upd a j (nI k)) h 1) v).1) → (m = (bestTo (fun k => hoursF (upd a j (nI k)) h 1) v).2) → (MR a μ9) → (MW a μ9) → (∀ id, (id ≠ 42 ∧ id ≠ 44 ∧ id ≠ 46) → μ9 id = μ id) → x_G l E m_X4_farthestBy (x_mv E m_X4_farthestBy (x_I (fun z m => z = (bestTo (fun k => hoursF (upd a j (nI k)) h 1) N).1 ∧ MR a m ∧ ∀ id, (id ≠ 42 ∧ id ≠ 44 ∧ id ≠ 46) → m id = μ id))) μ9 13 [(6, .int (nI v)), (5, .int m), (4, .int b), (0, .ref (E.1 + 41)), (1, .int (nI j)), (2, .int (nI N)), (3, .int (nI h))] [] := by
    refine x_down _ N (fun v hi8 ih7 => ?_)
    intro b m μ9 hb hm hR1 hW1 hF1
    refine x_iload 0 d_X4_farthestBy_13 rfl ?_
    refine x_iload_n 5 d_X4_farthestBy_15 rfl rfl ?_
    refine x_icmp_ge 72 d_X4_farthestBy_16 (by decide) (fun c10 => ?_) (fun c10 => ?_)
    · skip
      have hN := x_ge (N := N) c10 rfl rfl (by omega) (by omega)
      refine x_iload 2 d_X4_farthestBy_72 rfl ?_
      refine x_iret rfl d_X4_farthestBy_74 ?_
      have e7 : v = N := by omega
      subst e7
      exact ⟨hb, hR1, hF1⟩
    · skip
      have hN := x_lt (N := N) c10 rfl rfl (by omega) (by omega)
      refine x_aload_n 3 d_X4_farthestBy_19 rfl rfl ?_
      refine x_getr (j := 0) 42 x_c4 rfl (Nat.le_of_ble_eq_true rfl) q668 rfl d_X4_farthestBy_20 ?_
      refine x_iload_n 4 d_X4_farthestBy_23 rfl rfl ?_
      refine x_iload 0 d_X4_farthestBy_24 rfl ?_
      refine x_iastNG 58 j rfl rfl (by omega) (by decide) d_X4_farthestBy_26 (fun μ11 eμ11 => ?_)
      have hR12 : MR (upd a (j) (nI v)) μ11 := MR.w hR1 eμ11
      have hF13 : ∀ id, (id ≠ 42 ∧ id ≠ 44 ∧ id ≠ 46) → μ11 id = μ id := fun id hid => (show μ11 id = μ9 id from (by rw [eμ11, upd2_ne _ _ _ (by omega)])).trans (hF1 id hid)
      have hW14 := MW.cg hW1 (μ' := μ11) (fun id hid => (by rw [eμ11, upd2_ne _ _ _ (by omega)]))
      refine x_aload_n 3 d_X4_farthestBy_27 rfl rfl ?_
      refine x_iload_n 6 d_X4_farthestBy_28 rfl rfl ?_
      refine x_cvi (k := 41) (as := [.int (nI h)]) (c_X4_getsTo l E μ11 hR12 (hU v (by omega)) hW14 (h := h) (by omega)) v_X4_getsTo w_X4_getsTo q866 o_M rfl ⟨Nat.le_of_ble_eq_true rfl, Nat.le_of_ble_eq_true rfl⟩ rfl (Nat.le_of_ble_eq_true rfl) d_X4_farthestBy_29 ?_
      rintro _ μ15 ⟨rfl, hR16, hW17, hF18⟩
      have hF19 : ∀ id, (id ≠ 42 ∧ id ≠ 44 ∧ id ≠ 46) → μ15 id = μ id := fun id hid => (show μ15 id = μ11 id from (hF18 _ (by omega))).trans (hF13 id hid)
      refine x_istore [(7, .int (hoursF (upd a (j) (nI v)) h 1)), (6, .int (nI v)), (5, .int m), (4, .int b), (0, .ref (E.1 + 41)), (1, .int (nI j)), (2, .int (nI N)), (3, .int (nI h))] d_X4_farthestBy_32 (Nat.le_of_ble_eq_true rfl) rfl ?_
      refine x_iload 0 d_X4_farthestBy_34 rfl ?_
      refine x_iload 2 d_X4_farthestBy_36 rfl ?_
      refine x_icmp_le 46 d_X4_farthestBy_38 (by decide) (fun c20 => ?_) (fun c20 => ?_)
      · skip
        refine x_iload 3 d_X4_farthestBy_46 rfl ?_
        refine x_istore [(4, .int b), (7, .int (hoursF (upd a (j) (nI v)) h 1)), (6, .int (nI v)), (5, .int m), (0, .ref (E.1 + 41)), (1, .int (nI j)), (2, .int (nI N)), (3, .int (nI h))] d_X4_farthestBy_48 (Nat.le_of_ble_eq_true rfl) rfl ?_
        refine x_iload 1 d_X4_farthestBy_50 rfl ?_
        refine x_iload 3 d_X4_farthestBy_52 rfl ?_
        refine x_icmp_le 62 d_X4_farthestBy_54 (by decide) (fun c21 => ?_) (fun c21 => ?_)
        · skip
          refine x_iload 3 d_X4_farthestBy_62 rfl ?_
          refine x_istore [(5, .int m), (4, .int b), (7, .int (hoursF (upd a (j) (nI v)) h 1)), (6, .int (nI v)), (0, .ref (E.1 + 41)), (1, .int (nI j)), (2, .int (nI N)), (3, .int (nI h))] d_X4_farthestBy_64 (Nat.le_of_ble_eq_true rfl) rfl ?_
          refine x_iinc [(6, .int (nI (v + 1))), (5, .int m), (4, .int b), (7, .int (hoursF (upd a (j) (nI v)) h 1)), (0, .ref (E.1 + 41)), (1, .int (nI j)), (2, .int (nI N)), (3, .int (nI h))] 3 d_X4_farthestBy_66 rfl (x_inc _) (Nat.le_of_ble_eq_true rfl) rfl ?_
          refine x_goto 13 d_X4_farthestBy_69 (by decide) ?_
          refine x_lv [0, 1, 2, 4, 5, 6, 7] rfl ?_
          exact ih7 (v + 1) (by omega) (by omega) b m μ15 (by rw [bestTo_f (f := (fun k => hoursF (upd a j (nI k)) h 1)) (by rw [← hm]; exact c20)]; exact hb) (by rw [bestTo_f (f := (fun k => hoursF (upd a j (nI k)) h 1)) (by rw [← hm]; exact c20)]; exact hm) hR16 hW17 hF19
        · skip
          refine x_iload 1 d_X4_farthestBy_57 rfl ?_
          refine x_goto 64 d_X4_farthestBy_59 (by decide) ?_
          refine x_istore [(5, .int (hoursF (upd a (j) (nI v)) h 1)), (4, .int b), (7, .int (hoursF (upd a (j) (nI v)) h 1)), (6, .int (nI v)), (0, .ref (E.1 + 41)), (1, .int (nI j)), (2, .int (nI N)), (3, .int (nI h))] d_X4_farthestBy_64 (Nat.le_of_ble_eq_true rfl) rfl ?_
          refine x_iinc [(6, .int (nI (v + 1))), (5, .int (hoursF (upd a (j) (nI v)) h 1)), (4, .int b), (7, .int (hoursF (upd a (j) (nI v)) h 1)), (0, .ref (E.1 + 41)), (1, .int (nI j)), (2, .int (nI N)), (3, .int (nI h))] 3 d_X4_farthestBy_66 rfl (x_inc _) (Nat.le_of_ble_eq_true rfl) rfl ?_
          refine x_goto 13 d_X4_farthestBy_69 (by decide) ?_
          refine x_lv [0, 1, 2, 4, 5, 6, 7] rfl ?_
          exact ih7 (v + 1) (by omega) (by omega) b (hoursF (upd a (j) (nI v)) h 1) μ15 (absurd c20 c21) (absurd c20 c21) hR16 hW17 hF19
      · skip
        refine x_iload 1 d_X4_farthestBy_41 rfl ?_
        refine x_goto 48 d_X4_farthestBy_43 (by decide) ?_
        refine x_istore [(4, .int (nI v)), (7, .int (hoursF (upd a (j) (nI v)) h 1)), (6, .int (nI v)), (5, .int m), (0, .ref (E.1 + 41)), (1, .int (nI j)), (2, .int (nI N)), (3, .int (nI h))] d_X4_farthestBy_48 (Nat.le_of_ble_eq_true rfl) rfl ?_
        refine x_iload 1 d_X4_farthestBy_50 rfl ?_
        refine x_iload 3 d_X4_farthestBy_52 rfl ?_
        refine x_icmp_le 62 d_X4_farthestBy_54 (by decide) (fun c22 => ?_) (fun c22 => ?_)
        · skip
          refine x_iload 3 d_X4_farthestBy_62 rfl ?_
          refine x_istore [(5, .int m), (4, .int (nI v)), (7, .int (hoursF (upd a (j) (nI v)) h 1)), (6, .int (nI v)), (0, .ref (E.1 + 41)), (1, .int (nI j)), (2, .int (nI N)), (3, .int (nI h))] d_X4_farthestBy_64 (Nat.le_of_ble_eq_true rfl) rfl ?_
          refine x_iinc [(6, .int (nI (v + 1))), (5, .int m), (4, .int (nI v)), (7, .int (hoursF (upd a (j) (nI v)) h 1)), (0, .ref (E.1 + 41)), (1, .int (nI j)), (2, .int (nI N)), (3, .int (nI h))] 3 d_X4_farthestBy_66 rfl (x_inc _) (Nat.le_of_ble_eq_true rfl) rfl ?_
          refine x_goto 13 d_X4_farthestBy_69 (by decide) ?_
          refine x_lv [0, 1, 2, 4, 5, 6, 7] rfl ?_
          exact ih7 (v + 1) (by omega) (by omega) (nI v) m μ15 (absurd c22 c20) (absurd c22 c20) hR16 hW17 hF19
        · skip
          refine x_iload 1 d_X4_farthestBy_57 rfl ?_
          refine x_goto 64 d_X4_farthestBy_59 (by decide) ?_
          refine x_istore [(5, .int (hoursF (upd a (j) (nI v)) h 1)), (4, .int (nI v)), (7, .int (hoursF (upd a (j) (nI v)) h 1)), (6, .int (nI v)), (0, .ref (E.1 + 41)), (1, .int (nI j)), (2, .int (nI N)), (3, .int (nI h))] d_X4_farthestBy_64 (Nat.le_of_ble_eq_true rfl) rfl ?_
          refine x_iinc [(6, .int (nI (v + 1))), (5, .int (hoursF (upd a (j) (nI v)) h 1)), (4, .int (nI v)), (7, .int (hoursF (upd a (j) (nI v)) h 1)), (0, .ref (E.1 + 41)), (1, .int (nI j)), (2, .int (nI N)), (3, .int (nI h))] 3 d_X4_farthestBy_66 rfl (x_inc _) (Nat.le_of_ble_eq_true rfl) rfl ?_
          refine x_goto 13 d_X4_farthestBy_69 (by decide) ?_
          refine x_lv [0, 1, 2, 4, 5, 6, 7] rfl ?_
          exact ih7 (v + 1) (by omega) (by omega) (nI v) (hoursF (upd a (j) (nI v)) h 1) μ15 (by rw [bestTo_t (f := (fun k => hoursF (upd a j (nI k)) h 1)) (by rw [← hm]; exact c20)] <;> rfl) (by rw [bestTo_t (f := (fun k => hoursF (upd a j (nI k)) h 1)) (by rw [← hm]; exact c20)] <;> rfl) hR16 hW17 hF19
  exact L6 0 (by omega) 0 (-1) μ1 (by rfl) (by rfl) hR4 hW2 hF5
def m_X4_kindFor : x_M := (yX4_kindFor, prog_6_method_51_code, 3, (some FieldType.int), 11, 250)
theorem v_X4_kindFor : x_VM m_X4_kindFor 2 := ⟨q905, q6, by decide +kernel, by decide +kernel, by decide +kernel⟩
theorem w_X4_kindFor : x_VI m_X4_kindFor := ⟨q903, q904⟩
theorem d_X4_kindFor_0 : x_dec m_X4_kindFor 0 (.aload_n 0) 1 1 := ⟨by decide +kernel, rfl⟩
theorem d_X4_kindFor_1 : x_dec m_X4_kindFor 1 (.iload_n 1) 1 2 := ⟨by decide +kernel, rfl⟩
theorem d_X4_kindFor_2 : x_dec m_X4_kindFor 2 (.invokevirtual 92) 3 5 := ⟨by decide +kernel, rfl⟩
theorem d_X4_kindFor_5 : x_dec m_X4_kindFor 5 (.ifCond .eq 29) 3 8 := ⟨by decide +kernel, rfl⟩
theorem d_X4_kindFor_8 : x_dec m_X4_kindFor 8 (.iload_n 2) 1 9 := ⟨by decide +kernel, rfl⟩
theorem d_X4_kindFor_9 : x_dec m_X4_kindFor 9 (.iconst 0) 1 10 := ⟨by decide +kernel, rfl⟩
theorem d_X4_kindFor_10 : x_dec m_X4_kindFor 10 (.bipush 60) 2 12 := ⟨by decide +kernel, rfl⟩
theorem d_X4_kindFor_12 : x_dec m_X4_kindFor 12 (.invokestatic 46) 3 15 := ⟨by decide +kernel, rfl⟩
theorem d_X4_kindFor_15 : x_dec m_X4_kindFor 15 (.ifCond .eq 19) 3 18 := ⟨by decide +kernel, rfl⟩
theorem d_X4_kindFor_18 : x_dec m_X4_kindFor 18 (.aload_n 0) 1 19 := ⟨by decide +kernel, rfl⟩
theorem d_X4_kindFor_19 : x_dec m_X4_kindFor 19 (.bipush 24) 2 21 := ⟨by decide +kernel, rfl⟩
theorem d_X4_kindFor_21 : x_dec m_X4_kindFor 21 (.iconst 3) 1 22 := ⟨by decide +kernel, rfl⟩
theorem d_X4_kindFor_22 : x_dec m_X4_kindFor 22 (.iload_n 1) 1 23 := ⟨by decide +kernel, rfl⟩
theorem d_X4_kindFor_23 : x_dec m_X4_kindFor 23 (.imul) 1 24 := ⟨by decide +kernel, rfl⟩
theorem d_X4_kindFor_24 : x_dec m_X4_kindFor 24 (.iadd) 1 25 := ⟨by decide +kernel, rfl⟩
theorem d_X4_kindFor_25 : x_dec m_X4_kindFor 25 (.bipush 7) 2 27 := ⟨by decide +kernel, rfl⟩
theorem d_X4_kindFor_27 : x_dec m_X4_kindFor 27 (.iload_n 2) 1 28 := ⟨by decide +kernel, rfl⟩
theorem d_X4_kindFor_28 : x_dec m_X4_kindFor 28 (.invokevirtual 146) 3 31 := ⟨by decide +kernel, rfl⟩
theorem d_X4_kindFor_31 : x_dec m_X4_kindFor 31 (.goto 9) 3 34 := ⟨by decide +kernel, rfl⟩
theorem d_X4_kindFor_34 : x_dec m_X4_kindFor 34 (.aload_n 0) 1 35 := ⟨by decide +kernel, rfl⟩
theorem d_X4_kindFor_35 : x_dec m_X4_kindFor 35 (.ldc 40) 2 37 := ⟨by decide +kernel, rfl⟩
theorem d_X4_kindFor_37 : x_dec m_X4_kindFor 37 (.invokevirtual 42) 3 40 := ⟨by decide +kernel, rfl⟩
theorem d_X4_kindFor_40 : x_dec m_X4_kindFor 40 (.ireturn) 1 41 := ⟨by decide +kernel, rfl⟩
set_option maxHeartbeats 4000000 in
set_option maxRecDepth 100000 in
theorem c_X4_kindFor (l : Launch) (E : x_E) (μ : x_Mem) (g : x_SG) (hS : MS g μ) (hI : Inv g) (p n : Int32) : x_Met l m_X4_kindFor E [.ref (E.1 + 41), .int p, .int n] μ (x_I (fun z m => z = (F_kindFor g p n).1 ∧ MS (F_kindFor g p n).2 m ∧ ∀ id, id < 41 → m id = μ id)) := by
  obtain ⟨hR, hX, hD⟩ := hS
  have hWF := hI.1.1
  have hn7 := hWF.2.1
  have hpn := hWF.1
  have hF : ∀ id, id < 41 → μ id = μ id := fun _ _ => rfl
  refine x_enter (lv := [(0, .ref (E.1 + 41)), (1, .int p), (2, .int n)]) (by decide +kernel) (Nat.le_of_ble_eq_true rfl) rfl ?_
  refine x_aload_n 0 d_X4_kindFor_0 rfl rfl ?_
  refine x_iload_n 1 d_X4_kindFor_1 rfl rfl ?_
  refine x_cvip (k := 41) (as := [.int p]) (c_X4_isOne l E μ hR hWF p) v_X4_isOne w_X4_isOne q791 o_M rfl ⟨Nat.le_of_ble_eq_true rfl, Nat.le_of_ble_eq_true rfl⟩ rfl (Nat.le_of_ble_eq_true rfl) d_X4_kindFor_2 ?_
  refine x_ifb_eq 34 d_X4_kindFor_5 (by decide) (fun c1 => ?_) (fun c1 => ?_)
  · skip
    refine x_aload_n 0 d_X4_kindFor_34 rfl rfl ?_
    refine x_ldc q734 d_X4_kindFor_35 ?_
    refine x_cvi (k := 41) (as := [.int (-1000001)]) (c_X4_finds l E μ (i := 0) hD (by decide) (w := (-1000001)) (by decide)) v_X4_finds w_X4_finds q735 o_M rfl ⟨Nat.le_of_ble_eq_true rfl, Nat.le_of_ble_eq_true rfl⟩ rfl (Nat.le_of_ble_eq_true rfl) d_X4_kindFor_37 ?_
    rintro _ μ2 ⟨rfl, hD3, hF4⟩
    have hR5 := MR.cg hR (μ' := μ2) (fun id hid => (hF4 _ (by omega)))
    have hX6 := MX.cg hX (μ' := μ2) (fun id hid => (hF4 _ (by omega)))
    have hF7 : ∀ id, id < 41 → μ2 id = μ id := fun id hid => (show μ2 id = μ id from (hF4 _ (by omega))).trans (hF id hid)
    refine x_iret rfl d_X4_kindFor_40 ?_
    have e9 : F_kindFor g p n = fin g 0 := by simp [F_kindFor, x_b_f, x_b_t, c1]
    rw [e9]
    exact ⟨rfl, MS.fin hR5 hX6 hD3, hF7⟩
  · skip
    obtain ⟨q, hq, rfl⟩ := isP_nat hWF c1
    refine x_iload_n 2 d_X4_kindFor_8 rfl rfl ?_
    refine x_iconst (x := 0) d_X4_kindFor_9 (by decide) ?_
    refine x_bipush (x := 60) d_X4_kindFor_10 (by decide) ?_
    refine x_csip (as := [.int n, .int 0, .int 60]) (c_X4_in l E μ n 0 60) v_X4_in q728 q727 rfl ⟨Nat.le_of_ble_eq_true rfl, Nat.le_of_ble_eq_true rfl⟩ rfl (Nat.le_of_ble_eq_true rfl) d_X4_kindFor_12 ?_
    refine x_ifb_eq 34 d_X4_kindFor_15 (by decide) (fun c8 => ?_) (fun c8 => ?_)
    · skip
      refine x_aload_n 0 d_X4_kindFor_34 rfl rfl ?_
      refine x_ldc q734 d_X4_kindFor_35 ?_
      refine x_cvi (k := 41) (as := [.int (-1000001)]) (c_X4_finds l E μ (i := 0) hD (by decide) (w := (-1000001)) (by decide)) v_X4_finds w_X4_finds q735 o_M rfl ⟨Nat.le_of_ble_eq_true rfl, Nat.le_of_ble_eq_true rfl⟩ rfl (Nat.le_of_ble_eq_true rfl) d_X4_kindFor_37 ?_
      rintro _ μ9 ⟨rfl, hD10, hF11⟩
      have hR12 := MR.cg hR (μ' := μ9) (fun id hid => (hF11 _ (by omega)))
      have hX13 := MX.cg hX (μ' := μ9) (fun id hid => (hF11 _ (by omega)))
      have hF14 : ∀ id, id < 41 → μ9 id = μ id := fun id hid => (show μ9 id = μ id from (hF11 _ (by omega))).trans (hF id hid)
      refine x_iret rfl d_X4_kindFor_40 ?_
      have e9 : F_kindFor g (nI q) n = fin g 0 := by simp [F_kindFor, x_b_f, x_b_t, c1, c8, nI_clamp (n := q) (by omega)]
      rw [e9]
      exact ⟨rfl, MS.fin hR12 hX13 hD10, hF14⟩
    · skip
      obtain ⟨h, hh, rfl⟩ := inR_nat (n := 60) (by decide) c8
      refine x_aload_n 0 d_X4_kindFor_18 rfl rfl ?_
      refine x_bipush (x := 24) d_X4_kindFor_19 (by decide) ?_
      refine x_iconst (x := 3) d_X4_kindFor_21 (by decide) ?_
      refine x_iload_n 1 d_X4_kindFor_22 rfl rfl ?_
      refine x_imul d_X4_kindFor_23 ?_
      rw [show (3 : Int32) * (nI q) = nI (3 * q) from nI_mulN 3 q]
      refine x_iadd d_X4_kindFor_24 ?_
      rw [show (24 : Int32) + (nI (3 * q)) = nI (24 + (3 * q)) from nI_add 24 (3 * q)]
      refine x_bipush (x := 7) d_X4_kindFor_25 (by decide) ?_
      refine x_iload_n 2 d_X4_kindFor_27 rfl rfl ?_
      refine x_cvi (k := 41) (as := [.int (nI (24 + (3 * q))), .int 7, .int (nI h)]) (c_X4_farthestBy l E μ hR hWF (j := (24 + (3 * q))) (N := 7) (h := h) (by omega) (by omega) (by omega) (fun k hk => hWF.upK (p := q) (k := k) (by omega) (by omega))) v_X4_farthestBy w_X4_farthestBy q906 o_M rfl ⟨Nat.le_of_ble_eq_true rfl, Nat.le_of_ble_eq_true rfl⟩ rfl (Nat.le_of_ble_eq_true rfl) d_X4_kindFor_28 ?_
      rintro _ μ15 ⟨rfl, hR16, hF17⟩
      have hX18 := MX.cg hX (μ' := μ15) (fun id hid => (hF17 _ (by omega)))
      have hD19 := MD.cg hD (μ' := μ15) (fun id hid => (hF17 _ (by omega)))
      have hF20 : ∀ id, id < 41 → μ15 id = μ id := fun id hid => (show μ15 id = μ id from (hF17 _ (by omega))).trans (hF id hid)
      refine x_goto 40 d_X4_kindFor_31 (by decide) ?_
      refine x_iret rfl d_X4_kindFor_40 ?_
      have e9 : F_kindFor g (nI q) (nI h) = ((bestTo (fun k => hoursF (upd (gA g) ((24 + (3 * q))) (nI k)) h 1) 7).1, g) := by simp [F_kindFor, x_b_f, x_b_t, c1, c8, nI_clamp (n := q) (by omega), nI_clamp (n := h) (by omega)]
      rw [e9]
      exact ⟨rfl, ⟨hR16, hX18, hD19⟩, hF20⟩
def m_X4_seat : x_M := (yX4_seat, prog_6_method_59_code, 3, (some FieldType.int), 11, 250)
theorem v_X4_seat : x_VM m_X4_seat 2 := ⟨q948, q6, by decide +kernel, by decide +kernel, by decide +kernel⟩
theorem w_X4_seat : x_VI m_X4_seat := ⟨q946, q947⟩
theorem d_X4_seat_0 : x_dec m_X4_seat 0 (.aload_n 0) 1 1 := ⟨by decide +kernel, rfl⟩
theorem d_X4_seat_1 : x_dec m_X4_seat 1 (.iload_n 1) 1 2 := ⟨by decide +kernel, rfl⟩
theorem d_X4_seat_2 : x_dec m_X4_seat 2 (.invokevirtual 92) 3 5 := ⟨by decide +kernel, rfl⟩
theorem d_X4_seat_5 : x_dec m_X4_seat 5 (.ifCond .eq 31) 3 8 := ⟨by decide +kernel, rfl⟩
theorem d_X4_seat_8 : x_dec m_X4_seat 8 (.iload_n 2) 1 9 := ⟨by decide +kernel, rfl⟩
theorem d_X4_seat_9 : x_dec m_X4_seat 9 (.iconst 0) 1 10 := ⟨by decide +kernel, rfl⟩
theorem d_X4_seat_10 : x_dec m_X4_seat 10 (.bipush 60) 2 12 := ⟨by decide +kernel, rfl⟩
theorem d_X4_seat_12 : x_dec m_X4_seat 12 (.invokestatic 46) 3 15 := ⟨by decide +kernel, rfl⟩
theorem d_X4_seat_15 : x_dec m_X4_seat 15 (.ifCond .eq 21) 3 18 := ⟨by decide +kernel, rfl⟩
theorem d_X4_seat_18 : x_dec m_X4_seat 18 (.aload_n 0) 1 19 := ⟨by decide +kernel, rfl⟩
theorem d_X4_seat_19 : x_dec m_X4_seat 19 (.bipush 24) 2 21 := ⟨by decide +kernel, rfl⟩
theorem d_X4_seat_21 : x_dec m_X4_seat 21 (.iconst 3) 1 22 := ⟨by decide +kernel, rfl⟩
theorem d_X4_seat_22 : x_dec m_X4_seat 22 (.iload_n 1) 1 23 := ⟨by decide +kernel, rfl⟩
theorem d_X4_seat_23 : x_dec m_X4_seat 23 (.imul) 1 24 := ⟨by decide +kernel, rfl⟩
theorem d_X4_seat_24 : x_dec m_X4_seat 24 (.iadd) 1 25 := ⟨by decide +kernel, rfl⟩
theorem d_X4_seat_25 : x_dec m_X4_seat 25 (.iconst 1) 1 26 := ⟨by decide +kernel, rfl⟩
theorem d_X4_seat_26 : x_dec m_X4_seat 26 (.iadd) 1 27 := ⟨by decide +kernel, rfl⟩
theorem d_X4_seat_27 : x_dec m_X4_seat 27 (.bipush 17) 2 29 := ⟨by decide +kernel, rfl⟩
theorem d_X4_seat_29 : x_dec m_X4_seat 29 (.iload_n 2) 1 30 := ⟨by decide +kernel, rfl⟩
theorem d_X4_seat_30 : x_dec m_X4_seat 30 (.invokevirtual 146) 3 33 := ⟨by decide +kernel, rfl⟩
theorem d_X4_seat_33 : x_dec m_X4_seat 33 (.goto 9) 3 36 := ⟨by decide +kernel, rfl⟩
theorem d_X4_seat_36 : x_dec m_X4_seat 36 (.aload_n 0) 1 37 := ⟨by decide +kernel, rfl⟩
theorem d_X4_seat_37 : x_dec m_X4_seat 37 (.ldc 40) 2 39 := ⟨by decide +kernel, rfl⟩
theorem d_X4_seat_39 : x_dec m_X4_seat 39 (.invokevirtual 42) 3 42 := ⟨by decide +kernel, rfl⟩
theorem d_X4_seat_42 : x_dec m_X4_seat 42 (.ireturn) 1 43 := ⟨by decide +kernel, rfl⟩
set_option maxHeartbeats 4000000 in
set_option maxRecDepth 100000 in
theorem c_X4_seat (l : Launch) (E : x_E) (μ : x_Mem) (g : x_SG) (hS : MS g μ) (hI : Inv g) (p n : Int32) : x_Met l m_X4_seat E [.ref (E.1 + 41), .int p, .int n] μ (x_I (fun z m => z = (F_seat g p n).1 ∧ MS (F_seat g p n).2 m ∧ ∀ id, id < 41 → m id = μ id)) := by
  obtain ⟨hR, hX, hD⟩ := hS
  have hWF := hI.1.1
  have hn7 := hWF.2.1
  have hpn := hWF.1
  have hF : ∀ id, id < 41 → μ id = μ id := fun _ _ => rfl
  refine x_enter (lv := [(0, .ref (E.1 + 41)), (1, .int p), (2, .int n)]) (by decide +kernel) (Nat.le_of_ble_eq_true rfl) rfl ?_
  refine x_aload_n 0 d_X4_seat_0 rfl rfl ?_
  refine x_iload_n 1 d_X4_seat_1 rfl rfl ?_
  refine x_cvip (k := 41) (as := [.int p]) (c_X4_isOne l E μ hR hWF p) v_X4_isOne w_X4_isOne q791 o_M rfl ⟨Nat.le_of_ble_eq_true rfl, Nat.le_of_ble_eq_true rfl⟩ rfl (Nat.le_of_ble_eq_true rfl) d_X4_seat_2 ?_
  refine x_ifb_eq 36 d_X4_seat_5 (by decide) (fun c1 => ?_) (fun c1 => ?_)
  · skip
    refine x_aload_n 0 d_X4_seat_36 rfl rfl ?_
    refine x_ldc q734 d_X4_seat_37 ?_
    refine x_cvi (k := 41) (as := [.int (-1000001)]) (c_X4_finds l E μ (i := 0) hD (by decide) (w := (-1000001)) (by decide)) v_X4_finds w_X4_finds q735 o_M rfl ⟨Nat.le_of_ble_eq_true rfl, Nat.le_of_ble_eq_true rfl⟩ rfl (Nat.le_of_ble_eq_true rfl) d_X4_seat_39 ?_
    rintro _ μ2 ⟨rfl, hD3, hF4⟩
    have hR5 := MR.cg hR (μ' := μ2) (fun id hid => (hF4 _ (by omega)))
    have hX6 := MX.cg hX (μ' := μ2) (fun id hid => (hF4 _ (by omega)))
    have hF7 : ∀ id, id < 41 → μ2 id = μ id := fun id hid => (show μ2 id = μ id from (hF4 _ (by omega))).trans (hF id hid)
    refine x_iret rfl d_X4_seat_42 ?_
    have e9 : F_seat g p n = fin g 0 := by simp [F_seat, x_b_f, x_b_t, c1]
    rw [e9]
    exact ⟨rfl, MS.fin hR5 hX6 hD3, hF7⟩
  · skip
    obtain ⟨q, hq, rfl⟩ := isP_nat hWF c1
    refine x_iload_n 2 d_X4_seat_8 rfl rfl ?_
    refine x_iconst (x := 0) d_X4_seat_9 (by decide) ?_
    refine x_bipush (x := 60) d_X4_seat_10 (by decide) ?_
    refine x_csip (as := [.int n, .int 0, .int 60]) (c_X4_in l E μ n 0 60) v_X4_in q728 q727 rfl ⟨Nat.le_of_ble_eq_true rfl, Nat.le_of_ble_eq_true rfl⟩ rfl (Nat.le_of_ble_eq_true rfl) d_X4_seat_12 ?_
    refine x_ifb_eq 36 d_X4_seat_15 (by decide) (fun c8 => ?_) (fun c8 => ?_)
    · skip
      refine x_aload_n 0 d_X4_seat_36 rfl rfl ?_
      refine x_ldc q734 d_X4_seat_37 ?_
      refine x_cvi (k := 41) (as := [.int (-1000001)]) (c_X4_finds l E μ (i := 0) hD (by decide) (w := (-1000001)) (by decide)) v_X4_finds w_X4_finds q735 o_M rfl ⟨Nat.le_of_ble_eq_true rfl, Nat.le_of_ble_eq_true rfl⟩ rfl (Nat.le_of_ble_eq_true rfl) d_X4_seat_39 ?_
      rintro _ μ9 ⟨rfl, hD10, hF11⟩
      have hR12 := MR.cg hR (μ' := μ9) (fun id hid => (hF11 _ (by omega)))
      have hX13 := MX.cg hX (μ' := μ9) (fun id hid => (hF11 _ (by omega)))
      have hF14 : ∀ id, id < 41 → μ9 id = μ id := fun id hid => (show μ9 id = μ id from (hF11 _ (by omega))).trans (hF id hid)
      refine x_iret rfl d_X4_seat_42 ?_
      have e9 : F_seat g (nI q) n = fin g 0 := by simp [F_seat, x_b_f, x_b_t, c1, c8, nI_clamp (n := q) (by omega)]
      rw [e9]
      exact ⟨rfl, MS.fin hR12 hX13 hD10, hF14⟩
    · skip
      obtain ⟨h, hh, rfl⟩ := inR_nat (n := 60) (by decide) c8
      refine x_aload_n 0 d_X4_seat_18 rfl rfl ?_
      refine x_bipush (x := 24) d_X4_seat_19 (by decide) ?_
      refine x_iconst (x := 3) d_X4_seat_21 (by decide) ?_
      refine x_iload_n 1 d_X4_seat_22 rfl rfl ?_
      refine x_imul d_X4_seat_23 ?_
      rw [show (3 : Int32) * (nI q) = nI (3 * q) from nI_mulN 3 q]
      refine x_iadd d_X4_seat_24 ?_
      rw [show (24 : Int32) + (nI (3 * q)) = nI (24 + (3 * q)) from nI_add 24 (3 * q)]
      refine x_iconst (x := 1) d_X4_seat_25 (by decide) ?_
      refine x_iadd d_X4_seat_26 ?_
      rw [show (nI (24 + (3 * q))) + (1 : Int32) = nI ((24 + (3 * q)) + 1) from nI_add (24 + (3 * q)) 1]
      refine x_bipush (x := 17) d_X4_seat_27 (by decide) ?_
      refine x_iload_n 2 d_X4_seat_29 rfl rfl ?_
      refine x_cvi (k := 41) (as := [.int (nI ((24 + (3 * q)) + 1)), .int 17, .int (nI h)]) (c_X4_farthestBy l E μ hR hWF (j := ((24 + (3 * q)) + 1)) (N := 17) (h := h) (by omega) (by omega) (by omega) (fun k hk => hWF.upW (p := q) (by omega) (Or.inr ⟨k, by omega, rfl⟩))) v_X4_farthestBy w_X4_farthestBy q906 o_M rfl ⟨Nat.le_of_ble_eq_true rfl, Nat.le_of_ble_eq_true rfl⟩ rfl (Nat.le_of_ble_eq_true rfl) d_X4_seat_30 ?_
      rintro _ μ15 ⟨rfl, hR16, hF17⟩
      have hX18 := MX.cg hX (μ' := μ15) (fun id hid => (hF17 _ (by omega)))
      have hD19 := MD.cg hD (μ' := μ15) (fun id hid => (hF17 _ (by omega)))
      have hF20 : ∀ id, id < 41 → μ15 id = μ id := fun id hid => (show μ15 id = μ id from (hF17 _ (by omega))).trans (hF id hid)
      refine x_goto 42 d_X4_seat_33 (by decide) ?_
      refine x_iret rfl d_X4_seat_42 ?_
      have e9 : F_seat g (nI q) (nI h) = ((bestTo (fun k => hoursF (upd (gA g) (((24 + (3 * q)) + 1)) (nI k)) h 1) 17).1, g) := by simp [F_seat, x_b_f, x_b_t, c1, c8, nI_clamp (n := q) (by omega), nI_clamp (n := h) (by omega)]
      rw [e9]
      exact ⟨rfl, ⟨hR16, hX18, hD19⟩, hF20⟩
def m_X4_person : x_M := (yX4_person, prog_6_method_24_code, 3, (some FieldType.int), 2, 47)
theorem v_X4_person : x_VM m_X4_person 2 := ⟨q777, q6, by decide +kernel, by decide +kernel, by decide +kernel⟩
theorem w_X4_person : x_VI m_X4_person := ⟨q775, q776⟩
theorem d_X4_person_0 : x_dec m_X4_person 0 (.iload_n 1) 1 1 := ⟨by decide +kernel, rfl⟩
theorem d_X4_person_1 : x_dec m_X4_person 1 (.iconst 0) 1 2 := ⟨by decide +kernel, rfl⟩
theorem d_X4_person_2 : x_dec m_X4_person 2 (.bipush 6) 2 4 := ⟨by decide +kernel, rfl⟩
theorem d_X4_person_4 : x_dec m_X4_person 4 (.invokestatic 46) 3 7 := ⟨by decide +kernel, rfl⟩
theorem d_X4_person_7 : x_dec m_X4_person 7 (.ifCond .eq 13) 3 10 := ⟨by decide +kernel, rfl⟩
theorem d_X4_person_10 : x_dec m_X4_person 10 (.iload_n 2) 1 11 := ⟨by decide +kernel, rfl⟩
theorem d_X4_person_11 : x_dec m_X4_person 11 (.iconst (-1)) 1 12 := ⟨by decide +kernel, rfl⟩
theorem d_X4_person_12 : x_dec m_X4_person 12 (.bipush 16) 2 14 := ⟨by decide +kernel, rfl⟩
theorem d_X4_person_14 : x_dec m_X4_person 14 (.invokestatic 46) 3 17 := ⟨by decide +kernel, rfl⟩
theorem d_X4_person_17 : x_dec m_X4_person 17 (.ifCond .ne 10) 3 20 := ⟨by decide +kernel, rfl⟩
theorem d_X4_person_20 : x_dec m_X4_person 20 (.aload_n 0) 1 21 := ⟨by decide +kernel, rfl⟩
theorem d_X4_person_21 : x_dec m_X4_person 21 (.ldc 40) 2 23 := ⟨by decide +kernel, rfl⟩
theorem d_X4_person_23 : x_dec m_X4_person 23 (.invokevirtual 42) 3 26 := ⟨by decide +kernel, rfl⟩
theorem d_X4_person_26 : x_dec m_X4_person 26 (.ireturn) 1 27 := ⟨by decide +kernel, rfl⟩
theorem d_X4_person_27 : x_dec m_X4_person 27 (.aload_n 0) 1 28 := ⟨by decide +kernel, rfl⟩
theorem d_X4_person_28 : x_dec m_X4_person 28 (.getfield 9) 3 31 := ⟨by decide +kernel, rfl⟩
theorem d_X4_person_31 : x_dec m_X4_person 31 (.bipush 7) 2 33 := ⟨by decide +kernel, rfl⟩
theorem d_X4_person_33 : x_dec m_X4_person 33 (.iaload) 1 34 := ⟨by decide +kernel, rfl⟩
theorem d_X4_person_34 : x_dec m_X4_person 34 (.bipush 8) 2 36 := ⟨by decide +kernel, rfl⟩
theorem d_X4_person_36 : x_dec m_X4_person 36 (.if_icmp .ne 12) 3 39 := ⟨by decide +kernel, rfl⟩
theorem d_X4_person_39 : x_dec m_X4_person 39 (.aload_n 0) 1 40 := ⟨by decide +kernel, rfl⟩
theorem d_X4_person_40 : x_dec m_X4_person 40 (.ldc 88) 2 42 := ⟨by decide +kernel, rfl⟩
theorem d_X4_person_42 : x_dec m_X4_person 42 (.invokevirtual 42) 3 45 := ⟨by decide +kernel, rfl⟩
theorem d_X4_person_45 : x_dec m_X4_person 45 (.goto 11) 3 48 := ⟨by decide +kernel, rfl⟩
theorem d_X4_person_48 : x_dec m_X4_person 48 (.aload_n 0) 1 49 := ⟨by decide +kernel, rfl⟩
theorem d_X4_person_49 : x_dec m_X4_person 49 (.iload_n 1) 1 50 := ⟨by decide +kernel, rfl⟩
theorem d_X4_person_50 : x_dec m_X4_person 50 (.iload_n 2) 1 51 := ⟨by decide +kernel, rfl⟩
theorem d_X4_person_51 : x_dec m_X4_person 51 (.bipush 50) 2 53 := ⟨by decide +kernel, rfl⟩
theorem d_X4_person_53 : x_dec m_X4_person 53 (.invokevirtual 89) 3 56 := ⟨by decide +kernel, rfl⟩
theorem d_X4_person_56 : x_dec m_X4_person 56 (.ireturn) 1 57 := ⟨by decide +kernel, rfl⟩
set_option maxHeartbeats 4000000 in
set_option maxRecDepth 100000 in
theorem c_X4_person (l : Launch) (E : x_E) (μ : x_Mem) (g : x_SG) (hS : MS g μ) (hI : Inv g) (k w : Int32) : x_Met l m_X4_person E [.ref (E.1 + 41), .int k, .int w] μ (x_I (fun z m => z = (F_person g k w).1 ∧ MS (F_person g k w).2 m ∧ ∀ id, id < 41 → m id = μ id)) := by
  obtain ⟨hR, hX, hD⟩ := hS
  have hWF := hI.1.1
  have hn7 := hWF.2.1
  have hpn := hWF.1
  have hF : ∀ id, id < 41 → μ id = μ id := fun _ _ => rfl
  refine x_enter (lv := [(0, .ref (E.1 + 41)), (1, .int k), (2, .int w)]) (by decide +kernel) (Nat.le_of_ble_eq_true rfl) rfl ?_
  refine x_iload_n 1 d_X4_person_0 rfl rfl ?_
  refine x_iconst (x := 0) d_X4_person_1 (by decide) ?_
  refine x_bipush (x := 6) d_X4_person_2 (by decide) ?_
  refine x_csip (as := [.int k, .int 0, .int 6]) (c_X4_in l E μ k 0 6) v_X4_in q728 q727 rfl ⟨Nat.le_of_ble_eq_true rfl, Nat.le_of_ble_eq_true rfl⟩ rfl (Nat.le_of_ble_eq_true rfl) d_X4_person_4 ?_
  refine x_ifb_eq 20 d_X4_person_7 (by decide) (fun c1 => ?_) (fun c1 => ?_)
  · skip
    refine x_aload_n 0 d_X4_person_20 rfl rfl ?_
    refine x_ldc q734 d_X4_person_21 ?_
    refine x_cvi (k := 41) (as := [.int (-1000001)]) (c_X4_finds l E μ (i := 0) hD (by decide) (w := (-1000001)) (by decide)) v_X4_finds w_X4_finds q735 o_M rfl ⟨Nat.le_of_ble_eq_true rfl, Nat.le_of_ble_eq_true rfl⟩ rfl (Nat.le_of_ble_eq_true rfl) d_X4_person_23 ?_
    rintro _ μ2 ⟨rfl, hD3, hF4⟩
    have hR5 := MR.cg hR (μ' := μ2) (fun id hid => (hF4 _ (by omega)))
    have hX6 := MX.cg hX (μ' := μ2) (fun id hid => (hF4 _ (by omega)))
    have hF7 : ∀ id, id < 41 → μ2 id = μ id := fun id hid => (show μ2 id = μ id from (hF4 _ (by omega))).trans (hF id hid)
    refine x_iret rfl d_X4_person_26 ?_
    have e9 : F_person g k w = fin g 0 := by simp [F_person, x_b_f, x_b_t, c1]
    rw [e9]
    exact ⟨rfl, MS.fin hR5 hX6 hD3, hF7⟩
  · skip
    refine x_iload_n 2 d_X4_person_10 rfl rfl ?_
    refine x_iconst (x := (-1)) d_X4_person_11 (by decide) ?_
    refine x_bipush (x := 16) d_X4_person_12 (by decide) ?_
    refine x_csip (as := [.int w, .int (-1), .int 16]) (c_X4_in l E μ w (-1) 16) v_X4_in q728 q727 rfl ⟨Nat.le_of_ble_eq_true rfl, Nat.le_of_ble_eq_true rfl⟩ rfl (Nat.le_of_ble_eq_true rfl) d_X4_person_14 ?_
    refine x_ifb_ne 27 d_X4_person_17 (by decide) (fun c8 => ?_) (fun c8 => ?_)
    · skip
      refine x_aload_n 0 d_X4_person_27 rfl rfl ?_
      refine x_getr (j := 0) 42 x_c4 rfl (Nat.le_of_ble_eq_true rfl) q668 rfl d_X4_person_28 ?_
      refine x_bipush (x := 7) d_X4_person_31 (by decide) ?_
      refine x_ialdN (z := nI (pn (gA g))) 58 7 rfl rfl (by omega) (by decide) ((hR 7 (by decide)).trans hn7) d_X4_person_33 ?_
      refine x_bipush (x := 8) d_X4_person_34 (by decide) ?_
      refine x_icmp_ne 48 d_X4_person_36 (by decide) (fun c9 => ?_) (fun c9 => ?_)
      · skip
        refine x_aload_n 0 d_X4_person_48 rfl rfl ?_
        refine x_iload_n 1 d_X4_person_49 rfl rfl ?_
        refine x_iload_n 2 d_X4_person_50 rfl rfl ?_
        refine x_bipush (x := 50) d_X4_person_51 (by decide) ?_
        have hlt : pn (gA g) < 8 := by have z : pn (gA g) ≠ 8 := fun z => c9 (by rw [z]; rfl); omega
        refine x_cvi (k := 41) (as := [.int k, .int w, .int 50]) (c_X4_comes l E μ hR hWF hlt k w 50) v_X4_comes w_X4_comes q779 o_M rfl ⟨Nat.le_of_ble_eq_true rfl, Nat.le_of_ble_eq_true rfl⟩ rfl (Nat.le_of_ble_eq_true rfl) d_X4_person_53 ?_
        rintro _ μ10 ⟨rfl, hR11, hF12⟩
        have hX13 := MX.cg hX (μ' := μ10) (fun id hid => (hF12 _ (by omega)))
        have hD14 := MD.cg hD (μ' := μ10) (fun id hid => (hF12 _ (by omega)))
        have hF15 : ∀ id, id < 41 → μ10 id = μ id := fun id hid => (show μ10 id = μ id from (hF12 _ (by omega))).trans (hF id hid)
        refine x_iret rfl d_X4_person_56 ?_
        have e9 : F_person g k w = (nI (pn (gA g)), sA g (comeF (gA g) k w 50)) := by simp [F_person, x_b_f, x_b_t, c1, c8, hlt]
        rw [e9]
        exact ⟨rfl, MS.line hR11 hX13 hD14, hF15⟩
      · skip
        refine x_aload_n 0 d_X4_person_39 rfl rfl ?_
        refine x_ldc q778 d_X4_person_40 ?_
        refine x_cvi (k := 41) (as := [.int (-1000002)]) (c_X4_finds l E μ (i := 1) hD (by decide) (w := (-1000002)) (by decide)) v_X4_finds w_X4_finds q735 o_M rfl ⟨Nat.le_of_ble_eq_true rfl, Nat.le_of_ble_eq_true rfl⟩ rfl (Nat.le_of_ble_eq_true rfl) d_X4_person_42 ?_
        rintro _ μ16 ⟨rfl, hD17, hF18⟩
        have hR19 := MR.cg hR (μ' := μ16) (fun id hid => (hF18 _ (by omega)))
        have hX20 := MX.cg hX (μ' := μ16) (fun id hid => (hF18 _ (by omega)))
        have hF21 : ∀ id, id < 41 → μ16 id = μ id := fun id hid => (show μ16 id = μ id from (hF18 _ (by omega))).trans (hF id hid)
        refine x_goto 56 d_X4_person_45 (by decide) ?_
        refine x_iret rfl d_X4_person_56 ?_
        have e8 := (nI_eq (by omega) (by omega)).mp (show nI (pn (gA g)) = nI 8 from c9)
        have e9 : F_person g k w = fin g 1 := by simp [F_person, x_b_f, x_b_t, c1, c8, show ¬ pn (gA g) < 8 by omega]
        rw [e9]
        exact ⟨rfl, MS.fin hR19 hX20 hD17, hF21⟩
    · skip
      refine x_aload_n 0 d_X4_person_20 rfl rfl ?_
      refine x_ldc q734 d_X4_person_21 ?_
      refine x_cvi (k := 41) (as := [.int (-1000001)]) (c_X4_finds l E μ (i := 0) hD (by decide) (w := (-1000001)) (by decide)) v_X4_finds w_X4_finds q735 o_M rfl ⟨Nat.le_of_ble_eq_true rfl, Nat.le_of_ble_eq_true rfl⟩ rfl (Nat.le_of_ble_eq_true rfl) d_X4_person_23 ?_
      rintro _ μ22 ⟨rfl, hD23, hF24⟩
      have hR25 := MR.cg hR (μ' := μ22) (fun id hid => (hF24 _ (by omega)))
      have hX26 := MX.cg hX (μ' := μ22) (fun id hid => (hF24 _ (by omega)))
      have hF27 : ∀ id, id < 41 → μ22 id = μ id := fun id hid => (show μ22 id = μ id from (hF24 _ (by omega))).trans (hF id hid)
      refine x_iret rfl d_X4_person_26 ?_
      have e9 : F_person g k w = fin g 0 := by simp [F_person, x_b_f, x_b_t, c1, c8]
      rw [e9]
      exact ⟨rfl, MS.fin hR25 hX26 hD23, hF27⟩
