def m_X4_notThere : x_M := (yX4_notThere, prog_6_method_61_code, 2, (some FieldType.int), 2, 42)
theorem v_X4_notThere : x_VM m_X4_notThere 1 := ⟨q960, q6, by decide +kernel, by decide +kernel, by decide +kernel⟩
theorem w_X4_notThere : x_VI m_X4_notThere := ⟨q959, qs47⟩
theorem d_X4_notThere_0 : x_dec m_X4_notThere 0 (.iload_n 1) 1 1 := ⟨by decide +kernel, rfl⟩
theorem d_X4_notThere_1 : x_dec m_X4_notThere 1 (.invokestatic 158) 3 4 := ⟨by decide +kernel, rfl⟩
theorem d_X4_notThere_4 : x_dec m_X4_notThere 4 (.ifCond .ne 8) 3 7 := ⟨by decide +kernel, rfl⟩
theorem d_X4_notThere_7 : x_dec m_X4_notThere 7 (.ldc 40) 2 9 := ⟨by decide +kernel, rfl⟩
theorem d_X4_notThere_9 : x_dec m_X4_notThere 9 (.goto 18) 3 12 := ⟨by decide +kernel, rfl⟩
theorem d_X4_notThere_12 : x_dec m_X4_notThere 12 (.aload_n 0) 1 13 := ⟨by decide +kernel, rfl⟩
theorem d_X4_notThere_13 : x_dec m_X4_notThere 13 (.getfield 28) 3 16 := ⟨by decide +kernel, rfl⟩
theorem d_X4_notThere_16 : x_dec m_X4_notThere 16 (.iload_n 1) 1 17 := ⟨by decide +kernel, rfl⟩
theorem d_X4_notThere_17 : x_dec m_X4_notThere 17 (.iaload) 1 18 := ⟨by decide +kernel, rfl⟩
theorem d_X4_notThere_18 : x_dec m_X4_notThere 18 (.ifCond .ne 8) 3 21 := ⟨by decide +kernel, rfl⟩
theorem d_X4_notThere_21 : x_dec m_X4_notThere 21 (.ldc 161) 2 23 := ⟨by decide +kernel, rfl⟩
theorem d_X4_notThere_23 : x_dec m_X4_notThere 23 (.goto 4) 3 26 := ⟨by decide +kernel, rfl⟩
theorem d_X4_notThere_26 : x_dec m_X4_notThere 26 (.iconst 0) 1 27 := ⟨by decide +kernel, rfl⟩
theorem d_X4_notThere_27 : x_dec m_X4_notThere 27 (.ireturn) 1 28 := ⟨by decide +kernel, rfl⟩
set_option maxHeartbeats 4000000 in
set_option maxRecDepth 100000 in
theorem c_X4_notThere (l : Launch) (E : x_E) (μ : x_Mem) {g : x_SG} (hX : MX g μ) (s : Int32) : x_Met l m_X4_notThere E [.ref (E.1 + 41), .int s] μ (x_I (fun z m => z = whyF g s ∧ m = μ)) := by
  refine x_enter (lv := [(0, .ref (E.1 + 41)), (1, .int s)]) (by decide +kernel) (Nat.le_of_ble_eq_true rfl) rfl ?_
  refine x_iload_n 1 d_X4_notThere_0 rfl rfl ?_
  refine x_csip (as := [.int s]) (c_X4_isSheet l E μ s) v_X4_isSheet q962 q961 rfl ⟨Nat.le_of_ble_eq_true rfl, Nat.le_of_ble_eq_true rfl⟩ rfl (Nat.le_of_ble_eq_true rfl) d_X4_notThere_1 ?_
  refine x_ifb_ne 12 d_X4_notThere_4 (by decide) (fun c1 => ?_) (fun c1 => ?_)
  · skip
    obtain ⟨y, hy, rfl⟩ := inR_nat (n := 3) (by decide) c1
    refine x_aload_n 0 d_X4_notThere_12 rfl rfl ?_
    refine x_getr (j := 7) 48 x_c4 rfl (Nat.le_of_ble_eq_true rfl) q675 rfl d_X4_notThere_13 ?_
    refine x_iload_n 1 d_X4_notThere_16 rfl rfl ?_
    refine x_ialdN (z := gSb g y) 4 y rfl rfl (by omega) (by decide) (hX.2.2.2.2.1 y (by omega)) d_X4_notThere_17 ?_
    refine x_if_ne 26 d_X4_notThere_18 (by decide) (fun c2 => ?_) (fun c2 => ?_)
    · skip
      refine x_iconst (x := 0) d_X4_notThere_26 (by decide) ?_
      refine x_iret rfl d_X4_notThere_27 ?_
      exact ⟨by unfold whyF isSh; simp [c1, c2, nI_clamp (n := y) (by omega)], rfl⟩
    · skip
      refine x_ldc q964 d_X4_notThere_21 ?_
      refine x_goto 27 d_X4_notThere_23 (by decide) ?_
      refine x_iret rfl d_X4_notThere_27 ?_
      exact ⟨by unfold whyF isSh; simp [c1, c2, nI_clamp (n := y) (by omega)], rfl⟩
  · skip
    refine x_ldc q734 d_X4_notThere_7 ?_
    refine x_goto 27 d_X4_notThere_9 (by decide) ?_
    refine x_iret rfl d_X4_notThere_27 ?_
    exact ⟨by unfold whyF isSh; simp [c1], rfl⟩
def m_X4_notAsked : x_M := (yX4_notAsked, prog_6_method_63_code, 4, (some FieldType.int), 3, 63)
theorem v_X4_notAsked : x_VM m_X4_notAsked 2 := ⟨q956, q6, by decide +kernel, by decide +kernel, by decide +kernel⟩
theorem w_X4_notAsked : x_VI m_X4_notAsked := ⟨q955, qs46⟩
theorem d_X4_notAsked_0 : x_dec m_X4_notAsked 0 (.aload_n 0) 1 1 := ⟨by decide +kernel, rfl⟩
theorem d_X4_notAsked_1 : x_dec m_X4_notAsked 1 (.iload_n 1) 1 2 := ⟨by decide +kernel, rfl⟩
theorem d_X4_notAsked_2 : x_dec m_X4_notAsked 2 (.invokevirtual 162) 3 5 := ⟨by decide +kernel, rfl⟩
theorem d_X4_notAsked_5 : x_dec m_X4_notAsked 5 (.istore_n 3) 1 6 := ⟨by decide +kernel, rfl⟩
theorem d_X4_notAsked_6 : x_dec m_X4_notAsked 6 (.iload_n 3) 1 7 := ⟨by decide +kernel, rfl⟩
theorem d_X4_notAsked_7 : x_dec m_X4_notAsked 7 (.ifCond .ne 16) 3 10 := ⟨by decide +kernel, rfl⟩
theorem d_X4_notAsked_10 : x_dec m_X4_notAsked 10 (.aload_n 0) 1 11 := ⟨by decide +kernel, rfl⟩
theorem d_X4_notAsked_11 : x_dec m_X4_notAsked 11 (.iload_n 2) 1 12 := ⟨by decide +kernel, rfl⟩
theorem d_X4_notAsked_12 : x_dec m_X4_notAsked 12 (.invokevirtual 92) 3 15 := ⟨by decide +kernel, rfl⟩
theorem d_X4_notAsked_15 : x_dec m_X4_notAsked 15 (.ifCond .ne 8) 3 18 := ⟨by decide +kernel, rfl⟩
theorem d_X4_notAsked_18 : x_dec m_X4_notAsked 18 (.ldc 40) 2 20 := ⟨by decide +kernel, rfl⟩
theorem d_X4_notAsked_20 : x_dec m_X4_notAsked 20 (.goto 4) 3 23 := ⟨by decide +kernel, rfl⟩
theorem d_X4_notAsked_23 : x_dec m_X4_notAsked 23 (.iload_n 3) 1 24 := ⟨by decide +kernel, rfl⟩
theorem d_X4_notAsked_24 : x_dec m_X4_notAsked 24 (.ireturn) 1 25 := ⟨by decide +kernel, rfl⟩
set_option maxHeartbeats 4000000 in
set_option maxRecDepth 100000 in
theorem c_X4_notAsked (l : Launch) (E : x_E) (μ : x_Mem) {g : x_SG} (hR : MR (gA g) μ) (hI : WF (gA g)) (hX : MX g μ) (s p : Int32) : x_Met l m_X4_notAsked E [.ref (E.1 + 41), .int s, .int p] μ (x_I (fun z m => z = askF g s p ∧ m = μ)) := by
  refine x_enter (lv := [(0, .ref (E.1 + 41)), (1, .int s), (2, .int p)]) (by decide +kernel) (Nat.le_of_ble_eq_true rfl) rfl ?_
  refine x_aload_n 0 d_X4_notAsked_0 rfl rfl ?_
  refine x_iload_n 1 d_X4_notAsked_1 rfl rfl ?_
  refine x_cvip (k := 41) (as := [.int s]) (c_X4_notThere l E μ hX s) v_X4_notThere w_X4_notThere q957 o_M rfl ⟨Nat.le_of_ble_eq_true rfl, Nat.le_of_ble_eq_true rfl⟩ rfl (Nat.le_of_ble_eq_true rfl) d_X4_notAsked_2 ?_
  rcases why_cases g s with ⟨ksh, ewy⟩ | ⟨y, hy, rfl, ksh, kbt, ewy⟩ | ⟨y, hy, rfl, ksh, kbt, ewy⟩
  · rw [ewy]
    refine x_istore_n [(3, .int (-1000001)), (0, .ref (E.1 + 41)), (1, .int s), (2, .int p)] d_X4_notAsked_5 rfl (Nat.le_of_ble_eq_true rfl) rfl ?_
    refine x_iload_n 0 d_X4_notAsked_6 rfl rfl ?_
    refine x_if_ne 23 d_X4_notAsked_7 (by decide) (fun c1 => ?_) (fun c1 => ?_)
    rotate_left
    · exact absurd c1 (by decide)
    refine x_iload_n 0 d_X4_notAsked_23 rfl rfl ?_
    refine x_iret rfl d_X4_notAsked_24 ?_
    exact ⟨by unfold askF; rw [ewy]; simp [], rfl⟩
  · rw [ewy]
    refine x_istore_n [(3, .int (-1000006)), (0, .ref (E.1 + 41)), (1, .int (nI y)), (2, .int p)] d_X4_notAsked_5 rfl (Nat.le_of_ble_eq_true rfl) rfl ?_
    refine x_iload_n 0 d_X4_notAsked_6 rfl rfl ?_
    refine x_if_ne 23 d_X4_notAsked_7 (by decide) (fun c2 => ?_) (fun c2 => ?_)
    rotate_left
    · exact absurd c2 (by decide)
    refine x_iload_n 0 d_X4_notAsked_23 rfl rfl ?_
    refine x_iret rfl d_X4_notAsked_24 ?_
    exact ⟨by unfold askF; rw [ewy]; simp [], rfl⟩
  · rw [ewy]
    refine x_istore_n [(3, .int 0), (0, .ref (E.1 + 41)), (1, .int (nI y)), (2, .int p)] d_X4_notAsked_5 rfl (Nat.le_of_ble_eq_true rfl) rfl ?_
    refine x_iload_n 0 d_X4_notAsked_6 rfl rfl ?_
    refine x_if_ne 23 d_X4_notAsked_7 (by decide) (fun c3 => ?_) (fun c3 => ?_)
    · exact absurd c3 (by decide)
    refine x_aload_n 1 d_X4_notAsked_10 rfl rfl ?_
    refine x_iload_n 3 d_X4_notAsked_11 rfl rfl ?_
    refine x_cvip (k := 41) (as := [.int p]) (c_X4_isOne l E μ hR hI p) v_X4_isOne w_X4_isOne q791 o_M rfl ⟨Nat.le_of_ble_eq_true rfl, Nat.le_of_ble_eq_true rfl⟩ rfl (Nat.le_of_ble_eq_true rfl) d_X4_notAsked_12 ?_
    refine x_ifb_ne 23 d_X4_notAsked_15 (by decide) (fun c4 => ?_) (fun c4 => ?_)
    · skip
      refine x_iload_n 0 d_X4_notAsked_23 rfl rfl ?_
      refine x_iret rfl d_X4_notAsked_24 ?_
      exact ⟨by unfold askF; rw [ewy]; simp [c4], rfl⟩
    · skip
      refine x_ldc q734 d_X4_notAsked_18 ?_
      refine x_goto 24 d_X4_notAsked_20 (by decide) ?_
      refine x_iret rfl d_X4_notAsked_24 ?_
      exact ⟨by unfold askF; rw [ewy]; simp [c4], rfl⟩
def m_X4_wrongIn : x_M := (yX4_wrongIn, prog_6_method_62_code, 6, (some FieldType.int), 8, 179)
theorem v_X4_wrongIn : x_VM m_X4_wrongIn 2 := ⟨q968, q6, by decide +kernel, by decide +kernel, by decide +kernel⟩
theorem w_X4_wrongIn : x_VI m_X4_wrongIn := ⟨q967, qs48⟩
theorem d_X4_wrongIn_0 : x_dec m_X4_wrongIn 0 (.iconst (-1)) 1 1 := ⟨by decide +kernel, rfl⟩
theorem d_X4_wrongIn_1 : x_dec m_X4_wrongIn 1 (.istore_n 3) 1 2 := ⟨by decide +kernel, rfl⟩
theorem d_X4_wrongIn_2 : x_dec m_X4_wrongIn 2 (.iconst 0) 1 3 := ⟨by decide +kernel, rfl⟩
theorem d_X4_wrongIn_3 : x_dec m_X4_wrongIn 3 (.istore 4) 2 5 := ⟨by decide +kernel, rfl⟩
theorem d_X4_wrongIn_5 : x_dec m_X4_wrongIn 5 (.iload 4) 2 7 := ⟨by decide +kernel, rfl⟩
theorem d_X4_wrongIn_7 : x_dec m_X4_wrongIn 7 (.aload_n 0) 1 8 := ⟨by decide +kernel, rfl⟩
theorem d_X4_wrongIn_8 : x_dec m_X4_wrongIn 8 (.getfield 31) 3 11 := ⟨by decide +kernel, rfl⟩
theorem d_X4_wrongIn_11 : x_dec m_X4_wrongIn 11 (.iload_n 1) 1 12 := ⟨by decide +kernel, rfl⟩
theorem d_X4_wrongIn_12 : x_dec m_X4_wrongIn 12 (.iaload) 1 13 := ⟨by decide +kernel, rfl⟩
theorem d_X4_wrongIn_13 : x_dec m_X4_wrongIn 13 (.if_icmp .ge 59) 3 16 := ⟨by decide +kernel, rfl⟩
theorem d_X4_wrongIn_16 : x_dec m_X4_wrongIn 16 (.iload_n 3) 1 17 := ⟨by decide +kernel, rfl⟩
theorem d_X4_wrongIn_17 : x_dec m_X4_wrongIn 17 (.ifCond .ge 55) 3 20 := ⟨by decide +kernel, rfl⟩
theorem d_X4_wrongIn_20 : x_dec m_X4_wrongIn 20 (.aload_n 0) 1 21 := ⟨by decide +kernel, rfl⟩
theorem d_X4_wrongIn_21 : x_dec m_X4_wrongIn 21 (.getfield 34) 3 24 := ⟨by decide +kernel, rfl⟩
theorem d_X4_wrongIn_24 : x_dec m_X4_wrongIn 24 (.bipush 40) 2 26 := ⟨by decide +kernel, rfl⟩
theorem d_X4_wrongIn_26 : x_dec m_X4_wrongIn 26 (.iload_n 1) 1 27 := ⟨by decide +kernel, rfl⟩
theorem d_X4_wrongIn_27 : x_dec m_X4_wrongIn 27 (.imul) 1 28 := ⟨by decide +kernel, rfl⟩
theorem d_X4_wrongIn_28 : x_dec m_X4_wrongIn 28 (.iload 4) 2 30 := ⟨by decide +kernel, rfl⟩
theorem d_X4_wrongIn_30 : x_dec m_X4_wrongIn 30 (.iadd) 1 31 := ⟨by decide +kernel, rfl⟩
theorem d_X4_wrongIn_31 : x_dec m_X4_wrongIn 31 (.iaload) 1 32 := ⟨by decide +kernel, rfl⟩
theorem d_X4_wrongIn_32 : x_dec m_X4_wrongIn 32 (.istore 5) 2 34 := ⟨by decide +kernel, rfl⟩
theorem d_X4_wrongIn_34 : x_dec m_X4_wrongIn 34 (.iload 5) 2 36 := ⟨by decide +kernel, rfl⟩
theorem d_X4_wrongIn_36 : x_dec m_X4_wrongIn 36 (.aload_n 0) 1 37 := ⟨by decide +kernel, rfl⟩
theorem d_X4_wrongIn_37 : x_dec m_X4_wrongIn 37 (.getfield 9) 3 40 := ⟨by decide +kernel, rfl⟩
theorem d_X4_wrongIn_40 : x_dec m_X4_wrongIn 40 (.iconst 1) 1 41 := ⟨by decide +kernel, rfl⟩
theorem d_X4_wrongIn_41 : x_dec m_X4_wrongIn 41 (.iaload) 1 42 := ⟨by decide +kernel, rfl⟩
theorem d_X4_wrongIn_42 : x_dec m_X4_wrongIn 42 (.if_icmp .eq 13) 3 45 := ⟨by decide +kernel, rfl⟩
theorem d_X4_wrongIn_45 : x_dec m_X4_wrongIn 45 (.iload_n 2) 1 46 := ⟨by decide +kernel, rfl⟩
theorem d_X4_wrongIn_46 : x_dec m_X4_wrongIn 46 (.ifCond .eq 13) 3 49 := ⟨by decide +kernel, rfl⟩
theorem d_X4_wrongIn_49 : x_dec m_X4_wrongIn 49 (.iload 5) 2 51 := ⟨by decide +kernel, rfl⟩
theorem d_X4_wrongIn_51 : x_dec m_X4_wrongIn 51 (.iconst (-1)) 1 52 := ⟨by decide +kernel, rfl⟩
theorem d_X4_wrongIn_52 : x_dec m_X4_wrongIn 52 (.if_icmp .ne 7) 3 55 := ⟨by decide +kernel, rfl⟩
theorem d_X4_wrongIn_55 : x_dec m_X4_wrongIn 55 (.iconst (-1)) 1 56 := ⟨by decide +kernel, rfl⟩
theorem d_X4_wrongIn_56 : x_dec m_X4_wrongIn 56 (.goto 5) 3 59 := ⟨by decide +kernel, rfl⟩
theorem d_X4_wrongIn_59 : x_dec m_X4_wrongIn 59 (.iload 4) 2 61 := ⟨by decide +kernel, rfl⟩
theorem d_X4_wrongIn_61 : x_dec m_X4_wrongIn 61 (.istore_n 3) 1 62 := ⟨by decide +kernel, rfl⟩
theorem d_X4_wrongIn_62 : x_dec m_X4_wrongIn 62 (.aload_n 0) 1 63 := ⟨by decide +kernel, rfl⟩
theorem d_X4_wrongIn_63 : x_dec m_X4_wrongIn 63 (.invokevirtual 110) 3 66 := ⟨by decide +kernel, rfl⟩
theorem d_X4_wrongIn_66 : x_dec m_X4_wrongIn 66 (.iinc 4 1) 3 69 := ⟨by decide +kernel, rfl⟩
theorem d_X4_wrongIn_69 : x_dec m_X4_wrongIn 69 (.goto (-64)) 3 72 := ⟨by decide +kernel, rfl⟩
theorem d_X4_wrongIn_72 : x_dec m_X4_wrongIn 72 (.aload_n 0) 1 73 := ⟨by decide +kernel, rfl⟩
theorem d_X4_wrongIn_73 : x_dec m_X4_wrongIn 73 (.invokevirtual 131) 3 76 := ⟨by decide +kernel, rfl⟩
theorem d_X4_wrongIn_76 : x_dec m_X4_wrongIn 76 (.iload_n 3) 1 77 := ⟨by decide +kernel, rfl⟩
theorem d_X4_wrongIn_77 : x_dec m_X4_wrongIn 77 (.ireturn) 1 78 := ⟨by decide +kernel, rfl⟩
set_option maxHeartbeats 4000000 in
set_option maxRecDepth 100000 in
theorem c_X4_wrongIn (l : Launch) (E : x_E) (μ : x_Mem) {g : x_SG} {a : x_St} (hR : MR a μ) (hI : WF a) (hX : MX g μ) {b : x_St} (hW : MW b μ) {y : Nat} (hy : y < 4) (hz : gSz g y ≤ 40) (any : Bool) : x_Met l m_X4_wrongIn E [.ref (E.1 + 41), .int (nI y), .int (x_b any)] μ (x_I (fun z m => z = wrongF a (gSn g y) any (gSz g y) ∧ MR b m ∧ MW b m ∧ ∀ id, (id ≠ 42 ∧ id ≠ 46) → m id = μ id)) := by
  have hn7 := hI.2.1
  have hpn := hI.1
  have hF : ∀ id, (id ≠ 42 ∧ id ≠ 46) → μ id = μ id := fun _ _ => rfl
  refine x_enter (lv := [(0, .ref (E.1 + 41)), (1, .int (nI y)), (2, .int (x_b any))]) (by decide +kernel) (Nat.le_of_ble_eq_true rfl) rfl ?_
  refine x_iconst (x := (-1)) d_X4_wrongIn_0 (by decide) ?_
  refine x_istore_n [(3, .int (-1)), (0, .ref (E.1 + 41)), (1, .int (nI y)), (2, .int (x_b any))] d_X4_wrongIn_1 rfl (Nat.le_of_ble_eq_true rfl) rfl ?_
  refine x_iconst (x := 0) d_X4_wrongIn_2 (by decide) ?_
  refine x_istore [(4, .int 0), (3, .int (-1)), (0, .ref (E.1 + 41)), (1, .int (nI y)), (2, .int (x_b any))] d_X4_wrongIn_3 (Nat.le_of_ble_eq_true rfl) rfl ?_
  have L1 : ∀ k : Nat, k ≤ gSz g y → ∀ v : Int32, ∀ μ4 : x_Mem, (MR (hoursF a k) μ4) → (MW b μ4) → (MX g μ4) → (wrS a (gSn g y) any (gSz g y) k v) → (∀ id, (id ≠ 42 ∧ id ≠ 46) → μ4 id = μ id) → x_G l E m_X4_wrongIn (x_mv E m_X4_wrongIn (x_I (fun z m => z = wrongF a (gSn g y) any (gSz g y) ∧ MR b m ∧ MW b m ∧ ∀ id, (id ≠ 42 ∧ id ≠ 46) → m id = μ id))) μ4 5 [(4, .int (nI k)), (3, .int v), (0, .ref (E.1 + 41)), (1, .int (nI y)), (2, .int (x_b any))] [] := by
    refine x_down _ (gSz g y) (fun k hi3 ih2 => ?_)
    intro v μ4 hR1 hW1 hX1 hqw hF1
    refine x_iload 0 d_X4_wrongIn_5 rfl ?_
    refine x_aload_n 2 d_X4_wrongIn_7 rfl rfl ?_
    refine x_getr (j := 8) 49 x_c4 rfl (Nat.le_of_ble_eq_true rfl) q676 rfl d_X4_wrongIn_8 ?_
    refine x_iload_n 3 d_X4_wrongIn_11 rfl rfl ?_
    refine x_ialdN (z := nI (gSz g y)) 4 y rfl rfl (by omega) (by decide) (hX1.2.2.2.2.2.1 y (by omega)) d_X4_wrongIn_12 ?_
    refine x_icmp_ge 72 d_X4_wrongIn_13 (by decide) (fun c5 => ?_) (fun c5 => ?_)
    · skip
      have hN := x_ge (N := gSz g y) c5 rfl rfl (by omega) (by omega)
      refine x_aload_n 2 d_X4_wrongIn_72 rfl rfl ?_
      refine x_cvv (k := 41) (as := []) (c_X4_putsBack l E μ4 hW1) v_X4_putsBack w_X4_putsBack q870 o_M rfl ⟨Nat.le_of_ble_eq_true rfl, Nat.le_of_ble_eq_true rfl⟩ rfl (Nat.le_of_ble_eq_true rfl) d_X4_wrongIn_73 ?_
      rintro μ6 ⟨hR7, hF8⟩
      have hW9 := MW.cg hW1 (μ' := μ6) (fun id hid => (hF8 _ (by omega)))
      have hF10 : ∀ id, (id ≠ 42 ∧ id ≠ 46) → μ6 id = μ id := fun id hid => (show μ6 id = μ4 id from (hF8 _ (by omega))).trans (hF1 id hid)
      have hX11 := MX.cg hX1 (μ' := μ6) (fun id hid => (hF8 _ (by omega)))
      refine x_iload_n 1 d_X4_wrongIn_76 rfl rfl ?_
      refine x_iret rfl d_X4_wrongIn_77 ?_
      exact ⟨wr_end hz hi3 hqw (Or.inl hN), hR7, hW9, hF10⟩
    · skip
      have hN := x_lt (N := gSz g y) c5 rfl rfl (by omega) (by omega)
      refine x_iload_n 1 d_X4_wrongIn_16 rfl rfl ?_
      refine x_if_ge 72 d_X4_wrongIn_17 (by decide) (fun c12 => ?_) (fun c12 => ?_)
      · skip
        refine x_aload_n 2 d_X4_wrongIn_72 rfl rfl ?_
        refine x_cvv (k := 41) (as := []) (c_X4_putsBack l E μ4 hW1) v_X4_putsBack w_X4_putsBack q870 o_M rfl ⟨Nat.le_of_ble_eq_true rfl, Nat.le_of_ble_eq_true rfl⟩ rfl (Nat.le_of_ble_eq_true rfl) d_X4_wrongIn_73 ?_
        rintro μ13 ⟨hR14, hF15⟩
        have hW16 := MW.cg hW1 (μ' := μ13) (fun id hid => (hF15 _ (by omega)))
        have hF17 : ∀ id, (id ≠ 42 ∧ id ≠ 46) → μ13 id = μ id := fun id hid => (show μ13 id = μ4 id from (hF15 _ (by omega))).trans (hF1 id hid)
        have hX18 := MX.cg hX1 (μ' := μ13) (fun id hid => (hF15 _ (by omega)))
        refine x_iload_n 1 d_X4_wrongIn_76 rfl rfl ?_
        refine x_iret rfl d_X4_wrongIn_77 ?_
        exact ⟨wr_end hz hi3 hqw (Or.inr c12), hR14, hW16, hF17⟩
      · skip
        obtain ⟨hv1, hqa⟩ := wr_in hqw hz c12
        refine x_aload_n 2 d_X4_wrongIn_20 rfl rfl ?_
        refine x_getr (j := 9) 50 x_c4 rfl (Nat.le_of_ble_eq_true rfl) q677 rfl d_X4_wrongIn_21 ?_
        refine x_bipush (x := 40) d_X4_wrongIn_24 (by decide) ?_
        refine x_iload_n 3 d_X4_wrongIn_26 rfl rfl ?_
        refine x_imul d_X4_wrongIn_27 ?_
        rw [show (40 : Int32) * (nI y) = nI (40 * y) from nI_mulN 40 y]
        refine x_iload 0 d_X4_wrongIn_28 rfl ?_
        refine x_iadd d_X4_wrongIn_30 ?_
        rw [show (nI (40 * y)) + (nI k) = nI ((40 * y) + k) from nI_add (40 * y) k]
        refine x_ialdN (z := gSn g y k) 160 ((40 * y) + k) rfl rfl (by omega) (by decide) (hX1.2.2.2.2.2.2 y (by omega) k (by omega)) d_X4_wrongIn_31 ?_
        refine x_istore [(5, .int (gSn g y k)), (4, .int (nI k)), (3, .int v), (0, .ref (E.1 + 41)), (1, .int (nI y)), (2, .int (x_b any))] d_X4_wrongIn_32 (Nat.le_of_ble_eq_true rfl) rfl ?_
        refine x_iload 0 d_X4_wrongIn_34 rfl ?_
        refine x_aload_n 3 d_X4_wrongIn_36 rfl rfl ?_
        refine x_getr (j := 0) 42 x_c4 rfl (Nat.le_of_ble_eq_true rfl) q668 rfl d_X4_wrongIn_37 ?_
        refine x_iconst (x := 1) d_X4_wrongIn_40 (by decide) ?_
        refine x_ialdN (z := (hoursF a k) 1) 58 1 rfl rfl (by omega) (by decide) (hR1 1 (by omega)) d_X4_wrongIn_41 ?_
        refine x_icmp_eq 55 d_X4_wrongIn_42 (by decide) (fun c19 => ?_) (fun c19 => ?_)
        · skip
          refine x_iconst (x := (-1)) d_X4_wrongIn_55 (by decide) ?_
          refine x_goto 61 d_X4_wrongIn_56 (by decide) ?_
          refine x_istore_n [(3, .int (-1)), (5, .int (gSn g y k)), (4, .int (nI k)), (0, .ref (E.1 + 41)), (1, .int (nI y)), (2, .int (x_b any))] d_X4_wrongIn_61 rfl (Nat.le_of_ble_eq_true rfl) rfl ?_
          refine x_aload_n 3 d_X4_wrongIn_62 rfl rfl ?_
          refine x_cvv (k := 41) (as := []) (c_X4_hour l E μ4 hR1 (hI.hours k)) v_X4_hour w_X4_hour q823 o_M rfl ⟨Nat.le_of_ble_eq_true rfl, Nat.le_of_ble_eq_true rfl⟩ rfl (Nat.le_of_ble_eq_true rfl) d_X4_wrongIn_63 ?_
          rintro μ20 ⟨hR21, hF22⟩
          have hW23 := MW.cg hW1 (μ' := μ20) (fun id hid => (hF22 _ (by omega)))
          have hF24 : ∀ id, (id ≠ 42 ∧ id ≠ 46) → μ20 id = μ id := fun id hid => (show μ20 id = μ4 id from (hF22 _ (by omega))).trans (hF1 id hid)
          have hX25 := MX.cg hX1 (μ' := μ20) (fun id hid => (hF22 _ (by omega)))
          refine x_iinc [(4, .int (nI (k + 1))), (3, .int (-1)), (5, .int (gSn g y k)), (0, .ref (E.1 + 41)), (1, .int (nI y)), (2, .int (x_b any))] 2 d_X4_wrongIn_66 rfl (x_inc _) (Nat.le_of_ble_eq_true rfl) rfl ?_
          refine x_goto 5 d_X4_wrongIn_69 (by decide) ?_
          refine x_lv [0, 1, 3, 4, 5] rfl ?_
          exact ih2 (k + 1) (by omega) (by omega) (-1) μ20 hR21 hW23 hX25 (wr_t hqa (fw_1 c19)) hF24
        · skip
          refine x_iload_n 5 d_X4_wrongIn_45 rfl rfl ?_
          refine x_ifb_eq 59 d_X4_wrongIn_46 (by decide) (fun c26 => ?_) (fun c26 => ?_)
          · skip
            refine x_iload 1 d_X4_wrongIn_59 rfl ?_
            refine x_istore_n [(3, .int (nI k)), (5, .int (gSn g y k)), (4, .int (nI k)), (0, .ref (E.1 + 41)), (1, .int (nI y)), (2, .int (x_b any))] d_X4_wrongIn_61 rfl (Nat.le_of_ble_eq_true rfl) rfl ?_
            refine x_aload_n 3 d_X4_wrongIn_62 rfl rfl ?_
            refine x_cvv (k := 41) (as := []) (c_X4_hour l E μ4 hR1 (hI.hours k)) v_X4_hour w_X4_hour q823 o_M rfl ⟨Nat.le_of_ble_eq_true rfl, Nat.le_of_ble_eq_true rfl⟩ rfl (Nat.le_of_ble_eq_true rfl) d_X4_wrongIn_63 ?_
            rintro μ27 ⟨hR28, hF29⟩
            have hW30 := MW.cg hW1 (μ' := μ27) (fun id hid => (hF29 _ (by omega)))
            have hF31 : ∀ id, (id ≠ 42 ∧ id ≠ 46) → μ27 id = μ id := fun id hid => (show μ27 id = μ4 id from (hF29 _ (by omega))).trans (hF1 id hid)
            have hX32 := MX.cg hX1 (μ' := μ27) (fun id hid => (hF29 _ (by omega)))
            refine x_iinc [(4, .int (nI (k + 1))), (3, .int (nI k)), (5, .int (gSn g y k)), (0, .ref (E.1 + 41)), (1, .int (nI y)), (2, .int (x_b any))] 2 d_X4_wrongIn_66 rfl (x_inc _) (Nat.le_of_ble_eq_true rfl) rfl ?_
            refine x_goto 5 d_X4_wrongIn_69 (by decide) ?_
            refine x_lv [0, 1, 3, 4, 5] rfl ?_
            exact ih2 (k + 1) (by omega) (by omega) (nI k) μ27 hR28 hW30 hX32 (wr_f hN hqa (fw_3 c19 c26)) hF31
          · skip
            refine x_iload 0 d_X4_wrongIn_49 rfl ?_
            refine x_iconst (x := (-1)) d_X4_wrongIn_51 (by decide) ?_
            refine x_icmp_ne 59 d_X4_wrongIn_52 (by decide) (fun c33 => ?_) (fun c33 => ?_)
            · skip
              refine x_iload 1 d_X4_wrongIn_59 rfl ?_
              refine x_istore_n [(3, .int (nI k)), (5, .int (gSn g y k)), (4, .int (nI k)), (0, .ref (E.1 + 41)), (1, .int (nI y)), (2, .int (x_b any))] d_X4_wrongIn_61 rfl (Nat.le_of_ble_eq_true rfl) rfl ?_
              refine x_aload_n 3 d_X4_wrongIn_62 rfl rfl ?_
              refine x_cvv (k := 41) (as := []) (c_X4_hour l E μ4 hR1 (hI.hours k)) v_X4_hour w_X4_hour q823 o_M rfl ⟨Nat.le_of_ble_eq_true rfl, Nat.le_of_ble_eq_true rfl⟩ rfl (Nat.le_of_ble_eq_true rfl) d_X4_wrongIn_63 ?_
              rintro μ34 ⟨hR35, hF36⟩
              have hW37 := MW.cg hW1 (μ' := μ34) (fun id hid => (hF36 _ (by omega)))
              have hF38 : ∀ id, (id ≠ 42 ∧ id ≠ 46) → μ34 id = μ id := fun id hid => (show μ34 id = μ4 id from (hF36 _ (by omega))).trans (hF1 id hid)
              have hX39 := MX.cg hX1 (μ' := μ34) (fun id hid => (hF36 _ (by omega)))
              refine x_iinc [(4, .int (nI (k + 1))), (3, .int (nI k)), (5, .int (gSn g y k)), (0, .ref (E.1 + 41)), (1, .int (nI y)), (2, .int (x_b any))] 2 d_X4_wrongIn_66 rfl (x_inc _) (Nat.le_of_ble_eq_true rfl) rfl ?_
              refine x_goto 5 d_X4_wrongIn_69 (by decide) ?_
              refine x_lv [0, 1, 3, 4, 5] rfl ?_
              exact ih2 (k + 1) (by omega) (by omega) (nI k) μ34 hR35 hW37 hX39 (wr_f hN hqa (fw_4 c19 c33)) hF38
            · skip
              refine x_iconst (x := (-1)) d_X4_wrongIn_55 (by decide) ?_
              refine x_goto 61 d_X4_wrongIn_56 (by decide) ?_
              refine x_istore_n [(3, .int (-1)), (5, .int (gSn g y k)), (4, .int (nI k)), (0, .ref (E.1 + 41)), (1, .int (nI y)), (2, .int (x_b any))] d_X4_wrongIn_61 rfl (Nat.le_of_ble_eq_true rfl) rfl ?_
              refine x_aload_n 3 d_X4_wrongIn_62 rfl rfl ?_
              refine x_cvv (k := 41) (as := []) (c_X4_hour l E μ4 hR1 (hI.hours k)) v_X4_hour w_X4_hour q823 o_M rfl ⟨Nat.le_of_ble_eq_true rfl, Nat.le_of_ble_eq_true rfl⟩ rfl (Nat.le_of_ble_eq_true rfl) d_X4_wrongIn_63 ?_
              rintro μ40 ⟨hR41, hF42⟩
              have hW43 := MW.cg hW1 (μ' := μ40) (fun id hid => (hF42 _ (by omega)))
              have hF44 : ∀ id, (id ≠ 42 ∧ id ≠ 46) → μ40 id = μ id := fun id hid => (show μ40 id = μ4 id from (hF42 _ (by omega))).trans (hF1 id hid)
              have hX45 := MX.cg hX1 (μ' := μ40) (fun id hid => (hF42 _ (by omega)))
              refine x_iinc [(4, .int (nI (k + 1))), (3, .int (-1)), (5, .int (gSn g y k)), (0, .ref (E.1 + 41)), (1, .int (nI y)), (2, .int (x_b any))] 2 d_X4_wrongIn_66 rfl (x_inc _) (Nat.le_of_ble_eq_true rfl) rfl ?_
              refine x_goto 5 d_X4_wrongIn_69 (by decide) ?_
              refine x_lv [0, 1, 3, 4, 5] rfl ?_
              exact ih2 (k + 1) (by omega) (by omega) (-1) μ40 hR41 hW43 hX45 (wr_t hqa (fw_2 c26 c33)) hF44
  exact L1 0 (by omega) (-1) μ hR hW hX (wr_0 a (gSn g y) any (gSz g y)) hF
def m_X4_kinds : x_M := (yX4_kinds, prog_6_method_64_code, 6, (some FieldType.int), 9, 204)
theorem v_X4_kinds : x_VM m_X4_kinds 2 := ⟨q952, q6, by decide +kernel, by decide +kernel, by decide +kernel⟩
theorem w_X4_kinds : x_VI m_X4_kinds := ⟨q950, q951⟩
theorem d_X4_kinds_0 : x_dec m_X4_kinds 0 (.aload_n 0) 1 1 := ⟨by decide +kernel, rfl⟩
theorem d_X4_kinds_1 : x_dec m_X4_kinds 1 (.iload_n 1) 1 2 := ⟨by decide +kernel, rfl⟩
theorem d_X4_kinds_2 : x_dec m_X4_kinds 2 (.iload_n 2) 1 3 := ⟨by decide +kernel, rfl⟩
theorem d_X4_kinds_3 : x_dec m_X4_kinds 3 (.invokevirtual 165) 3 6 := ⟨by decide +kernel, rfl⟩
theorem d_X4_kinds_6 : x_dec m_X4_kinds 6 (.istore_n 3) 1 7 := ⟨by decide +kernel, rfl⟩
theorem d_X4_kinds_7 : x_dec m_X4_kinds 7 (.iload_n 3) 1 8 := ⟨by decide +kernel, rfl⟩
theorem d_X4_kinds_8 : x_dec m_X4_kinds 8 (.ifCond .eq 9) 3 11 := ⟨by decide +kernel, rfl⟩
theorem d_X4_kinds_11 : x_dec m_X4_kinds 11 (.aload_n 0) 1 12 := ⟨by decide +kernel, rfl⟩
theorem d_X4_kinds_12 : x_dec m_X4_kinds 12 (.iload_n 3) 1 13 := ⟨by decide +kernel, rfl⟩
theorem d_X4_kinds_13 : x_dec m_X4_kinds 13 (.invokevirtual 42) 3 16 := ⟨by decide +kernel, rfl⟩
theorem d_X4_kinds_16 : x_dec m_X4_kinds 16 (.ireturn) 1 17 := ⟨by decide +kernel, rfl⟩
theorem d_X4_kinds_17 : x_dec m_X4_kinds 17 (.aload_n 0) 1 18 := ⟨by decide +kernel, rfl⟩
theorem d_X4_kinds_18 : x_dec m_X4_kinds 18 (.invokevirtual 134) 3 21 := ⟨by decide +kernel, rfl⟩
theorem d_X4_kinds_21 : x_dec m_X4_kinds 21 (.iconst 0) 1 22 := ⟨by decide +kernel, rfl⟩
theorem d_X4_kinds_22 : x_dec m_X4_kinds 22 (.istore 4) 2 24 := ⟨by decide +kernel, rfl⟩
theorem d_X4_kinds_24 : x_dec m_X4_kinds 24 (.iconst 0) 1 25 := ⟨by decide +kernel, rfl⟩
theorem d_X4_kinds_25 : x_dec m_X4_kinds 25 (.istore 5) 2 27 := ⟨by decide +kernel, rfl⟩
theorem d_X4_kinds_27 : x_dec m_X4_kinds 27 (.iload 5) 2 29 := ⟨by decide +kernel, rfl⟩
theorem d_X4_kinds_29 : x_dec m_X4_kinds 29 (.bipush 6) 2 31 := ⟨by decide +kernel, rfl⟩
theorem d_X4_kinds_31 : x_dec m_X4_kinds 31 (.if_icmp .gt 39) 3 34 := ⟨by decide +kernel, rfl⟩
theorem d_X4_kinds_34 : x_dec m_X4_kinds 34 (.aload_n 0) 1 35 := ⟨by decide +kernel, rfl⟩
theorem d_X4_kinds_35 : x_dec m_X4_kinds 35 (.iload_n 2) 1 36 := ⟨by decide +kernel, rfl⟩
theorem d_X4_kinds_36 : x_dec m_X4_kinds 36 (.iconst 0) 1 37 := ⟨by decide +kernel, rfl⟩
theorem d_X4_kinds_37 : x_dec m_X4_kinds 37 (.iload 5) 2 39 := ⟨by decide +kernel, rfl⟩
theorem d_X4_kinds_39 : x_dec m_X4_kinds 39 (.invokevirtual 84) 3 42 := ⟨by decide +kernel, rfl⟩
theorem d_X4_kinds_42 : x_dec m_X4_kinds 42 (.iload 4) 2 44 := ⟨by decide +kernel, rfl⟩
theorem d_X4_kinds_44 : x_dec m_X4_kinds 44 (.aload_n 0) 1 45 := ⟨by decide +kernel, rfl⟩
theorem d_X4_kinds_45 : x_dec m_X4_kinds 45 (.iload_n 1) 1 46 := ⟨by decide +kernel, rfl⟩
theorem d_X4_kinds_46 : x_dec m_X4_kinds 46 (.iconst 1) 1 47 := ⟨by decide +kernel, rfl⟩
theorem d_X4_kinds_47 : x_dec m_X4_kinds 47 (.invokevirtual 168) 3 50 := ⟨by decide +kernel, rfl⟩
theorem d_X4_kinds_50 : x_dec m_X4_kinds 50 (.ifCond .ge 10) 3 53 := ⟨by decide +kernel, rfl⟩
theorem d_X4_kinds_53 : x_dec m_X4_kinds 53 (.iconst 1) 1 54 := ⟨by decide +kernel, rfl⟩
theorem d_X4_kinds_54 : x_dec m_X4_kinds 54 (.iload 5) 2 56 := ⟨by decide +kernel, rfl⟩
theorem d_X4_kinds_56 : x_dec m_X4_kinds 56 (.ishl) 1 57 := ⟨by decide +kernel, rfl⟩
theorem d_X4_kinds_57 : x_dec m_X4_kinds 57 (.goto 4) 3 60 := ⟨by decide +kernel, rfl⟩
theorem d_X4_kinds_60 : x_dec m_X4_kinds 60 (.iconst 0) 1 61 := ⟨by decide +kernel, rfl⟩
theorem d_X4_kinds_61 : x_dec m_X4_kinds 61 (.ior) 1 62 := ⟨by decide +kernel, rfl⟩
theorem d_X4_kinds_62 : x_dec m_X4_kinds 62 (.istore 4) 2 64 := ⟨by decide +kernel, rfl⟩
theorem d_X4_kinds_64 : x_dec m_X4_kinds 64 (.iinc 5 1) 3 67 := ⟨by decide +kernel, rfl⟩
theorem d_X4_kinds_67 : x_dec m_X4_kinds 67 (.goto (-40)) 3 70 := ⟨by decide +kernel, rfl⟩
theorem d_X4_kinds_70 : x_dec m_X4_kinds 70 (.iload 4) 2 72 := ⟨by decide +kernel, rfl⟩
theorem d_X4_kinds_72 : x_dec m_X4_kinds 72 (.ireturn) 1 73 := ⟨by decide +kernel, rfl⟩
set_option maxHeartbeats 4000000 in
set_option maxRecDepth 100000 in
theorem c_X4_kinds (l : Launch) (E : x_E) (μ : x_Mem) (g : x_SG) (hS : MS g μ) (hI : Inv g) (s p : Int32) : x_Met l m_X4_kinds E [.ref (E.1 + 41), .int s, .int p] μ (x_I (fun z m => z = (F_kinds g s p).1 ∧ MS (F_kinds g s p).2 m ∧ ∀ id, id < 41 → m id = μ id)) := by
  obtain ⟨hR, hX, hD⟩ := hS
  have hWF := hI.1.1
  have hn7 := hWF.2.1
  have hpn := hWF.1
  have hF : ∀ id, id < 41 → μ id = μ id := fun _ _ => rfl
  refine x_enter (lv := [(0, .ref (E.1 + 41)), (1, .int s), (2, .int p)]) (by decide +kernel) (Nat.le_of_ble_eq_true rfl) rfl ?_
  refine x_aload_n 0 d_X4_kinds_0 rfl rfl ?_
  refine x_iload_n 1 d_X4_kinds_1 rfl rfl ?_
  refine x_iload_n 2 d_X4_kinds_2 rfl rfl ?_
  refine x_cvip (k := 41) (as := [.int s, .int p]) (c_X4_notAsked l E μ hR hWF hX s p) v_X4_notAsked w_X4_notAsked q953 o_M rfl ⟨Nat.le_of_ble_eq_true rfl, Nat.le_of_ble_eq_true rfl⟩ rfl (Nat.le_of_ble_eq_true rfl) d_X4_kinds_3 ?_
  rcases ask_cases hWF s p with ⟨ksh, ewy⟩ | ⟨y, hy, rfl, ksh, kbt, ewy⟩ | ⟨y, hy, rfl, ksh, kbt, kip, ewy⟩ | ⟨y, hy, rfl, ksh, kbt, q, hq, rfl, kip, ewy⟩
  · rw [ewy]
    refine x_istore_n [(3, .int (-1000001)), (0, .ref (E.1 + 41)), (1, .int s), (2, .int p)] d_X4_kinds_6 rfl (Nat.le_of_ble_eq_true rfl) rfl ?_
    refine x_iload_n 0 d_X4_kinds_7 rfl rfl ?_
    refine x_if_eq 17 d_X4_kinds_8 (by decide) (fun c1 => ?_) (fun c1 => ?_)
    · exact absurd c1 (by decide)
    refine x_aload_n 1 d_X4_kinds_11 rfl rfl ?_
    refine x_iload_n 0 d_X4_kinds_12 rfl rfl ?_
    refine x_cvi (k := 41) (as := [.int (-1000001)]) (c_X4_finds l E μ (i := 0) hD (by decide) (w := (-1000001)) (by decide)) v_X4_finds w_X4_finds q735 o_M rfl ⟨Nat.le_of_ble_eq_true rfl, Nat.le_of_ble_eq_true rfl⟩ rfl (Nat.le_of_ble_eq_true rfl) d_X4_kinds_13 ?_
    rintro _ μ2 ⟨rfl, hD3, hF4⟩
    have hR5 := MR.cg hR (μ' := μ2) (fun id hid => (hF4 _ (by omega)))
    have hX6 := MX.cg hX (μ' := μ2) (fun id hid => (hF4 _ (by omega)))
    have hF7 : ∀ id, id < 41 → μ2 id = μ id := fun id hid => (show μ2 id = μ id from (hF4 _ (by omega))).trans (hF id hid)
    refine x_iret rfl d_X4_kinds_16 ?_
    have e9 : F_kinds g s p = fin g 0 := by simp [F_kinds, x_b_f, x_b_t, ksh, shO]
    rw [e9]
    exact ⟨rfl, MS.fin hR5 hX6 hD3, hF7⟩
  · rw [ewy]
    have hz_y := hI.2.2.2.2.1 y (by omega)
    refine x_istore_n [(3, .int (-1000006)), (0, .ref (E.1 + 41)), (1, .int (nI y)), (2, .int p)] d_X4_kinds_6 rfl (Nat.le_of_ble_eq_true rfl) rfl ?_
    refine x_iload_n 0 d_X4_kinds_7 rfl rfl ?_
    refine x_if_eq 17 d_X4_kinds_8 (by decide) (fun c8 => ?_) (fun c8 => ?_)
    · exact absurd c8 (by decide)
    refine x_aload_n 1 d_X4_kinds_11 rfl rfl ?_
    refine x_iload_n 0 d_X4_kinds_12 rfl rfl ?_
    refine x_cvi (k := 41) (as := [.int (-1000006)]) (c_X4_finds l E μ (i := 5) hD (by decide) (w := (-1000006)) (by decide)) v_X4_finds w_X4_finds q735 o_M rfl ⟨Nat.le_of_ble_eq_true rfl, Nat.le_of_ble_eq_true rfl⟩ rfl (Nat.le_of_ble_eq_true rfl) d_X4_kinds_13 ?_
    rintro _ μ9 ⟨rfl, hD10, hF11⟩
    have hR12 := MR.cg hR (μ' := μ9) (fun id hid => (hF11 _ (by omega)))
    have hX13 := MX.cg hX (μ' := μ9) (fun id hid => (hF11 _ (by omega)))
    have hF14 : ∀ id, id < 41 → μ9 id = μ id := fun id hid => (show μ9 id = μ id from (hF11 _ (by omega))).trans (hF id hid)
    refine x_iret rfl d_X4_kinds_16 ?_
    have e9 : F_kinds g (nI y) p = fin g 5 := by simp [F_kinds, x_b_f, x_b_t, ksh, kbt, nI_clamp (n := y) (by omega), shO]
    rw [e9]
    exact ⟨rfl, MS.fin hR12 hX13 hD10, hF14⟩
  · rw [ewy]
    have hz_y := hI.2.2.2.2.1 y (by omega)
    refine x_istore_n [(3, .int (-1000001)), (0, .ref (E.1 + 41)), (1, .int (nI y)), (2, .int p)] d_X4_kinds_6 rfl (Nat.le_of_ble_eq_true rfl) rfl ?_
    refine x_iload_n 0 d_X4_kinds_7 rfl rfl ?_
    refine x_if_eq 17 d_X4_kinds_8 (by decide) (fun c15 => ?_) (fun c15 => ?_)
    · exact absurd c15 (by decide)
    refine x_aload_n 1 d_X4_kinds_11 rfl rfl ?_
    refine x_iload_n 0 d_X4_kinds_12 rfl rfl ?_
    refine x_cvi (k := 41) (as := [.int (-1000001)]) (c_X4_finds l E μ (i := 0) hD (by decide) (w := (-1000001)) (by decide)) v_X4_finds w_X4_finds q735 o_M rfl ⟨Nat.le_of_ble_eq_true rfl, Nat.le_of_ble_eq_true rfl⟩ rfl (Nat.le_of_ble_eq_true rfl) d_X4_kinds_13 ?_
    rintro _ μ16 ⟨rfl, hD17, hF18⟩
    have hR19 := MR.cg hR (μ' := μ16) (fun id hid => (hF18 _ (by omega)))
    have hX20 := MX.cg hX (μ' := μ16) (fun id hid => (hF18 _ (by omega)))
    have hF21 : ∀ id, id < 41 → μ16 id = μ id := fun id hid => (show μ16 id = μ id from (hF18 _ (by omega))).trans (hF id hid)
    refine x_iret rfl d_X4_kinds_16 ?_
    have e9 : F_kinds g (nI y) p = fin g 0 := by simp [F_kinds, x_b_f, x_b_t, ksh, kbt, kip, nI_clamp (n := y) (by omega), shO]
    rw [e9]
    exact ⟨rfl, MS.fin hR19 hX20 hD17, hF21⟩
  · rw [ewy]
    have hz_y := hI.2.2.2.2.1 y (by omega)
    refine x_istore_n [(3, .int 0), (0, .ref (E.1 + 41)), (1, .int (nI y)), (2, .int (nI q))] d_X4_kinds_6 rfl (Nat.le_of_ble_eq_true rfl) rfl ?_
    refine x_iload_n 0 d_X4_kinds_7 rfl rfl ?_
    refine x_if_eq 17 d_X4_kinds_8 (by decide) (fun c22 => ?_) (fun c22 => ?_)
    rotate_left
    · exact absurd c22 (by decide)
    refine x_aload_n 1 d_X4_kinds_17 rfl rfl ?_
    refine x_cvv (k := 41) (as := []) (c_X4_thinks l E μ hR) v_X4_thinks w_X4_thinks q859 o_M rfl ⟨Nat.le_of_ble_eq_true rfl, Nat.le_of_ble_eq_true rfl⟩ rfl (Nat.le_of_ble_eq_true rfl) d_X4_kinds_18 ?_
    rintro μ23 ⟨hW24, hF25⟩
    have hR26 := MR.cg hR (μ' := μ23) (fun id hid => (hF25 _ (by omega)))
    have hX27 := MX.cg hX (μ' := μ23) (fun id hid => (hF25 _ (by omega)))
    have hD28 := MD.cg hD (μ' := μ23) (fun id hid => (hF25 _ (by omega)))
    have hF29 : ∀ id, id < 41 → μ23 id = μ id := fun id hid => (show μ23 id = μ id from (hF25 _ (by omega))).trans (hF id hid)
    refine x_iconst (x := 0) d_X4_kinds_21 (by decide) ?_
    refine x_istore [(4, .int 0), (3, .int 0), (0, .ref (E.1 + 41)), (1, .int (nI y)), (2, .int (nI q))] d_X4_kinds_22 (Nat.le_of_ble_eq_true rfl) rfl ?_
    refine x_iconst (x := 0) d_X4_kinds_24 (by decide) ?_
    refine x_istore [(5, .int 0), (4, .int 0), (3, .int 0), (0, .ref (E.1 + 41)), (1, .int (nI y)), (2, .int (nI q))] d_X4_kinds_25 (Nat.le_of_ble_eq_true rfl) rfl ?_
    have L30 : ∀ i : Nat, i ≤ 7 → ∀ r : Int32, ∀ μ33 : x_Mem, (r = setTo (fun k => fitsB (upd (gA g) (24 + 3 * q) (nI k)) (gSn g y) true (gSz g y)) i) → (MR (gA g) μ33) → (MW (gA g) μ33) → (MX g μ33) → (MD (gF g) μ33) → (∀ id, id < 41 → μ33 id = μ id) → x_G l E m_X4_kinds (x_mv E m_X4_kinds (x_I (fun z m => z = (F_kinds g (nI y) (nI q)).1 ∧ MS (F_kinds g (nI y) (nI q)).2 m ∧ ∀ id, id < 41 → m id = μ id))) μ33 27 [(5, .int (nI i)), (4, .int r), (0, .ref (E.1 + 41)), (1, .int (nI y)), (2, .int (nI q))] [] := by
      refine x_down _ 7 (fun i hi32 ih31 => ?_)
      intro r μ33 hr hR1 hW1 hX1 hD1 hF1
      refine x_iload 0 d_X4_kinds_27 rfl ?_
      refine x_bipush (x := 6) d_X4_kinds_29 (by decide) ?_
      refine x_icmp_gt 70 d_X4_kinds_31 (by decide) (fun c34 => ?_) (fun c34 => ?_)
      · skip
        have hN := (nI_ltI (a := 6) (b := i) (by omega) (by omega)).mp c34
        refine x_iload 1 d_X4_kinds_70 rfl ?_
        refine x_iret rfl d_X4_kinds_72 ?_
        have e7 : i = 7 := by omega
        subst e7
        subst hr
        have e9 : F_kinds g (nI y) (nI q) = (setTo (fun k => fitsB (upd (gA g) (24 + 3 * q) (nI k)) (gSn g y) true (gSz g y)) 7, g) := by simp [F_kinds, x_b_f, x_b_t, ksh, kbt, kip, nI_clamp (n := y) (by omega), nI_clamp (n := q) (by omega), shO]
        rw [e9]
        exact ⟨rfl, ⟨hR1, hX1, hD1⟩, hF1⟩
      · skip
        have hN : ¬ 6 < i := fun z => c34 (nI_lt z (by omega))
        refine x_aload_n 2 d_X4_kinds_34 rfl rfl ?_
        refine x_iload_n 4 d_X4_kinds_35 rfl rfl ?_
        refine x_iconst (x := 0) d_X4_kinds_36 (by decide) ?_
        refine x_iload 0 d_X4_kinds_37 rfl ?_
        refine x_cvv (k := 41) (as := [.int (nI q), .int 0, .int (nI i)]) (c_X4_put l E μ33 (p := q) (w := 0) (j := 24 + 3 * q) rfl (by omega) (nI i)) v_X4_put w_X4_put q783 o_M rfl ⟨Nat.le_of_ble_eq_true rfl, Nat.le_of_ble_eq_true rfl⟩ rfl (Nat.le_of_ble_eq_true rfl) d_X4_kinds_39 ?_
        intro μ35 eμ35
        have hR36 : MR (upd (gA g) (24 + 3 * q) (nI i)) μ35 := MR.w hR1 eμ35
        have hX37 := MX.cg hX1 (μ' := μ35) (fun id hid => (by rw [eμ35, upd2_ne _ _ _ (by omega)]))
        have hD38 := MD.cg hD1 (μ' := μ35) (fun id hid => (by rw [eμ35, upd2_ne _ _ _ (by omega)]))
        have hF39 : ∀ id, id < 41 → μ35 id = μ id := fun id hid => (show μ35 id = μ33 id from (by rw [eμ35, upd2_ne _ _ _ (by omega)])).trans (hF1 id hid)
        have hW40 := MW.cg hW1 (μ' := μ35) (fun id hid => (by rw [eμ35, upd2_ne _ _ _ (by omega)]))
        refine x_iload 1 d_X4_kinds_42 rfl ?_
        refine x_aload_n 2 d_X4_kinds_44 rfl rfl ?_
        refine x_iload_n 3 d_X4_kinds_45 rfl rfl ?_
        refine x_iconst (x := 1) d_X4_kinds_46 (by decide) ?_
        refine x_cvi (k := 41) (as := [.int (nI y), .int (x_b true)]) (c_X4_wrongIn l E μ35 hR36 (hWF.upK (p := q) (k := i) (by omega) (by omega)) hX37 hW40 (y := y) (by omega) (by omega) true) v_X4_wrongIn w_X4_wrongIn q965 o_M rfl ⟨Nat.le_of_ble_eq_true rfl, Nat.le_of_ble_eq_true rfl⟩ rfl (Nat.le_of_ble_eq_true rfl) d_X4_kinds_47 ?_
        rintro _ μ41 ⟨rfl, hR42, hW43, hF44⟩
        have hX45 := MX.cg hX37 (μ' := μ41) (fun id hid => (hF44 _ (by omega)))
        have hD46 := MD.cg hD38 (μ' := μ41) (fun id hid => (hF44 _ (by omega)))
        have hF47 : ∀ id, id < 41 → μ41 id = μ id := fun id hid => (show μ41 id = μ35 id from (hF44 _ (by omega))).trans (hF39 id hid)
        refine x_if_ge 60 d_X4_kinds_50 (by decide) (fun c48 => ?_) (fun c48 => ?_)
        · skip
          refine x_iconst (x := 0) d_X4_kinds_60 (by decide) ?_
          refine x_ior d_X4_kinds_61 ?_
          refine x_istore [(4, .int (r ||| 0)), (5, .int (nI i)), (0, .ref (E.1 + 41)), (1, .int (nI y)), (2, .int (nI q))] d_X4_kinds_62 (Nat.le_of_ble_eq_true rfl) rfl ?_
          refine x_iinc [(5, .int (nI (i + 1))), (4, .int (r ||| 0)), (0, .ref (E.1 + 41)), (1, .int (nI y)), (2, .int (nI q))] 1 d_X4_kinds_64 rfl (x_inc _) (Nat.le_of_ble_eq_true rfl) rfl ?_
          refine x_goto 27 d_X4_kinds_67 (by decide) ?_
          exact ih31 (i + 1) (by omega) (by omega) (r ||| 0) μ41 (by rw [hr, setTo, if_neg (by rw [wr_not c48]; decide)]; exact or_0 _) hR42 hW43 hX45 hD46 hF47
        · skip
          refine x_iconst (x := 1) d_X4_kinds_53 (by decide) ?_
          refine x_iload 0 d_X4_kinds_54 rfl ?_
          refine x_ishl d_X4_kinds_56 ?_
          refine x_goto 61 d_X4_kinds_57 (by decide) ?_
          refine x_ior d_X4_kinds_61 ?_
          refine x_istore [(4, .int (r ||| (1 <<< ((nI i) &&& 31)))), (5, .int (nI i)), (0, .ref (E.1 + 41)), (1, .int (nI y)), (2, .int (nI q))] d_X4_kinds_62 (Nat.le_of_ble_eq_true rfl) rfl ?_
          refine x_iinc [(5, .int (nI (i + 1))), (4, .int (r ||| (1 <<< ((nI i) &&& 31)))), (0, .ref (E.1 + 41)), (1, .int (nI y)), (2, .int (nI q))] 1 d_X4_kinds_64 rfl (x_inc _) (Nat.le_of_ble_eq_true rfl) rfl ?_
          refine x_goto 27 d_X4_kinds_67 (by decide) ?_
          exact ih31 (i + 1) (by omega) (by omega) (r ||| (1 <<< ((nI i) &&& 31))) μ41 (by rw [hr, setTo, if_pos (wr_fit hz_y c48)]) hR42 hW43 hX45 hD46 hF47
    refine x_lv [0, 1, 3, 4, 5] rfl ?_
    exact L30 0 (by omega) 0 μ23 (by rfl) hR26 hW24 hX27 hD28 hF29
def m_X4_beliefs : x_M := (yX4_beliefs, prog_6_method_65_code, 6, (some FieldType.int), 9, 204)
theorem v_X4_beliefs : x_VM m_X4_beliefs 2 := ⟨q972, q6, by decide +kernel, by decide +kernel, by decide +kernel⟩
theorem w_X4_beliefs : x_VI m_X4_beliefs := ⟨q970, q971⟩
theorem d_X4_beliefs_0 : x_dec m_X4_beliefs 0 (.aload_n 0) 1 1 := ⟨by decide +kernel, rfl⟩
theorem d_X4_beliefs_1 : x_dec m_X4_beliefs 1 (.iload_n 1) 1 2 := ⟨by decide +kernel, rfl⟩
theorem d_X4_beliefs_2 : x_dec m_X4_beliefs 2 (.iload_n 2) 1 3 := ⟨by decide +kernel, rfl⟩
theorem d_X4_beliefs_3 : x_dec m_X4_beliefs 3 (.invokevirtual 165) 3 6 := ⟨by decide +kernel, rfl⟩
theorem d_X4_beliefs_6 : x_dec m_X4_beliefs 6 (.istore_n 3) 1 7 := ⟨by decide +kernel, rfl⟩
theorem d_X4_beliefs_7 : x_dec m_X4_beliefs 7 (.iload_n 3) 1 8 := ⟨by decide +kernel, rfl⟩
theorem d_X4_beliefs_8 : x_dec m_X4_beliefs 8 (.ifCond .eq 9) 3 11 := ⟨by decide +kernel, rfl⟩
theorem d_X4_beliefs_11 : x_dec m_X4_beliefs 11 (.aload_n 0) 1 12 := ⟨by decide +kernel, rfl⟩
theorem d_X4_beliefs_12 : x_dec m_X4_beliefs 12 (.iload_n 3) 1 13 := ⟨by decide +kernel, rfl⟩
theorem d_X4_beliefs_13 : x_dec m_X4_beliefs 13 (.invokevirtual 42) 3 16 := ⟨by decide +kernel, rfl⟩
theorem d_X4_beliefs_16 : x_dec m_X4_beliefs 16 (.ireturn) 1 17 := ⟨by decide +kernel, rfl⟩
theorem d_X4_beliefs_17 : x_dec m_X4_beliefs 17 (.aload_n 0) 1 18 := ⟨by decide +kernel, rfl⟩
theorem d_X4_beliefs_18 : x_dec m_X4_beliefs 18 (.invokevirtual 134) 3 21 := ⟨by decide +kernel, rfl⟩
theorem d_X4_beliefs_21 : x_dec m_X4_beliefs 21 (.iconst 0) 1 22 := ⟨by decide +kernel, rfl⟩
theorem d_X4_beliefs_22 : x_dec m_X4_beliefs 22 (.istore 4) 2 24 := ⟨by decide +kernel, rfl⟩
theorem d_X4_beliefs_24 : x_dec m_X4_beliefs 24 (.iconst 0) 1 25 := ⟨by decide +kernel, rfl⟩
theorem d_X4_beliefs_25 : x_dec m_X4_beliefs 25 (.istore 5) 2 27 := ⟨by decide +kernel, rfl⟩
theorem d_X4_beliefs_27 : x_dec m_X4_beliefs 27 (.iload 5) 2 29 := ⟨by decide +kernel, rfl⟩
theorem d_X4_beliefs_29 : x_dec m_X4_beliefs 29 (.bipush 99) 2 31 := ⟨by decide +kernel, rfl⟩
theorem d_X4_beliefs_31 : x_dec m_X4_beliefs 31 (.if_icmp .gt 36) 3 34 := ⟨by decide +kernel, rfl⟩
theorem d_X4_beliefs_34 : x_dec m_X4_beliefs 34 (.aload_n 0) 1 35 := ⟨by decide +kernel, rfl⟩
theorem d_X4_beliefs_35 : x_dec m_X4_beliefs 35 (.iload_n 2) 1 36 := ⟨by decide +kernel, rfl⟩
theorem d_X4_beliefs_36 : x_dec m_X4_beliefs 36 (.iconst 2) 1 37 := ⟨by decide +kernel, rfl⟩
theorem d_X4_beliefs_37 : x_dec m_X4_beliefs 37 (.iload 5) 2 39 := ⟨by decide +kernel, rfl⟩
theorem d_X4_beliefs_39 : x_dec m_X4_beliefs 39 (.invokevirtual 84) 3 42 := ⟨by decide +kernel, rfl⟩
theorem d_X4_beliefs_42 : x_dec m_X4_beliefs 42 (.iload 4) 2 44 := ⟨by decide +kernel, rfl⟩
theorem d_X4_beliefs_44 : x_dec m_X4_beliefs 44 (.aload_n 0) 1 45 := ⟨by decide +kernel, rfl⟩
theorem d_X4_beliefs_45 : x_dec m_X4_beliefs 45 (.iload_n 1) 1 46 := ⟨by decide +kernel, rfl⟩
theorem d_X4_beliefs_46 : x_dec m_X4_beliefs 46 (.iconst 1) 1 47 := ⟨by decide +kernel, rfl⟩
theorem d_X4_beliefs_47 : x_dec m_X4_beliefs 47 (.invokevirtual 168) 3 50 := ⟨by decide +kernel, rfl⟩
theorem d_X4_beliefs_50 : x_dec m_X4_beliefs 50 (.ifCond .ge 7) 3 53 := ⟨by decide +kernel, rfl⟩
theorem d_X4_beliefs_53 : x_dec m_X4_beliefs 53 (.iconst 1) 1 54 := ⟨by decide +kernel, rfl⟩
theorem d_X4_beliefs_54 : x_dec m_X4_beliefs 54 (.goto 4) 3 57 := ⟨by decide +kernel, rfl⟩
theorem d_X4_beliefs_57 : x_dec m_X4_beliefs 57 (.iconst 0) 1 58 := ⟨by decide +kernel, rfl⟩
theorem d_X4_beliefs_58 : x_dec m_X4_beliefs 58 (.iadd) 1 59 := ⟨by decide +kernel, rfl⟩
theorem d_X4_beliefs_59 : x_dec m_X4_beliefs 59 (.istore 4) 2 61 := ⟨by decide +kernel, rfl⟩
theorem d_X4_beliefs_61 : x_dec m_X4_beliefs 61 (.iinc 5 1) 3 64 := ⟨by decide +kernel, rfl⟩
theorem d_X4_beliefs_64 : x_dec m_X4_beliefs 64 (.goto (-37)) 3 67 := ⟨by decide +kernel, rfl⟩
theorem d_X4_beliefs_67 : x_dec m_X4_beliefs 67 (.iload 4) 2 69 := ⟨by decide +kernel, rfl⟩
theorem d_X4_beliefs_69 : x_dec m_X4_beliefs 69 (.ireturn) 1 70 := ⟨by decide +kernel, rfl⟩
set_option maxHeartbeats 4000000 in
set_option maxRecDepth 100000 in
theorem c_X4_beliefs (l : Launch) (E : x_E) (μ : x_Mem) (g : x_SG) (hS : MS g μ) (hI : Inv g) (s p : Int32) : x_Met l m_X4_beliefs E [.ref (E.1 + 41), .int s, .int p] μ (x_I (fun z m => z = (F_beliefs g s p).1 ∧ MS (F_beliefs g s p).2 m ∧ ∀ id, id < 41 → m id = μ id)) := by
  obtain ⟨hR, hX, hD⟩ := hS
  have hWF := hI.1.1
  have hn7 := hWF.2.1
  have hpn := hWF.1
  have hF : ∀ id, id < 41 → μ id = μ id := fun _ _ => rfl
  refine x_enter (lv := [(0, .ref (E.1 + 41)), (1, .int s), (2, .int p)]) (by decide +kernel) (Nat.le_of_ble_eq_true rfl) rfl ?_
  refine x_aload_n 0 d_X4_beliefs_0 rfl rfl ?_
  refine x_iload_n 1 d_X4_beliefs_1 rfl rfl ?_
  refine x_iload_n 2 d_X4_beliefs_2 rfl rfl ?_
  refine x_cvip (k := 41) (as := [.int s, .int p]) (c_X4_notAsked l E μ hR hWF hX s p) v_X4_notAsked w_X4_notAsked q953 o_M rfl ⟨Nat.le_of_ble_eq_true rfl, Nat.le_of_ble_eq_true rfl⟩ rfl (Nat.le_of_ble_eq_true rfl) d_X4_beliefs_3 ?_
  rcases ask_cases hWF s p with ⟨ksh, ewy⟩ | ⟨y, hy, rfl, ksh, kbt, ewy⟩ | ⟨y, hy, rfl, ksh, kbt, kip, ewy⟩ | ⟨y, hy, rfl, ksh, kbt, q, hq, rfl, kip, ewy⟩
  · rw [ewy]
    refine x_istore_n [(3, .int (-1000001)), (0, .ref (E.1 + 41)), (1, .int s), (2, .int p)] d_X4_beliefs_6 rfl (Nat.le_of_ble_eq_true rfl) rfl ?_
    refine x_iload_n 0 d_X4_beliefs_7 rfl rfl ?_
    refine x_if_eq 17 d_X4_beliefs_8 (by decide) (fun c1 => ?_) (fun c1 => ?_)
    · exact absurd c1 (by decide)
    refine x_aload_n 1 d_X4_beliefs_11 rfl rfl ?_
    refine x_iload_n 0 d_X4_beliefs_12 rfl rfl ?_
    refine x_cvi (k := 41) (as := [.int (-1000001)]) (c_X4_finds l E μ (i := 0) hD (by decide) (w := (-1000001)) (by decide)) v_X4_finds w_X4_finds q735 o_M rfl ⟨Nat.le_of_ble_eq_true rfl, Nat.le_of_ble_eq_true rfl⟩ rfl (Nat.le_of_ble_eq_true rfl) d_X4_beliefs_13 ?_
    rintro _ μ2 ⟨rfl, hD3, hF4⟩
    have hR5 := MR.cg hR (μ' := μ2) (fun id hid => (hF4 _ (by omega)))
    have hX6 := MX.cg hX (μ' := μ2) (fun id hid => (hF4 _ (by omega)))
    have hF7 : ∀ id, id < 41 → μ2 id = μ id := fun id hid => (show μ2 id = μ id from (hF4 _ (by omega))).trans (hF id hid)
    refine x_iret rfl d_X4_beliefs_16 ?_
    have e9 : F_beliefs g s p = fin g 0 := by simp [F_beliefs, x_b_f, x_b_t, ksh, shO]
    rw [e9]
    exact ⟨rfl, MS.fin hR5 hX6 hD3, hF7⟩
  · rw [ewy]
    have hz_y := hI.2.2.2.2.1 y (by omega)
    refine x_istore_n [(3, .int (-1000006)), (0, .ref (E.1 + 41)), (1, .int (nI y)), (2, .int p)] d_X4_beliefs_6 rfl (Nat.le_of_ble_eq_true rfl) rfl ?_
    refine x_iload_n 0 d_X4_beliefs_7 rfl rfl ?_
    refine x_if_eq 17 d_X4_beliefs_8 (by decide) (fun c8 => ?_) (fun c8 => ?_)
    · exact absurd c8 (by decide)
    refine x_aload_n 1 d_X4_beliefs_11 rfl rfl ?_
    refine x_iload_n 0 d_X4_beliefs_12 rfl rfl ?_
    refine x_cvi (k := 41) (as := [.int (-1000006)]) (c_X4_finds l E μ (i := 5) hD (by decide) (w := (-1000006)) (by decide)) v_X4_finds w_X4_finds q735 o_M rfl ⟨Nat.le_of_ble_eq_true rfl, Nat.le_of_ble_eq_true rfl⟩ rfl (Nat.le_of_ble_eq_true rfl) d_X4_beliefs_13 ?_
    rintro _ μ9 ⟨rfl, hD10, hF11⟩
    have hR12 := MR.cg hR (μ' := μ9) (fun id hid => (hF11 _ (by omega)))
    have hX13 := MX.cg hX (μ' := μ9) (fun id hid => (hF11 _ (by omega)))
    have hF14 : ∀ id, id < 41 → μ9 id = μ id := fun id hid => (show μ9 id = μ id from (hF11 _ (by omega))).trans (hF id hid)
    refine x_iret rfl d_X4_beliefs_16 ?_
    have e9 : F_beliefs g (nI y) p = fin g 5 := by simp [F_beliefs, x_b_f, x_b_t, ksh, kbt, nI_clamp (n := y) (by omega), shO]
    rw [e9]
    exact ⟨rfl, MS.fin hR12 hX13 hD10, hF14⟩
  · rw [ewy]
    have hz_y := hI.2.2.2.2.1 y (by omega)
    refine x_istore_n [(3, .int (-1000001)), (0, .ref (E.1 + 41)), (1, .int (nI y)), (2, .int p)] d_X4_beliefs_6 rfl (Nat.le_of_ble_eq_true rfl) rfl ?_
    refine x_iload_n 0 d_X4_beliefs_7 rfl rfl ?_
    refine x_if_eq 17 d_X4_beliefs_8 (by decide) (fun c15 => ?_) (fun c15 => ?_)
    · exact absurd c15 (by decide)
    refine x_aload_n 1 d_X4_beliefs_11 rfl rfl ?_
    refine x_iload_n 0 d_X4_beliefs_12 rfl rfl ?_
    refine x_cvi (k := 41) (as := [.int (-1000001)]) (c_X4_finds l E μ (i := 0) hD (by decide) (w := (-1000001)) (by decide)) v_X4_finds w_X4_finds q735 o_M rfl ⟨Nat.le_of_ble_eq_true rfl, Nat.le_of_ble_eq_true rfl⟩ rfl (Nat.le_of_ble_eq_true rfl) d_X4_beliefs_13 ?_
    rintro _ μ16 ⟨rfl, hD17, hF18⟩
    have hR19 := MR.cg hR (μ' := μ16) (fun id hid => (hF18 _ (by omega)))
    have hX20 := MX.cg hX (μ' := μ16) (fun id hid => (hF18 _ (by omega)))
    have hF21 : ∀ id, id < 41 → μ16 id = μ id := fun id hid => (show μ16 id = μ id from (hF18 _ (by omega))).trans (hF id hid)
    refine x_iret rfl d_X4_beliefs_16 ?_
    have e9 : F_beliefs g (nI y) p = fin g 0 := by simp [F_beliefs, x_b_f, x_b_t, ksh, kbt, kip, nI_clamp (n := y) (by omega), shO]
    rw [e9]
    exact ⟨rfl, MS.fin hR19 hX20 hD17, hF21⟩
  · rw [ewy]
    have hz_y := hI.2.2.2.2.1 y (by omega)
    refine x_istore_n [(3, .int 0), (0, .ref (E.1 + 41)), (1, .int (nI y)), (2, .int (nI q))] d_X4_beliefs_6 rfl (Nat.le_of_ble_eq_true rfl) rfl ?_
    refine x_iload_n 0 d_X4_beliefs_7 rfl rfl ?_
    refine x_if_eq 17 d_X4_beliefs_8 (by decide) (fun c22 => ?_) (fun c22 => ?_)
    rotate_left
    · exact absurd c22 (by decide)
    refine x_aload_n 1 d_X4_beliefs_17 rfl rfl ?_
    refine x_cvv (k := 41) (as := []) (c_X4_thinks l E μ hR) v_X4_thinks w_X4_thinks q859 o_M rfl ⟨Nat.le_of_ble_eq_true rfl, Nat.le_of_ble_eq_true rfl⟩ rfl (Nat.le_of_ble_eq_true rfl) d_X4_beliefs_18 ?_
    rintro μ23 ⟨hW24, hF25⟩
    have hR26 := MR.cg hR (μ' := μ23) (fun id hid => (hF25 _ (by omega)))
    have hX27 := MX.cg hX (μ' := μ23) (fun id hid => (hF25 _ (by omega)))
    have hD28 := MD.cg hD (μ' := μ23) (fun id hid => (hF25 _ (by omega)))
    have hF29 : ∀ id, id < 41 → μ23 id = μ id := fun id hid => (show μ23 id = μ id from (hF25 _ (by omega))).trans (hF id hid)
    refine x_iconst (x := 0) d_X4_beliefs_21 (by decide) ?_
    refine x_istore [(4, .int 0), (3, .int 0), (0, .ref (E.1 + 41)), (1, .int (nI y)), (2, .int (nI q))] d_X4_beliefs_22 (Nat.le_of_ble_eq_true rfl) rfl ?_
    refine x_iconst (x := 0) d_X4_beliefs_24 (by decide) ?_
    refine x_istore [(5, .int 0), (4, .int 0), (3, .int 0), (0, .ref (E.1 + 41)), (1, .int (nI y)), (2, .int (nI q))] d_X4_beliefs_25 (Nat.le_of_ble_eq_true rfl) rfl ?_
    have L30 : ∀ i : Nat, i ≤ 100 → ∀ r : Int32, ∀ μ33 : x_Mem, (r = cntTo 0 (fun k => fitsB (upd (gA g) (24 + 3 * q + 2) (nI k)) (gSn g y) true (gSz g y)) i) → (MR (gA g) μ33) → (MW (gA g) μ33) → (MX g μ33) → (MD (gF g) μ33) → (∀ id, id < 41 → μ33 id = μ id) → x_G l E m_X4_beliefs (x_mv E m_X4_beliefs (x_I (fun z m => z = (F_beliefs g (nI y) (nI q)).1 ∧ MS (F_beliefs g (nI y) (nI q)).2 m ∧ ∀ id, id < 41 → m id = μ id))) μ33 27 [(5, .int (nI i)), (4, .int r), (0, .ref (E.1 + 41)), (1, .int (nI y)), (2, .int (nI q))] [] := by
      refine x_down _ 100 (fun i hi32 ih31 => ?_)
      intro r μ33 hr hR1 hW1 hX1 hD1 hF1
      refine x_iload 0 d_X4_beliefs_27 rfl ?_
      refine x_bipush (x := 99) d_X4_beliefs_29 (by decide) ?_
      refine x_icmp_gt 67 d_X4_beliefs_31 (by decide) (fun c34 => ?_) (fun c34 => ?_)
      · skip
        have hN := (nI_ltI (a := 99) (b := i) (by omega) (by omega)).mp c34
        refine x_iload 1 d_X4_beliefs_67 rfl ?_
        refine x_iret rfl d_X4_beliefs_69 ?_
        have e7 : i = 100 := by omega
        subst e7
        subst hr
        have e9 : F_beliefs g (nI y) (nI q) = (cntTo 0 (fun k => fitsB (upd (gA g) (24 + 3 * q + 2) (nI k)) (gSn g y) true (gSz g y)) 100, g) := by simp [F_beliefs, x_b_f, x_b_t, ksh, kbt, kip, nI_clamp (n := y) (by omega), nI_clamp (n := q) (by omega), shO]
        rw [e9]
        exact ⟨rfl, ⟨hR1, hX1, hD1⟩, hF1⟩
      · skip
        have hN : ¬ 99 < i := fun z => c34 (nI_lt z (by omega))
        refine x_aload_n 2 d_X4_beliefs_34 rfl rfl ?_
        refine x_iload_n 4 d_X4_beliefs_35 rfl rfl ?_
        refine x_iconst (x := 2) d_X4_beliefs_36 (by decide) ?_
        refine x_iload 0 d_X4_beliefs_37 rfl ?_
        refine x_cvv (k := 41) (as := [.int (nI q), .int 2, .int (nI i)]) (c_X4_put l E μ33 (p := q) (w := 2) (j := 24 + 3 * q + 2) rfl (by omega) (nI i)) v_X4_put w_X4_put q783 o_M rfl ⟨Nat.le_of_ble_eq_true rfl, Nat.le_of_ble_eq_true rfl⟩ rfl (Nat.le_of_ble_eq_true rfl) d_X4_beliefs_39 ?_
        intro μ35 eμ35
        have hR36 : MR (upd (gA g) (24 + 3 * q + 2) (nI i)) μ35 := MR.w hR1 eμ35
        have hX37 := MX.cg hX1 (μ' := μ35) (fun id hid => (by rw [eμ35, upd2_ne _ _ _ (by omega)]))
        have hD38 := MD.cg hD1 (μ' := μ35) (fun id hid => (by rw [eμ35, upd2_ne _ _ _ (by omega)]))
        have hF39 : ∀ id, id < 41 → μ35 id = μ id := fun id hid => (show μ35 id = μ33 id from (by rw [eμ35, upd2_ne _ _ _ (by omega)])).trans (hF1 id hid)
        have hW40 := MW.cg hW1 (μ' := μ35) (fun id hid => (by rw [eμ35, upd2_ne _ _ _ (by omega)]))
        refine x_iload 1 d_X4_beliefs_42 rfl ?_
        refine x_aload_n 2 d_X4_beliefs_44 rfl rfl ?_
        refine x_iload_n 3 d_X4_beliefs_45 rfl rfl ?_
        refine x_iconst (x := 1) d_X4_beliefs_46 (by decide) ?_
        refine x_cvi (k := 41) (as := [.int (nI y), .int (x_b true)]) (c_X4_wrongIn l E μ35 hR36 (hWF.upB (p := q) (k := i) (by omega) (by omega)) hX37 hW40 (y := y) (by omega) (by omega) true) v_X4_wrongIn w_X4_wrongIn q965 o_M rfl ⟨Nat.le_of_ble_eq_true rfl, Nat.le_of_ble_eq_true rfl⟩ rfl (Nat.le_of_ble_eq_true rfl) d_X4_beliefs_47 ?_
        rintro _ μ41 ⟨rfl, hR42, hW43, hF44⟩
        have hX45 := MX.cg hX37 (μ' := μ41) (fun id hid => (hF44 _ (by omega)))
        have hD46 := MD.cg hD38 (μ' := μ41) (fun id hid => (hF44 _ (by omega)))
        have hF47 : ∀ id, id < 41 → μ41 id = μ id := fun id hid => (show μ41 id = μ35 id from (hF44 _ (by omega))).trans (hF39 id hid)
        refine x_if_ge 57 d_X4_beliefs_50 (by decide) (fun c48 => ?_) (fun c48 => ?_)
        · skip
          refine x_iconst (x := 0) d_X4_beliefs_57 (by decide) ?_
          refine x_iadd d_X4_beliefs_58 ?_
          refine x_istore [(4, .int (r + 0)), (5, .int (nI i)), (0, .ref (E.1 + 41)), (1, .int (nI y)), (2, .int (nI q))] d_X4_beliefs_59 (Nat.le_of_ble_eq_true rfl) rfl ?_
          refine x_iinc [(5, .int (nI (i + 1))), (4, .int (r + 0)), (0, .ref (E.1 + 41)), (1, .int (nI y)), (2, .int (nI q))] 1 d_X4_beliefs_61 rfl (x_inc _) (Nat.le_of_ble_eq_true rfl) rfl ?_
          refine x_goto 27 d_X4_beliefs_64 (by decide) ?_
          exact ih31 (i + 1) (by omega) (by omega) (r + 0) μ41 (by rw [hr, cntTo, if_neg (by rw [wr_not c48]; decide), Int32.add_zero]) hR42 hW43 hX45 hD46 hF47
        · skip
          refine x_iconst (x := 1) d_X4_beliefs_53 (by decide) ?_
          refine x_goto 58 d_X4_beliefs_54 (by decide) ?_
          refine x_iadd d_X4_beliefs_58 ?_
          refine x_istore [(4, .int (r + 1)), (5, .int (nI i)), (0, .ref (E.1 + 41)), (1, .int (nI y)), (2, .int (nI q))] d_X4_beliefs_59 (Nat.le_of_ble_eq_true rfl) rfl ?_
          refine x_iinc [(5, .int (nI (i + 1))), (4, .int (r + 1)), (0, .ref (E.1 + 41)), (1, .int (nI y)), (2, .int (nI q))] 1 d_X4_beliefs_61 rfl (x_inc _) (Nat.le_of_ble_eq_true rfl) rfl ?_
          refine x_goto 27 d_X4_beliefs_64 (by decide) ?_
          exact ih31 (i + 1) (by omega) (by omega) (r + 1) μ41 (by rw [hr, cntTo, if_pos (wr_fit hz_y c48)]) hR42 hW43 hX45 hD46 hF47
    refine x_lv [0, 1, 3, 4, 5] rfl ?_
    exact L30 0 (by omega) 0 μ23 (by rfl) hR26 hW24 hX27 hD28 hF29
def m_X4_least : x_M := (yX4_least, prog_6_method_66_code, 5, (some FieldType.int), 9, 204)
theorem v_X4_least : x_VM m_X4_least 2 := ⟨q976, q6, by decide +kernel, by decide +kernel, by decide +kernel⟩
theorem w_X4_least : x_VI m_X4_least := ⟨q974, q975⟩
theorem d_X4_least_0 : x_dec m_X4_least 0 (.aload_n 0) 1 1 := ⟨by decide +kernel, rfl⟩
theorem d_X4_least_1 : x_dec m_X4_least 1 (.iload_n 1) 1 2 := ⟨by decide +kernel, rfl⟩
theorem d_X4_least_2 : x_dec m_X4_least 2 (.iload_n 2) 1 3 := ⟨by decide +kernel, rfl⟩
theorem d_X4_least_3 : x_dec m_X4_least 3 (.invokevirtual 165) 3 6 := ⟨by decide +kernel, rfl⟩
theorem d_X4_least_6 : x_dec m_X4_least 6 (.istore_n 3) 1 7 := ⟨by decide +kernel, rfl⟩
theorem d_X4_least_7 : x_dec m_X4_least 7 (.iload_n 3) 1 8 := ⟨by decide +kernel, rfl⟩
theorem d_X4_least_8 : x_dec m_X4_least 8 (.ifCond .eq 9) 3 11 := ⟨by decide +kernel, rfl⟩
theorem d_X4_least_11 : x_dec m_X4_least 11 (.aload_n 0) 1 12 := ⟨by decide +kernel, rfl⟩
theorem d_X4_least_12 : x_dec m_X4_least 12 (.iload_n 3) 1 13 := ⟨by decide +kernel, rfl⟩
theorem d_X4_least_13 : x_dec m_X4_least 13 (.invokevirtual 42) 3 16 := ⟨by decide +kernel, rfl⟩
theorem d_X4_least_16 : x_dec m_X4_least 16 (.ireturn) 1 17 := ⟨by decide +kernel, rfl⟩
theorem d_X4_least_17 : x_dec m_X4_least 17 (.aload_n 0) 1 18 := ⟨by decide +kernel, rfl⟩
theorem d_X4_least_18 : x_dec m_X4_least 18 (.invokevirtual 134) 3 21 := ⟨by decide +kernel, rfl⟩
theorem d_X4_least_21 : x_dec m_X4_least 21 (.iconst 0) 1 22 := ⟨by decide +kernel, rfl⟩
theorem d_X4_least_22 : x_dec m_X4_least 22 (.istore 4) 2 24 := ⟨by decide +kernel, rfl⟩
theorem d_X4_least_24 : x_dec m_X4_least 24 (.iload 4) 2 26 := ⟨by decide +kernel, rfl⟩
theorem d_X4_least_26 : x_dec m_X4_least 26 (.bipush 99) 2 28 := ⟨by decide +kernel, rfl⟩
theorem d_X4_least_28 : x_dec m_X4_least 28 (.if_icmp .gt 29) 3 31 := ⟨by decide +kernel, rfl⟩
theorem d_X4_least_31 : x_dec m_X4_least 31 (.aload_n 0) 1 32 := ⟨by decide +kernel, rfl⟩
theorem d_X4_least_32 : x_dec m_X4_least 32 (.iload_n 2) 1 33 := ⟨by decide +kernel, rfl⟩
theorem d_X4_least_33 : x_dec m_X4_least 33 (.iconst 2) 1 34 := ⟨by decide +kernel, rfl⟩
theorem d_X4_least_34 : x_dec m_X4_least 34 (.iload 4) 2 36 := ⟨by decide +kernel, rfl⟩
theorem d_X4_least_36 : x_dec m_X4_least 36 (.invokevirtual 84) 3 39 := ⟨by decide +kernel, rfl⟩
theorem d_X4_least_39 : x_dec m_X4_least 39 (.aload_n 0) 1 40 := ⟨by decide +kernel, rfl⟩
theorem d_X4_least_40 : x_dec m_X4_least 40 (.iload_n 1) 1 41 := ⟨by decide +kernel, rfl⟩
theorem d_X4_least_41 : x_dec m_X4_least 41 (.iconst 1) 1 42 := ⟨by decide +kernel, rfl⟩
theorem d_X4_least_42 : x_dec m_X4_least 42 (.invokevirtual 168) 3 45 := ⟨by decide +kernel, rfl⟩
theorem d_X4_least_45 : x_dec m_X4_least 45 (.ifCond .ge 6) 3 48 := ⟨by decide +kernel, rfl⟩
theorem d_X4_least_48 : x_dec m_X4_least 48 (.iload 4) 2 50 := ⟨by decide +kernel, rfl⟩
theorem d_X4_least_50 : x_dec m_X4_least 50 (.ireturn) 1 51 := ⟨by decide +kernel, rfl⟩
theorem d_X4_least_51 : x_dec m_X4_least 51 (.iinc 4 1) 3 54 := ⟨by decide +kernel, rfl⟩
theorem d_X4_least_54 : x_dec m_X4_least 54 (.goto (-30)) 3 57 := ⟨by decide +kernel, rfl⟩
theorem d_X4_least_57 : x_dec m_X4_least 57 (.aload_n 0) 1 58 := ⟨by decide +kernel, rfl⟩
theorem d_X4_least_58 : x_dec m_X4_least 58 (.ldc 41) 2 60 := ⟨by decide +kernel, rfl⟩
theorem d_X4_least_60 : x_dec m_X4_least 60 (.invokevirtual 42) 3 63 := ⟨by decide +kernel, rfl⟩
theorem d_X4_least_63 : x_dec m_X4_least 63 (.ireturn) 1 64 := ⟨by decide +kernel, rfl⟩
set_option maxHeartbeats 4000000 in
set_option maxRecDepth 100000 in
theorem c_X4_least (l : Launch) (E : x_E) (μ : x_Mem) (g : x_SG) (hS : MS g μ) (hI : Inv g) (s p : Int32) : x_Met l m_X4_least E [.ref (E.1 + 41), .int s, .int p] μ (x_I (fun z m => z = (F_least g s p).1 ∧ MS (F_least g s p).2 m ∧ ∀ id, id < 41 → m id = μ id)) := by
  obtain ⟨hR, hX, hD⟩ := hS
  have hWF := hI.1.1
  have hn7 := hWF.2.1
  have hpn := hWF.1
  have hF : ∀ id, id < 41 → μ id = μ id := fun _ _ => rfl
  refine x_enter (lv := [(0, .ref (E.1 + 41)), (1, .int s), (2, .int p)]) (by decide +kernel) (Nat.le_of_ble_eq_true rfl) rfl ?_
  refine x_aload_n 0 d_X4_least_0 rfl rfl ?_
  refine x_iload_n 1 d_X4_least_1 rfl rfl ?_
  refine x_iload_n 2 d_X4_least_2 rfl rfl ?_
  refine x_cvip (k := 41) (as := [.int s, .int p]) (c_X4_notAsked l E μ hR hWF hX s p) v_X4_notAsked w_X4_notAsked q953 o_M rfl ⟨Nat.le_of_ble_eq_true rfl, Nat.le_of_ble_eq_true rfl⟩ rfl (Nat.le_of_ble_eq_true rfl) d_X4_least_3 ?_
  rcases ask_cases hWF s p with ⟨ksh, ewy⟩ | ⟨y, hy, rfl, ksh, kbt, ewy⟩ | ⟨y, hy, rfl, ksh, kbt, kip, ewy⟩ | ⟨y, hy, rfl, ksh, kbt, q, hq, rfl, kip, ewy⟩
  · rw [ewy]
    refine x_istore_n [(3, .int (-1000001)), (0, .ref (E.1 + 41)), (1, .int s), (2, .int p)] d_X4_least_6 rfl (Nat.le_of_ble_eq_true rfl) rfl ?_
    refine x_iload_n 0 d_X4_least_7 rfl rfl ?_
    refine x_if_eq 17 d_X4_least_8 (by decide) (fun c1 => ?_) (fun c1 => ?_)
    · exact absurd c1 (by decide)
    refine x_aload_n 1 d_X4_least_11 rfl rfl ?_
    refine x_iload_n 0 d_X4_least_12 rfl rfl ?_
    refine x_cvi (k := 41) (as := [.int (-1000001)]) (c_X4_finds l E μ (i := 0) hD (by decide) (w := (-1000001)) (by decide)) v_X4_finds w_X4_finds q735 o_M rfl ⟨Nat.le_of_ble_eq_true rfl, Nat.le_of_ble_eq_true rfl⟩ rfl (Nat.le_of_ble_eq_true rfl) d_X4_least_13 ?_
    rintro _ μ2 ⟨rfl, hD3, hF4⟩
    have hR5 := MR.cg hR (μ' := μ2) (fun id hid => (hF4 _ (by omega)))
    have hX6 := MX.cg hX (μ' := μ2) (fun id hid => (hF4 _ (by omega)))
    have hF7 : ∀ id, id < 41 → μ2 id = μ id := fun id hid => (show μ2 id = μ id from (hF4 _ (by omega))).trans (hF id hid)
    refine x_iret rfl d_X4_least_16 ?_
    have e9 : F_least g s p = fin g 0 := by simp [F_least, x_b_f, x_b_t, ksh, shO]
    rw [e9]
    exact ⟨rfl, MS.fin hR5 hX6 hD3, hF7⟩
  · rw [ewy]
    have hz_y := hI.2.2.2.2.1 y (by omega)
    refine x_istore_n [(3, .int (-1000006)), (0, .ref (E.1 + 41)), (1, .int (nI y)), (2, .int p)] d_X4_least_6 rfl (Nat.le_of_ble_eq_true rfl) rfl ?_
    refine x_iload_n 0 d_X4_least_7 rfl rfl ?_
    refine x_if_eq 17 d_X4_least_8 (by decide) (fun c8 => ?_) (fun c8 => ?_)
    · exact absurd c8 (by decide)
    refine x_aload_n 1 d_X4_least_11 rfl rfl ?_
    refine x_iload_n 0 d_X4_least_12 rfl rfl ?_
    refine x_cvi (k := 41) (as := [.int (-1000006)]) (c_X4_finds l E μ (i := 5) hD (by decide) (w := (-1000006)) (by decide)) v_X4_finds w_X4_finds q735 o_M rfl ⟨Nat.le_of_ble_eq_true rfl, Nat.le_of_ble_eq_true rfl⟩ rfl (Nat.le_of_ble_eq_true rfl) d_X4_least_13 ?_
    rintro _ μ9 ⟨rfl, hD10, hF11⟩
    have hR12 := MR.cg hR (μ' := μ9) (fun id hid => (hF11 _ (by omega)))
    have hX13 := MX.cg hX (μ' := μ9) (fun id hid => (hF11 _ (by omega)))
    have hF14 : ∀ id, id < 41 → μ9 id = μ id := fun id hid => (show μ9 id = μ id from (hF11 _ (by omega))).trans (hF id hid)
    refine x_iret rfl d_X4_least_16 ?_
    have e9 : F_least g (nI y) p = fin g 5 := by simp [F_least, x_b_f, x_b_t, ksh, kbt, nI_clamp (n := y) (by omega), shO]
    rw [e9]
    exact ⟨rfl, MS.fin hR12 hX13 hD10, hF14⟩
  · rw [ewy]
    have hz_y := hI.2.2.2.2.1 y (by omega)
    refine x_istore_n [(3, .int (-1000001)), (0, .ref (E.1 + 41)), (1, .int (nI y)), (2, .int p)] d_X4_least_6 rfl (Nat.le_of_ble_eq_true rfl) rfl ?_
    refine x_iload_n 0 d_X4_least_7 rfl rfl ?_
    refine x_if_eq 17 d_X4_least_8 (by decide) (fun c15 => ?_) (fun c15 => ?_)
    · exact absurd c15 (by decide)
    refine x_aload_n 1 d_X4_least_11 rfl rfl ?_
    refine x_iload_n 0 d_X4_least_12 rfl rfl ?_
    refine x_cvi (k := 41) (as := [.int (-1000001)]) (c_X4_finds l E μ (i := 0) hD (by decide) (w := (-1000001)) (by decide)) v_X4_finds w_X4_finds q735 o_M rfl ⟨Nat.le_of_ble_eq_true rfl, Nat.le_of_ble_eq_true rfl⟩ rfl (Nat.le_of_ble_eq_true rfl) d_X4_least_13 ?_
    rintro _ μ16 ⟨rfl, hD17, hF18⟩
    have hR19 := MR.cg hR (μ' := μ16) (fun id hid => (hF18 _ (by omega)))
    have hX20 := MX.cg hX (μ' := μ16) (fun id hid => (hF18 _ (by omega)))
    have hF21 : ∀ id, id < 41 → μ16 id = μ id := fun id hid => (show μ16 id = μ id from (hF18 _ (by omega))).trans (hF id hid)
    refine x_iret rfl d_X4_least_16 ?_
    have e9 : F_least g (nI y) p = fin g 0 := by simp [F_least, x_b_f, x_b_t, ksh, kbt, kip, nI_clamp (n := y) (by omega), shO]
    rw [e9]
    exact ⟨rfl, MS.fin hR19 hX20 hD17, hF21⟩
  · rw [ewy]
    have hz_y := hI.2.2.2.2.1 y (by omega)
    refine x_istore_n [(3, .int 0), (0, .ref (E.1 + 41)), (1, .int (nI y)), (2, .int (nI q))] d_X4_least_6 rfl (Nat.le_of_ble_eq_true rfl) rfl ?_
    refine x_iload_n 0 d_X4_least_7 rfl rfl ?_
    refine x_if_eq 17 d_X4_least_8 (by decide) (fun c22 => ?_) (fun c22 => ?_)
    rotate_left
    · exact absurd c22 (by decide)
    refine x_aload_n 1 d_X4_least_17 rfl rfl ?_
    refine x_cvv (k := 41) (as := []) (c_X4_thinks l E μ hR) v_X4_thinks w_X4_thinks q859 o_M rfl ⟨Nat.le_of_ble_eq_true rfl, Nat.le_of_ble_eq_true rfl⟩ rfl (Nat.le_of_ble_eq_true rfl) d_X4_least_18 ?_
    rintro μ23 ⟨hW24, hF25⟩
    have hR26 := MR.cg hR (μ' := μ23) (fun id hid => (hF25 _ (by omega)))
    have hX27 := MX.cg hX (μ' := μ23) (fun id hid => (hF25 _ (by omega)))
    have hD28 := MD.cg hD (μ' := μ23) (fun id hid => (hF25 _ (by omega)))
    have hF29 : ∀ id, id < 41 → μ23 id = μ id := fun id hid => (show μ23 id = μ id from (hF25 _ (by omega))).trans (hF id hid)
    refine x_iconst (x := 0) d_X4_least_21 (by decide) ?_
    refine x_istore [(4, .int 0), (3, .int 0), (0, .ref (E.1 + 41)), (1, .int (nI y)), (2, .int (nI q))] d_X4_least_22 (Nat.le_of_ble_eq_true rfl) rfl ?_
    have L30 : ∀ i : Nat, i ≤ 100 → ∀ μ33 : x_Mem, (MR (gA g) μ33) → (MW (gA g) μ33) → (MX g μ33) → (MD (gF g) μ33) → (∀ id, id < 41 → μ33 id = μ id) → (∀ j, j < i → (fun k => fitsB (upd (gA g) (24 + 3 * q + 2) (nI k)) (gSn g y) true (gSz g y)) j = false) → x_G l E m_X4_least (x_mv E m_X4_least (x_I (fun z m => z = (F_least g (nI y) (nI q)).1 ∧ MS (F_least g (nI y) (nI q)).2 m ∧ ∀ id, id < 41 → m id = μ id))) μ33 24 [(4, .int (nI i)), (0, .ref (E.1 + 41)), (1, .int (nI y)), (2, .int (nI q))] [] := by
      refine x_down _ 100 (fun i hi32 ih31 => ?_)
      intro μ33 hR1 hW1 hX1 hD1 hF1 hq1
      refine x_iload 0 d_X4_least_24 rfl ?_
      refine x_bipush (x := 99) d_X4_least_26 (by decide) ?_
      refine x_icmp_gt 57 d_X4_least_28 (by decide) (fun c34 => ?_) (fun c34 => ?_)
      · skip
        have hN := (nI_ltI (a := 99) (b := i) (by omega) (by omega)).mp c34
        refine x_aload_n 1 d_X4_least_57 rfl rfl ?_
        refine x_ldc q885 d_X4_least_58 ?_
        refine x_cvi (k := 41) (as := [.int (-1000004)]) (c_X4_finds l E μ33 (i := 3) hD1 (by decide) (w := (-1000004)) (by decide)) v_X4_finds w_X4_finds q735 o_M rfl ⟨Nat.le_of_ble_eq_true rfl, Nat.le_of_ble_eq_true rfl⟩ rfl (Nat.le_of_ble_eq_true rfl) d_X4_least_60 ?_
        rintro _ μ35 ⟨rfl, hD36, hF37⟩
        have hR38 := MR.cg hR1 (μ' := μ35) (fun id hid => (hF37 _ (by omega)))
        have hX39 := MX.cg hX1 (μ' := μ35) (fun id hid => (hF37 _ (by omega)))
        have hF40 : ∀ id, id < 41 → μ35 id = μ id := fun id hid => (show μ35 id = μ33 id from (hF37 _ (by omega))).trans (hF1 id hid)
        have hW41 := MW.cg hW1 (μ' := μ35) (fun id hid => (hF37 _ (by omega)))
        refine x_iret rfl d_X4_least_63 ?_
        have e7 : i = 100 := by omega
        subst e7
        have e8 := firstN_none hq1
        have e9 : F_least g (nI y) (nI q) = fin g 3 := by simp [F_least, x_b_f, x_b_t, ksh, kbt, kip, nI_clamp (n := y) (by omega), nI_clamp (n := q) (by omega), shO, e8, orN]
        rw [e9]
        exact ⟨rfl, MS.fin hR38 hX39 hD36, hF40⟩
      · skip
        have hN : ¬ 99 < i := fun z => c34 (nI_lt z (by omega))
        refine x_aload_n 1 d_X4_least_31 rfl rfl ?_
        refine x_iload_n 3 d_X4_least_32 rfl rfl ?_
        refine x_iconst (x := 2) d_X4_least_33 (by decide) ?_
        refine x_iload 0 d_X4_least_34 rfl ?_
        refine x_cvv (k := 41) (as := [.int (nI q), .int 2, .int (nI i)]) (c_X4_put l E μ33 (p := q) (w := 2) (j := 24 + 3 * q + 2) rfl (by omega) (nI i)) v_X4_put w_X4_put q783 o_M rfl ⟨Nat.le_of_ble_eq_true rfl, Nat.le_of_ble_eq_true rfl⟩ rfl (Nat.le_of_ble_eq_true rfl) d_X4_least_36 ?_
        intro μ42 eμ42
        have hR43 : MR (upd (gA g) (24 + 3 * q + 2) (nI i)) μ42 := MR.w hR1 eμ42
        have hX44 := MX.cg hX1 (μ' := μ42) (fun id hid => (by rw [eμ42, upd2_ne _ _ _ (by omega)]))
        have hD45 := MD.cg hD1 (μ' := μ42) (fun id hid => (by rw [eμ42, upd2_ne _ _ _ (by omega)]))
        have hF46 : ∀ id, id < 41 → μ42 id = μ id := fun id hid => (show μ42 id = μ33 id from (by rw [eμ42, upd2_ne _ _ _ (by omega)])).trans (hF1 id hid)
        have hW47 := MW.cg hW1 (μ' := μ42) (fun id hid => (by rw [eμ42, upd2_ne _ _ _ (by omega)]))
        refine x_aload_n 1 d_X4_least_39 rfl rfl ?_
        refine x_iload_n 2 d_X4_least_40 rfl rfl ?_
        refine x_iconst (x := 1) d_X4_least_41 (by decide) ?_
        refine x_cvi (k := 41) (as := [.int (nI y), .int (x_b true)]) (c_X4_wrongIn l E μ42 hR43 (hWF.upB (p := q) (k := i) (by omega) (by omega)) hX44 hW47 (y := y) (by omega) (by omega) true) v_X4_wrongIn w_X4_wrongIn q965 o_M rfl ⟨Nat.le_of_ble_eq_true rfl, Nat.le_of_ble_eq_true rfl⟩ rfl (Nat.le_of_ble_eq_true rfl) d_X4_least_42 ?_
        rintro _ μ48 ⟨rfl, hR49, hW50, hF51⟩
        have hX52 := MX.cg hX44 (μ' := μ48) (fun id hid => (hF51 _ (by omega)))
        have hD53 := MD.cg hD45 (μ' := μ48) (fun id hid => (hF51 _ (by omega)))
        have hF54 : ∀ id, id < 41 → μ48 id = μ id := fun id hid => (show μ48 id = μ42 id from (hF51 _ (by omega))).trans (hF46 id hid)
        refine x_if_ge 51 d_X4_least_45 (by decide) (fun c55 => ?_) (fun c55 => ?_)
        · skip
          refine x_iinc [(4, .int (nI (i + 1))), (0, .ref (E.1 + 41)), (1, .int (nI y)), (2, .int (nI q))] 0 d_X4_least_51 rfl (x_inc _) (Nat.le_of_ble_eq_true rfl) rfl ?_
          refine x_goto 24 d_X4_least_54 (by decide) ?_
          exact ih31 (i + 1) (by omega) (by omega) μ48 hR49 hW50 hX52 hD53 hF54 (lt_s hq1 (wr_not c55))
        · skip
          refine x_iload 0 d_X4_least_48 rfl ?_
          refine x_iret rfl d_X4_least_50 ?_
          have e8 := firstN_some (f := (fun k => fitsB (upd (gA g) (24 + 3 * q + 2) (nI k)) (gSn g y) true (gSz g y))) (n := 100) (i := i) (by omega) (wr_fit hz_y c55) hq1
          have e9 : F_least g (nI y) (nI q) = (nI i, g) := by simp [F_least, x_b_f, x_b_t, ksh, kbt, kip, nI_clamp (n := y) (by omega), nI_clamp (n := q) (by omega), shO, e8, orN, show i < 100 by omega]
          rw [e9]
          exact ⟨rfl, ⟨hR49, hX52, hD53⟩, hF54⟩
    refine x_lv [0, 2, 3, 4] rfl ?_
    exact L30 0 (by omega) μ23 hR26 hW24 hX27 hD28 hF29 (fun _ h => absurd h (Nat.not_lt_zero _))
def m_X4_judge : x_M := (yX4_judge, prog_6_method_96_code, 3, (some FieldType.int), 9, 204)
theorem v_X4_judge : x_VM m_X4_judge 1 := ⟨q1102, q6, by decide +kernel, by decide +kernel, by decide +kernel⟩
theorem w_X4_judge : x_VI m_X4_judge := ⟨q1100, q1101⟩
theorem d_X4_judge_0 : x_dec m_X4_judge 0 (.aload_n 0) 1 1 := ⟨by decide +kernel, rfl⟩
theorem d_X4_judge_1 : x_dec m_X4_judge 1 (.iload_n 1) 1 2 := ⟨by decide +kernel, rfl⟩
theorem d_X4_judge_2 : x_dec m_X4_judge 2 (.invokevirtual 162) 3 5 := ⟨by decide +kernel, rfl⟩
theorem d_X4_judge_5 : x_dec m_X4_judge 5 (.istore_n 2) 1 6 := ⟨by decide +kernel, rfl⟩
theorem d_X4_judge_6 : x_dec m_X4_judge 6 (.iload_n 2) 1 7 := ⟨by decide +kernel, rfl⟩
theorem d_X4_judge_7 : x_dec m_X4_judge 7 (.ifCond .eq 9) 3 10 := ⟨by decide +kernel, rfl⟩
theorem d_X4_judge_10 : x_dec m_X4_judge 10 (.aload_n 0) 1 11 := ⟨by decide +kernel, rfl⟩
theorem d_X4_judge_11 : x_dec m_X4_judge 11 (.iload_n 2) 1 12 := ⟨by decide +kernel, rfl⟩
theorem d_X4_judge_12 : x_dec m_X4_judge 12 (.invokevirtual 42) 3 15 := ⟨by decide +kernel, rfl⟩
theorem d_X4_judge_15 : x_dec m_X4_judge 15 (.ireturn) 1 16 := ⟨by decide +kernel, rfl⟩
theorem d_X4_judge_16 : x_dec m_X4_judge 16 (.aload_n 0) 1 17 := ⟨by decide +kernel, rfl⟩
theorem d_X4_judge_17 : x_dec m_X4_judge 17 (.invokevirtual 134) 3 20 := ⟨by decide +kernel, rfl⟩
theorem d_X4_judge_20 : x_dec m_X4_judge 20 (.iconst 1) 1 21 := ⟨by decide +kernel, rfl⟩
theorem d_X4_judge_21 : x_dec m_X4_judge 21 (.aload_n 0) 1 22 := ⟨by decide +kernel, rfl⟩
theorem d_X4_judge_22 : x_dec m_X4_judge 22 (.iload_n 1) 1 23 := ⟨by decide +kernel, rfl⟩
theorem d_X4_judge_23 : x_dec m_X4_judge 23 (.iconst 0) 1 24 := ⟨by decide +kernel, rfl⟩
theorem d_X4_judge_24 : x_dec m_X4_judge 24 (.invokevirtual 168) 3 27 := ⟨by decide +kernel, rfl⟩
theorem d_X4_judge_27 : x_dec m_X4_judge 27 (.iadd) 1 28 := ⟨by decide +kernel, rfl⟩
theorem d_X4_judge_28 : x_dec m_X4_judge 28 (.ireturn) 1 29 := ⟨by decide +kernel, rfl⟩
set_option maxHeartbeats 4000000 in
set_option maxRecDepth 100000 in
theorem c_X4_judge (l : Launch) (E : x_E) (μ : x_Mem) (g : x_SG) (hS : MS g μ) (hI : Inv g) (s : Int32) : x_Met l m_X4_judge E [.ref (E.1 + 41), .int s] μ (x_I (fun z m => z = (F_judge g s).1 ∧ MS (F_judge g s).2 m ∧ ∀ id, id < 41 → m id = μ id)) := by
  obtain ⟨hR, hX, hD⟩ := hS
  have hWF := hI.1.1
  have hn7 := hWF.2.1
  have hpn := hWF.1
  have hF : ∀ id, id < 41 → μ id = μ id := fun _ _ => rfl
  refine x_enter (lv := [(0, .ref (E.1 + 41)), (1, .int s)]) (by decide +kernel) (Nat.le_of_ble_eq_true rfl) rfl ?_
  refine x_aload_n 0 d_X4_judge_0 rfl rfl ?_
  refine x_iload_n 1 d_X4_judge_1 rfl rfl ?_
  refine x_cvip (k := 41) (as := [.int s]) (c_X4_notThere l E μ hX s) v_X4_notThere w_X4_notThere q957 o_M rfl ⟨Nat.le_of_ble_eq_true rfl, Nat.le_of_ble_eq_true rfl⟩ rfl (Nat.le_of_ble_eq_true rfl) d_X4_judge_2 ?_
  rcases why_cases g s with ⟨ksh, ewy⟩ | ⟨y, hy, rfl, ksh, kbt, ewy⟩ | ⟨y, hy, rfl, ksh, kbt, ewy⟩
  · rw [ewy]
    refine x_istore_n [(2, .int (-1000001)), (0, .ref (E.1 + 41)), (1, .int s)] d_X4_judge_5 rfl (Nat.le_of_ble_eq_true rfl) rfl ?_
    refine x_iload_n 0 d_X4_judge_6 rfl rfl ?_
    refine x_if_eq 16 d_X4_judge_7 (by decide) (fun c1 => ?_) (fun c1 => ?_)
    · exact absurd c1 (by decide)
    refine x_aload_n 1 d_X4_judge_10 rfl rfl ?_
    refine x_iload_n 0 d_X4_judge_11 rfl rfl ?_
    refine x_cvi (k := 41) (as := [.int (-1000001)]) (c_X4_finds l E μ (i := 0) hD (by decide) (w := (-1000001)) (by decide)) v_X4_finds w_X4_finds q735 o_M rfl ⟨Nat.le_of_ble_eq_true rfl, Nat.le_of_ble_eq_true rfl⟩ rfl (Nat.le_of_ble_eq_true rfl) d_X4_judge_12 ?_
    rintro _ μ2 ⟨rfl, hD3, hF4⟩
    have hR5 := MR.cg hR (μ' := μ2) (fun id hid => (hF4 _ (by omega)))
    have hX6 := MX.cg hX (μ' := μ2) (fun id hid => (hF4 _ (by omega)))
    have hF7 : ∀ id, id < 41 → μ2 id = μ id := fun id hid => (show μ2 id = μ id from (hF4 _ (by omega))).trans (hF id hid)
    refine x_iret rfl d_X4_judge_15 ?_
    have e9 : F_judge g s = fin g 0 := by simp [F_judge, x_b_f, x_b_t, ksh, shO]
    rw [e9]
    exact ⟨rfl, MS.fin hR5 hX6 hD3, hF7⟩
  · rw [ewy]
    have hz_y := hI.2.2.2.2.1 y (by omega)
    refine x_istore_n [(2, .int (-1000006)), (0, .ref (E.1 + 41)), (1, .int (nI y))] d_X4_judge_5 rfl (Nat.le_of_ble_eq_true rfl) rfl ?_
    refine x_iload_n 0 d_X4_judge_6 rfl rfl ?_
    refine x_if_eq 16 d_X4_judge_7 (by decide) (fun c8 => ?_) (fun c8 => ?_)
    · exact absurd c8 (by decide)
    refine x_aload_n 1 d_X4_judge_10 rfl rfl ?_
    refine x_iload_n 0 d_X4_judge_11 rfl rfl ?_
    refine x_cvi (k := 41) (as := [.int (-1000006)]) (c_X4_finds l E μ (i := 5) hD (by decide) (w := (-1000006)) (by decide)) v_X4_finds w_X4_finds q735 o_M rfl ⟨Nat.le_of_ble_eq_true rfl, Nat.le_of_ble_eq_true rfl⟩ rfl (Nat.le_of_ble_eq_true rfl) d_X4_judge_12 ?_
    rintro _ μ9 ⟨rfl, hD10, hF11⟩
    have hR12 := MR.cg hR (μ' := μ9) (fun id hid => (hF11 _ (by omega)))
    have hX13 := MX.cg hX (μ' := μ9) (fun id hid => (hF11 _ (by omega)))
    have hF14 : ∀ id, id < 41 → μ9 id = μ id := fun id hid => (show μ9 id = μ id from (hF11 _ (by omega))).trans (hF id hid)
    refine x_iret rfl d_X4_judge_15 ?_
    have e9 : F_judge g (nI y) = fin g 5 := by simp [F_judge, x_b_f, x_b_t, ksh, kbt, nI_clamp (n := y) (by omega), shO]
    rw [e9]
    exact ⟨rfl, MS.fin hR12 hX13 hD10, hF14⟩
  · rw [ewy]
    have hz_y := hI.2.2.2.2.1 y (by omega)
    refine x_istore_n [(2, .int 0), (0, .ref (E.1 + 41)), (1, .int (nI y))] d_X4_judge_5 rfl (Nat.le_of_ble_eq_true rfl) rfl ?_
    refine x_iload_n 0 d_X4_judge_6 rfl rfl ?_
    refine x_if_eq 16 d_X4_judge_7 (by decide) (fun c15 => ?_) (fun c15 => ?_)
    rotate_left
    · exact absurd c15 (by decide)
    refine x_aload_n 1 d_X4_judge_16 rfl rfl ?_
    refine x_cvv (k := 41) (as := []) (c_X4_thinks l E μ hR) v_X4_thinks w_X4_thinks q859 o_M rfl ⟨Nat.le_of_ble_eq_true rfl, Nat.le_of_ble_eq_true rfl⟩ rfl (Nat.le_of_ble_eq_true rfl) d_X4_judge_17 ?_
    rintro μ16 ⟨hW17, hF18⟩
    have hR19 := MR.cg hR (μ' := μ16) (fun id hid => (hF18 _ (by omega)))
    have hX20 := MX.cg hX (μ' := μ16) (fun id hid => (hF18 _ (by omega)))
    have hD21 := MD.cg hD (μ' := μ16) (fun id hid => (hF18 _ (by omega)))
    have hF22 : ∀ id, id < 41 → μ16 id = μ id := fun id hid => (show μ16 id = μ id from (hF18 _ (by omega))).trans (hF id hid)
    refine x_iconst (x := 1) d_X4_judge_20 (by decide) ?_
    refine x_aload_n 1 d_X4_judge_21 rfl rfl ?_
    refine x_iload_n 2 d_X4_judge_22 rfl rfl ?_
    refine x_iconst (x := 0) d_X4_judge_23 (by decide) ?_
    refine x_cvi (k := 41) (as := [.int (nI y), .int (x_b false)]) (c_X4_wrongIn l E μ16 hR19 hWF hX20 hW17 (y := y) (by omega) (by omega) false) v_X4_wrongIn w_X4_wrongIn q965 o_M rfl ⟨Nat.le_of_ble_eq_true rfl, Nat.le_of_ble_eq_true rfl⟩ rfl (Nat.le_of_ble_eq_true rfl) d_X4_judge_24 ?_
    rintro _ μ23 ⟨rfl, hR24, hW25, hF26⟩
    have hX27 := MX.cg hX20 (μ' := μ23) (fun id hid => (hF26 _ (by omega)))
    have hD28 := MD.cg hD21 (μ' := μ23) (fun id hid => (hF26 _ (by omega)))
    have hF29 : ∀ id, id < 41 → μ23 id = μ id := fun id hid => (show μ23 id = μ16 id from (hF26 _ (by omega))).trans (hF22 id hid)
    refine x_iadd d_X4_judge_27 ?_
    refine x_iret rfl d_X4_judge_28 ?_
    have e9 : F_judge g (nI y) = (1 + (wrongF (gA g) (gSn g y) false (gSz g y)), g) := by rw [judge_r]; simp [F_judge, shO, ksh, kbt, nI_clamp (n := y) (by omega)]
    rw [e9]
    exact ⟨rfl, ⟨hR24, hX27, hD28⟩, hF29⟩
def m_X4_load : x_M := (yX4_load, prog_6_method_95_code, 4, (some FieldType.int), 3, 63)
theorem v_X4_load : x_VM m_X4_load 1 := ⟨q1098, q6, by decide +kernel, by decide +kernel, by decide +kernel⟩
theorem w_X4_load : x_VI m_X4_load := ⟨q1096, q1097⟩
theorem d_X4_load_0 : x_dec m_X4_load 0 (.aload_n 0) 1 1 := ⟨by decide +kernel, rfl⟩
theorem d_X4_load_1 : x_dec m_X4_load 1 (.iload_n 1) 1 2 := ⟨by decide +kernel, rfl⟩
theorem d_X4_load_2 : x_dec m_X4_load 2 (.invokevirtual 162) 3 5 := ⟨by decide +kernel, rfl⟩
theorem d_X4_load_5 : x_dec m_X4_load 5 (.istore_n 2) 1 6 := ⟨by decide +kernel, rfl⟩
theorem d_X4_load_6 : x_dec m_X4_load 6 (.iload_n 2) 1 7 := ⟨by decide +kernel, rfl⟩
theorem d_X4_load_7 : x_dec m_X4_load 7 (.ifCond .eq 9) 3 10 := ⟨by decide +kernel, rfl⟩
theorem d_X4_load_10 : x_dec m_X4_load 10 (.aload_n 0) 1 11 := ⟨by decide +kernel, rfl⟩
theorem d_X4_load_11 : x_dec m_X4_load 11 (.iload_n 2) 1 12 := ⟨by decide +kernel, rfl⟩
theorem d_X4_load_12 : x_dec m_X4_load 12 (.invokevirtual 42) 3 15 := ⟨by decide +kernel, rfl⟩
theorem d_X4_load_15 : x_dec m_X4_load 15 (.ireturn) 1 16 := ⟨by decide +kernel, rfl⟩
theorem d_X4_load_16 : x_dec m_X4_load 16 (.iconst 0) 1 17 := ⟨by decide +kernel, rfl⟩
theorem d_X4_load_17 : x_dec m_X4_load 17 (.istore_n 3) 1 18 := ⟨by decide +kernel, rfl⟩
theorem d_X4_load_18 : x_dec m_X4_load 18 (.iload_n 3) 1 19 := ⟨by decide +kernel, rfl⟩
theorem d_X4_load_19 : x_dec m_X4_load 19 (.aload_n 0) 1 20 := ⟨by decide +kernel, rfl⟩
theorem d_X4_load_20 : x_dec m_X4_load 20 (.getfield 31) 3 23 := ⟨by decide +kernel, rfl⟩
theorem d_X4_load_23 : x_dec m_X4_load 23 (.iload_n 1) 1 24 := ⟨by decide +kernel, rfl⟩
theorem d_X4_load_24 : x_dec m_X4_load 24 (.iaload) 1 25 := ⟨by decide +kernel, rfl⟩
theorem d_X4_load_25 : x_dec m_X4_load 25 (.if_icmp .ge 56) 3 28 := ⟨by decide +kernel, rfl⟩
theorem d_X4_load_28 : x_dec m_X4_load 28 (.iload_n 3) 1 29 := ⟨by decide +kernel, rfl⟩
theorem d_X4_load_29 : x_dec m_X4_load 29 (.bipush 16) 2 31 := ⟨by decide +kernel, rfl⟩
theorem d_X4_load_31 : x_dec m_X4_load 31 (.if_icmp .ge 50) 3 34 := ⟨by decide +kernel, rfl⟩
theorem d_X4_load_34 : x_dec m_X4_load 34 (.aload_n 0) 1 35 := ⟨by decide +kernel, rfl⟩
theorem d_X4_load_35 : x_dec m_X4_load 35 (.getfield 34) 3 38 := ⟨by decide +kernel, rfl⟩
theorem d_X4_load_38 : x_dec m_X4_load 38 (.bipush 40) 2 40 := ⟨by decide +kernel, rfl⟩
theorem d_X4_load_40 : x_dec m_X4_load 40 (.iload_n 1) 1 41 := ⟨by decide +kernel, rfl⟩
theorem d_X4_load_41 : x_dec m_X4_load 41 (.imul) 1 42 := ⟨by decide +kernel, rfl⟩
theorem d_X4_load_42 : x_dec m_X4_load 42 (.iload_n 3) 1 43 := ⟨by decide +kernel, rfl⟩
theorem d_X4_load_43 : x_dec m_X4_load 43 (.iadd) 1 44 := ⟨by decide +kernel, rfl⟩
theorem d_X4_load_44 : x_dec m_X4_load 44 (.iaload) 1 45 := ⟨by decide +kernel, rfl⟩
theorem d_X4_load_45 : x_dec m_X4_load 45 (.iconst 0) 1 46 := ⟨by decide +kernel, rfl⟩
theorem d_X4_load_46 : x_dec m_X4_load 46 (.sipush 999) 3 49 := ⟨by decide +kernel, rfl⟩
theorem d_X4_load_49 : x_dec m_X4_load 49 (.invokestatic 46) 3 52 := ⟨by decide +kernel, rfl⟩
theorem d_X4_load_52 : x_dec m_X4_load 52 (.ifCond .eq 29) 3 55 := ⟨by decide +kernel, rfl⟩
theorem d_X4_load_55 : x_dec m_X4_load 55 (.aload_n 0) 1 56 := ⟨by decide +kernel, rfl⟩
theorem d_X4_load_56 : x_dec m_X4_load 56 (.getfield 9) 3 59 := ⟨by decide +kernel, rfl⟩
theorem d_X4_load_59 : x_dec m_X4_load 59 (.bipush 8) 2 61 := ⟨by decide +kernel, rfl⟩
theorem d_X4_load_61 : x_dec m_X4_load 61 (.iload_n 3) 1 62 := ⟨by decide +kernel, rfl⟩
theorem d_X4_load_62 : x_dec m_X4_load 62 (.iadd) 1 63 := ⟨by decide +kernel, rfl⟩
theorem d_X4_load_63 : x_dec m_X4_load 63 (.aload_n 0) 1 64 := ⟨by decide +kernel, rfl⟩
theorem d_X4_load_64 : x_dec m_X4_load 64 (.getfield 34) 3 67 := ⟨by decide +kernel, rfl⟩
theorem d_X4_load_67 : x_dec m_X4_load 67 (.bipush 40) 2 69 := ⟨by decide +kernel, rfl⟩
theorem d_X4_load_69 : x_dec m_X4_load 69 (.iload_n 1) 1 70 := ⟨by decide +kernel, rfl⟩
theorem d_X4_load_70 : x_dec m_X4_load 70 (.imul) 1 71 := ⟨by decide +kernel, rfl⟩
theorem d_X4_load_71 : x_dec m_X4_load 71 (.iload_n 3) 1 72 := ⟨by decide +kernel, rfl⟩
theorem d_X4_load_72 : x_dec m_X4_load 72 (.iadd) 1 73 := ⟨by decide +kernel, rfl⟩
theorem d_X4_load_73 : x_dec m_X4_load 73 (.iaload) 1 74 := ⟨by decide +kernel, rfl⟩
theorem d_X4_load_74 : x_dec m_X4_load 74 (.iastore) 1 75 := ⟨by decide +kernel, rfl⟩
theorem d_X4_load_75 : x_dec m_X4_load 75 (.iinc 3 1) 3 78 := ⟨by decide +kernel, rfl⟩
theorem d_X4_load_78 : x_dec m_X4_load 78 (.goto (-60)) 3 81 := ⟨by decide +kernel, rfl⟩
theorem d_X4_load_81 : x_dec m_X4_load 81 (.iload_n 3) 1 82 := ⟨by decide +kernel, rfl⟩
theorem d_X4_load_82 : x_dec m_X4_load 82 (.ireturn) 1 83 := ⟨by decide +kernel, rfl⟩
set_option maxHeartbeats 4000000 in
set_option maxRecDepth 100000 in
theorem c_X4_load (l : Launch) (E : x_E) (μ : x_Mem) (g : x_SG) (hS : MS g μ) (hI : Inv g) (s : Int32) : x_Met l m_X4_load E [.ref (E.1 + 41), .int s] μ (x_I (fun z m => z = (F_load g s).1 ∧ MS (F_load g s).2 m ∧ ∀ id, id < 41 → m id = μ id)) := by
  obtain ⟨hR, hX, hD⟩ := hS
  have hWF := hI.1.1
  have hn7 := hWF.2.1
  have hpn := hWF.1
  have hF : ∀ id, id < 41 → μ id = μ id := fun _ _ => rfl
  refine x_enter (lv := [(0, .ref (E.1 + 41)), (1, .int s)]) (by decide +kernel) (Nat.le_of_ble_eq_true rfl) rfl ?_
  refine x_aload_n 0 d_X4_load_0 rfl rfl ?_
  refine x_iload_n 1 d_X4_load_1 rfl rfl ?_
  refine x_cvip (k := 41) (as := [.int s]) (c_X4_notThere l E μ hX s) v_X4_notThere w_X4_notThere q957 o_M rfl ⟨Nat.le_of_ble_eq_true rfl, Nat.le_of_ble_eq_true rfl⟩ rfl (Nat.le_of_ble_eq_true rfl) d_X4_load_2 ?_
  rcases why_cases g s with ⟨ksh, ewy⟩ | ⟨y, hy, rfl, ksh, kbt, ewy⟩ | ⟨y, hy, rfl, ksh, kbt, ewy⟩
  · rw [ewy]
    refine x_istore_n [(2, .int (-1000001)), (0, .ref (E.1 + 41)), (1, .int s)] d_X4_load_5 rfl (Nat.le_of_ble_eq_true rfl) rfl ?_
    refine x_iload_n 0 d_X4_load_6 rfl rfl ?_
    refine x_if_eq 16 d_X4_load_7 (by decide) (fun c1 => ?_) (fun c1 => ?_)
    · exact absurd c1 (by decide)
    refine x_aload_n 1 d_X4_load_10 rfl rfl ?_
    refine x_iload_n 0 d_X4_load_11 rfl rfl ?_
    refine x_cvi (k := 41) (as := [.int (-1000001)]) (c_X4_finds l E μ (i := 0) hD (by decide) (w := (-1000001)) (by decide)) v_X4_finds w_X4_finds q735 o_M rfl ⟨Nat.le_of_ble_eq_true rfl, Nat.le_of_ble_eq_true rfl⟩ rfl (Nat.le_of_ble_eq_true rfl) d_X4_load_12 ?_
    rintro _ μ2 ⟨rfl, hD3, hF4⟩
    have hR5 := MR.cg hR (μ' := μ2) (fun id hid => (hF4 _ (by omega)))
    have hX6 := MX.cg hX (μ' := μ2) (fun id hid => (hF4 _ (by omega)))
    have hF7 : ∀ id, id < 41 → μ2 id = μ id := fun id hid => (show μ2 id = μ id from (hF4 _ (by omega))).trans (hF id hid)
    refine x_iret rfl d_X4_load_15 ?_
    have e9 : F_load g s = fin g 0 := by simp [F_load, x_b_f, x_b_t, ksh, shO]
    rw [e9]
    exact ⟨rfl, MS.fin hR5 hX6 hD3, hF7⟩
  · rw [ewy]
    have hz_y := hI.2.2.2.2.1 y (by omega)
    refine x_istore_n [(2, .int (-1000006)), (0, .ref (E.1 + 41)), (1, .int (nI y))] d_X4_load_5 rfl (Nat.le_of_ble_eq_true rfl) rfl ?_
    refine x_iload_n 0 d_X4_load_6 rfl rfl ?_
    refine x_if_eq 16 d_X4_load_7 (by decide) (fun c8 => ?_) (fun c8 => ?_)
    · exact absurd c8 (by decide)
    refine x_aload_n 1 d_X4_load_10 rfl rfl ?_
    refine x_iload_n 0 d_X4_load_11 rfl rfl ?_
    refine x_cvi (k := 41) (as := [.int (-1000006)]) (c_X4_finds l E μ (i := 5) hD (by decide) (w := (-1000006)) (by decide)) v_X4_finds w_X4_finds q735 o_M rfl ⟨Nat.le_of_ble_eq_true rfl, Nat.le_of_ble_eq_true rfl⟩ rfl (Nat.le_of_ble_eq_true rfl) d_X4_load_12 ?_
    rintro _ μ9 ⟨rfl, hD10, hF11⟩
    have hR12 := MR.cg hR (μ' := μ9) (fun id hid => (hF11 _ (by omega)))
    have hX13 := MX.cg hX (μ' := μ9) (fun id hid => (hF11 _ (by omega)))
    have hF14 : ∀ id, id < 41 → μ9 id = μ id := fun id hid => (show μ9 id = μ id from (hF11 _ (by omega))).trans (hF id hid)
    refine x_iret rfl d_X4_load_15 ?_
    have e9 : F_load g (nI y) = fin g 5 := by simp [F_load, x_b_f, x_b_t, ksh, kbt, nI_clamp (n := y) (by omega), shO]
    rw [e9]
    exact ⟨rfl, MS.fin hR12 hX13 hD10, hF14⟩
  · rw [ewy]
    have hz_y := hI.2.2.2.2.1 y (by omega)
    refine x_istore_n [(2, .int 0), (0, .ref (E.1 + 41)), (1, .int (nI y))] d_X4_load_5 rfl (Nat.le_of_ble_eq_true rfl) rfl ?_
    refine x_iload_n 0 d_X4_load_6 rfl rfl ?_
    refine x_if_eq 16 d_X4_load_7 (by decide) (fun c15 => ?_) (fun c15 => ?_)
    rotate_left
    · exact absurd c15 (by decide)
    refine x_iconst (x := 0) d_X4_load_16 (by decide) ?_
    refine x_istore_n [(3, .int 0), (2, .int 0), (0, .ref (E.1 + 41)), (1, .int (nI y))] d_X4_load_17 rfl (Nat.le_of_ble_eq_true rfl) rfl ?_
    have L16 : ∀ n : Nat, n ≤ gSz g y → ∀ μ19 : x_Mem, (MR (loadTo (gA g) (gSn g y) n) μ19) → (MX g μ19) → (MD (gF g) μ19) → (∀ id, id < 41 → μ19 id = μ id) → (∀ j, j < n → (fun j => !(decide (j < 16) && inR (gSn g y j) 0 999)) j = false) → x_G l E m_X4_load (x_mv E m_X4_load (x_I (fun z m => z = (F_load g (nI y)).1 ∧ MS (F_load g (nI y)).2 m ∧ ∀ id, id < 41 → m id = μ id))) μ19 18 [(3, .int (nI n)), (0, .ref (E.1 + 41)), (1, .int (nI y))] [] := by
      refine x_down _ (gSz g y) (fun n hi18 ih17 => ?_)
      intro μ19 hR1 hX1 hD1 hF1 hq1
      refine x_iload_n 0 d_X4_load_18 rfl rfl ?_
      refine x_aload_n 1 d_X4_load_19 rfl rfl ?_
      refine x_getr (j := 8) 49 x_c4 rfl (Nat.le_of_ble_eq_true rfl) q676 rfl d_X4_load_20 ?_
      refine x_iload_n 2 d_X4_load_23 rfl rfl ?_
      refine x_ialdN (z := nI (gSz g y)) 4 y rfl rfl (by omega) (by decide) (hX1.2.2.2.2.2.1 y (by omega)) d_X4_load_24 ?_
      refine x_icmp_ge 81 d_X4_load_25 (by decide) (fun c20 => ?_) (fun c20 => ?_)
      · skip
        have hN := x_ge (N := gSz g y) c20 rfl rfl (by omega) (by omega)
        refine x_iload_n 0 d_X4_load_81 rfl rfl ?_
        refine x_iret rfl d_X4_load_82 ?_
        have e8 : firstN (fun j => !(decide (j < 16) && inR (gSn g y j) 0 999)) 0 (gSz g y) = n := load_e1 (f := (fun j => !(decide (j < 16) && inR (gSn g y j) 0 999))) hi18 hN hq1
        have e9 : F_load g (nI y) = (nI n, sA g (loadTo (gA g) (gSn g y) n)) := by unfold F_load shO; rw [if_pos ksh, nI_clamp (n := y) (by omega), if_neg kbt]; dsimp only; rw [e8]
        rw [e9]
        exact ⟨rfl, MS.line hR1 hX1 hD1, hF1⟩
      · skip
        have hN := x_lt (N := gSz g y) c20 rfl rfl (by omega) (by omega)
        refine x_iload_n 0 d_X4_load_28 rfl rfl ?_
        refine x_bipush (x := 16) d_X4_load_29 (by decide) ?_
        refine x_icmp_ge 81 d_X4_load_31 (by decide) (fun c21 => ?_) (fun c21 => ?_)
        · skip
          have hK := x_ge (N := 16) c21 rfl rfl (by omega) (by omega)
          refine x_iload_n 0 d_X4_load_81 rfl rfl ?_
          refine x_iret rfl d_X4_load_82 ?_
          have e8 : firstN (fun j => !(decide (j < 16) && inR (gSn g y j) 0 999)) 0 (gSz g y) = n := firstN_some (f := (fun j => !(decide (j < 16) && inR (gSn g y j) 0 999))) hN (show (fun j => !(decide (j < 16) && inR (gSn g y j) 0 999)) n = true by show (!(decide (n < 16) && _)) = true; rw [decide_eq_false (show ¬ n < 16 by omega)]; rfl) hq1
          have e9 : F_load g (nI y) = (nI n, sA g (loadTo (gA g) (gSn g y) n)) := by unfold F_load shO; rw [if_pos ksh, nI_clamp (n := y) (by omega), if_neg kbt]; dsimp only; rw [e8]
          rw [e9]
          exact ⟨rfl, MS.line hR1 hX1 hD1, hF1⟩
        · skip
          have hK := x_lt (N := 16) c21 rfl rfl (by omega) (by omega)
          refine x_aload_n 1 d_X4_load_34 rfl rfl ?_
          refine x_getr (j := 9) 50 x_c4 rfl (Nat.le_of_ble_eq_true rfl) q677 rfl d_X4_load_35 ?_
          refine x_bipush (x := 40) d_X4_load_38 (by decide) ?_
          refine x_iload_n 2 d_X4_load_40 rfl rfl ?_
          refine x_imul d_X4_load_41 ?_
          rw [show (40 : Int32) * (nI y) = nI (40 * y) from nI_mulN 40 y]
          refine x_iload_n 0 d_X4_load_42 rfl rfl ?_
          refine x_iadd d_X4_load_43 ?_
          rw [show (nI (40 * y)) + (nI n) = nI ((40 * y) + n) from nI_add (40 * y) n]
          refine x_ialdN (z := gSn g y n) 160 ((40 * y) + n) rfl rfl (by omega) (by decide) (hX1.2.2.2.2.2.2 y (by omega) n (by omega)) d_X4_load_44 ?_
          refine x_iconst (x := 0) d_X4_load_45 (by decide) ?_
          refine x_sipush (x := 999) d_X4_load_46 (by decide) ?_
          refine x_csip (as := [.int (gSn g y n), .int 0, .int 999]) (c_X4_in l E μ19 (gSn g y n) 0 999) v_X4_in q728 q727 rfl ⟨Nat.le_of_ble_eq_true rfl, Nat.le_of_ble_eq_true rfl⟩ rfl (Nat.le_of_ble_eq_true rfl) d_X4_load_49 ?_
          refine x_ifb_eq 81 d_X4_load_52 (by decide) (fun c22 => ?_) (fun c22 => ?_)
          · skip
            refine x_iload_n 0 d_X4_load_81 rfl rfl ?_
            refine x_iret rfl d_X4_load_82 ?_
            have e8 : firstN (fun j => !(decide (j < 16) && inR (gSn g y j) 0 999)) 0 (gSz g y) = n := firstN_some (f := (fun j => !(decide (j < 16) && inR (gSn g y j) 0 999))) hN (show (fun j => !(decide (j < 16) && inR (gSn g y j) 0 999)) n = true by show (!(decide (n < 16) && _)) = true; rw [decide_eq_true hK, c22]; rfl) hq1
            have e9 : F_load g (nI y) = (nI n, sA g (loadTo (gA g) (gSn g y) n)) := by unfold F_load shO; rw [if_pos ksh, nI_clamp (n := y) (by omega), if_neg kbt]; dsimp only; rw [e8]
            rw [e9]
            exact ⟨rfl, MS.line hR1 hX1 hD1, hF1⟩
          · skip
            refine x_aload_n 1 d_X4_load_55 rfl rfl ?_
            refine x_getr (j := 0) 42 x_c4 rfl (Nat.le_of_ble_eq_true rfl) q668 rfl d_X4_load_56 ?_
            refine x_bipush (x := 8) d_X4_load_59 (by decide) ?_
            refine x_iload_n 0 d_X4_load_61 rfl rfl ?_
            refine x_iadd d_X4_load_62 ?_
            rw [show (8 : Int32) + (nI n) = nI (8 + n) from nI_add 8 n]
            refine x_aload_n 1 d_X4_load_63 rfl rfl ?_
            refine x_getr (j := 9) 50 x_c4 rfl (Nat.le_of_ble_eq_true rfl) q677 rfl d_X4_load_64 ?_
            refine x_bipush (x := 40) d_X4_load_67 (by decide) ?_
            refine x_iload_n 2 d_X4_load_69 rfl rfl ?_
            refine x_imul d_X4_load_70 ?_
            rw [show (40 : Int32) * (nI y) = nI (40 * y) from nI_mulN 40 y]
            refine x_iload_n 0 d_X4_load_71 rfl rfl ?_
            refine x_iadd d_X4_load_72 ?_
            rw [show (nI (40 * y)) + (nI n) = nI ((40 * y) + n) from nI_add (40 * y) n]
            refine x_ialdN (z := gSn g y n) 160 ((40 * y) + n) rfl rfl (by omega) (by decide) (hX1.2.2.2.2.2.2 y (by omega) n (by omega)) d_X4_load_73 ?_
            refine x_iastNG 58 (8 + n) rfl rfl (by omega) (by decide) d_X4_load_74 (fun μ23 eμ23 => ?_)
            have hR24 : MR (upd (loadTo (gA g) (gSn g y) n) ((8 + n)) (gSn g y n)) μ23 := MR.w hR1 eμ23
            have hX25 := MX.cg hX1 (μ' := μ23) (fun id hid => (by rw [eμ23, upd2_ne _ _ _ (by omega)]))
            have hD26 := MD.cg hD1 (μ' := μ23) (fun id hid => (by rw [eμ23, upd2_ne _ _ _ (by omega)]))
            have hF27 : ∀ id, id < 41 → μ23 id = μ id := fun id hid => (show μ23 id = μ19 id from (by rw [eμ23, upd2_ne _ _ _ (by omega)])).trans (hF1 id hid)
            refine x_iinc [(3, .int (nI (n + 1))), (0, .ref (E.1 + 41)), (1, .int (nI y))] 0 d_X4_load_75 rfl (x_inc _) (Nat.le_of_ble_eq_true rfl) rfl ?_
            refine x_goto 18 d_X4_load_78 (by decide) ?_
            exact ih17 (n + 1) (by omega) (by omega) μ23 (by rw [← load_s]; exact hR24) hX25 hD26 hF27 (lt_s hq1 (show (fun j => !(decide (j < 16) && inR (gSn g y j) 0 999)) n = false by show (!(decide (n < 16) && _)) = false; rw [decide_eq_true hK, c22]; rfl))
    refine x_lv [0, 2, 3] rfl ?_
    exact L16 0 (by omega) μ (by rw [load_0]; exact hR) hX hD hF (fun _ h => absurd h (Nat.not_lt_zero _))
def m_X4_write : x_M := (yX4_write, prog_6_method_92_code, 5, (some FieldType.int), 3, 63)
theorem v_X4_write : x_VM m_X4_write 3 := ⟨q1086, q6, by decide +kernel, by decide +kernel, by decide +kernel⟩
theorem w_X4_write : x_VI m_X4_write := ⟨q1084, q1085⟩
theorem d_X4_write_0 : x_dec m_X4_write 0 (.aload_n 0) 1 1 := ⟨by decide +kernel, rfl⟩
theorem d_X4_write_1 : x_dec m_X4_write 1 (.iload_n 1) 1 2 := ⟨by decide +kernel, rfl⟩
theorem d_X4_write_2 : x_dec m_X4_write 2 (.invokevirtual 162) 3 5 := ⟨by decide +kernel, rfl⟩
theorem d_X4_write_5 : x_dec m_X4_write 5 (.istore 4) 2 7 := ⟨by decide +kernel, rfl⟩
theorem d_X4_write_7 : x_dec m_X4_write 7 (.iload 4) 2 9 := ⟨by decide +kernel, rfl⟩
theorem d_X4_write_9 : x_dec m_X4_write 9 (.ifCond .ne 24) 3 12 := ⟨by decide +kernel, rfl⟩
theorem d_X4_write_12 : x_dec m_X4_write 12 (.iload_n 2) 1 13 := ⟨by decide +kernel, rfl⟩
theorem d_X4_write_13 : x_dec m_X4_write 13 (.iconst 0) 1 14 := ⟨by decide +kernel, rfl⟩
theorem d_X4_write_14 : x_dec m_X4_write 14 (.aload_n 0) 1 15 := ⟨by decide +kernel, rfl⟩
theorem d_X4_write_15 : x_dec m_X4_write 15 (.getfield 31) 3 18 := ⟨by decide +kernel, rfl⟩
theorem d_X4_write_18 : x_dec m_X4_write 18 (.iload_n 1) 1 19 := ⟨by decide +kernel, rfl⟩
theorem d_X4_write_19 : x_dec m_X4_write 19 (.iaload) 1 20 := ⟨by decide +kernel, rfl⟩
theorem d_X4_write_20 : x_dec m_X4_write 20 (.iconst 1) 1 21 := ⟨by decide +kernel, rfl⟩
theorem d_X4_write_21 : x_dec m_X4_write 21 (.isub) 1 22 := ⟨by decide +kernel, rfl⟩
theorem d_X4_write_22 : x_dec m_X4_write 22 (.invokestatic 46) 3 25 := ⟨by decide +kernel, rfl⟩
theorem d_X4_write_25 : x_dec m_X4_write 25 (.ifCond .ne 8) 3 28 := ⟨by decide +kernel, rfl⟩
theorem d_X4_write_28 : x_dec m_X4_write 28 (.ldc 40) 2 30 := ⟨by decide +kernel, rfl⟩
theorem d_X4_write_30 : x_dec m_X4_write 30 (.goto 5) 3 33 := ⟨by decide +kernel, rfl⟩
theorem d_X4_write_33 : x_dec m_X4_write 33 (.iload 4) 2 35 := ⟨by decide +kernel, rfl⟩
theorem d_X4_write_35 : x_dec m_X4_write 35 (.istore 4) 2 37 := ⟨by decide +kernel, rfl⟩
theorem d_X4_write_37 : x_dec m_X4_write 37 (.iload 4) 2 39 := ⟨by decide +kernel, rfl⟩
theorem d_X4_write_39 : x_dec m_X4_write 39 (.ifCond .eq 10) 3 42 := ⟨by decide +kernel, rfl⟩
theorem d_X4_write_42 : x_dec m_X4_write 42 (.aload_n 0) 1 43 := ⟨by decide +kernel, rfl⟩
theorem d_X4_write_43 : x_dec m_X4_write 43 (.iload 4) 2 45 := ⟨by decide +kernel, rfl⟩
theorem d_X4_write_45 : x_dec m_X4_write 45 (.invokevirtual 42) 3 48 := ⟨by decide +kernel, rfl⟩
theorem d_X4_write_48 : x_dec m_X4_write 48 (.ireturn) 1 49 := ⟨by decide +kernel, rfl⟩
theorem d_X4_write_49 : x_dec m_X4_write 49 (.aload_n 0) 1 50 := ⟨by decide +kernel, rfl⟩
theorem d_X4_write_50 : x_dec m_X4_write 50 (.getfield 34) 3 53 := ⟨by decide +kernel, rfl⟩
theorem d_X4_write_53 : x_dec m_X4_write 53 (.bipush 40) 2 55 := ⟨by decide +kernel, rfl⟩
theorem d_X4_write_55 : x_dec m_X4_write 55 (.iload_n 1) 1 56 := ⟨by decide +kernel, rfl⟩
theorem d_X4_write_56 : x_dec m_X4_write 56 (.imul) 1 57 := ⟨by decide +kernel, rfl⟩
theorem d_X4_write_57 : x_dec m_X4_write 57 (.iload_n 2) 1 58 := ⟨by decide +kernel, rfl⟩
theorem d_X4_write_58 : x_dec m_X4_write 58 (.iadd) 1 59 := ⟨by decide +kernel, rfl⟩
theorem d_X4_write_59 : x_dec m_X4_write 59 (.aload_n 0) 1 60 := ⟨by decide +kernel, rfl⟩
theorem d_X4_write_60 : x_dec m_X4_write 60 (.getfield 28) 3 63 := ⟨by decide +kernel, rfl⟩
theorem d_X4_write_63 : x_dec m_X4_write 63 (.iload_n 1) 1 64 := ⟨by decide +kernel, rfl⟩
theorem d_X4_write_64 : x_dec m_X4_write 64 (.iaload) 1 65 := ⟨by decide +kernel, rfl⟩
theorem d_X4_write_65 : x_dec m_X4_write 65 (.bipush 8) 2 67 := ⟨by decide +kernel, rfl⟩
theorem d_X4_write_67 : x_dec m_X4_write 67 (.if_icmp .ne 8) 3 70 := ⟨by decide +kernel, rfl⟩
theorem d_X4_write_70 : x_dec m_X4_write 70 (.iload_n 3) 1 71 := ⟨by decide +kernel, rfl⟩
theorem d_X4_write_71 : x_dec m_X4_write 71 (.i2b) 1 72 := ⟨by decide +kernel, rfl⟩
theorem d_X4_write_72 : x_dec m_X4_write 72 (.goto 20) 3 75 := ⟨by decide +kernel, rfl⟩
theorem d_X4_write_75 : x_dec m_X4_write 75 (.aload_n 0) 1 76 := ⟨by decide +kernel, rfl⟩
theorem d_X4_write_76 : x_dec m_X4_write 76 (.getfield 28) 3 79 := ⟨by decide +kernel, rfl⟩
theorem d_X4_write_79 : x_dec m_X4_write 79 (.iload_n 1) 1 80 := ⟨by decide +kernel, rfl⟩
theorem d_X4_write_80 : x_dec m_X4_write 80 (.iaload) 1 81 := ⟨by decide +kernel, rfl⟩
theorem d_X4_write_81 : x_dec m_X4_write 81 (.bipush 16) 2 83 := ⟨by decide +kernel, rfl⟩
theorem d_X4_write_83 : x_dec m_X4_write 83 (.if_icmp .ne 8) 3 86 := ⟨by decide +kernel, rfl⟩
theorem d_X4_write_86 : x_dec m_X4_write 86 (.iload_n 3) 1 87 := ⟨by decide +kernel, rfl⟩
theorem d_X4_write_87 : x_dec m_X4_write 87 (.i2s) 1 88 := ⟨by decide +kernel, rfl⟩
theorem d_X4_write_88 : x_dec m_X4_write 88 (.goto 4) 3 91 := ⟨by decide +kernel, rfl⟩
theorem d_X4_write_91 : x_dec m_X4_write 91 (.iload_n 3) 1 92 := ⟨by decide +kernel, rfl⟩
theorem d_X4_write_92 : x_dec m_X4_write 92 (.iastore) 1 93 := ⟨by decide +kernel, rfl⟩
theorem d_X4_write_93 : x_dec m_X4_write 93 (.iconst 1) 1 94 := ⟨by decide +kernel, rfl⟩
theorem d_X4_write_94 : x_dec m_X4_write 94 (.ireturn) 1 95 := ⟨by decide +kernel, rfl⟩
set_option maxHeartbeats 4000000 in
set_option maxRecDepth 100000 in
theorem c_X4_write (l : Launch) (E : x_E) (μ : x_Mem) (g : x_SG) (hS : MS g μ) (hI : Inv g) (s i v : Int32) : x_Met l m_X4_write E [.ref (E.1 + 41), .int s, .int i, .int v] μ (x_I (fun z m => z = (F_write g s i v).1 ∧ MS (F_write g s i v).2 m ∧ ∀ id, id < 41 → m id = μ id)) := by
  obtain ⟨hR, hX, hD⟩ := hS
  have hWF := hI.1.1
  have hn7 := hWF.2.1
  have hpn := hWF.1
  have hF : ∀ id, id < 41 → μ id = μ id := fun _ _ => rfl
  refine x_enter (lv := [(0, .ref (E.1 + 41)), (1, .int s), (2, .int i), (3, .int v)]) (by decide +kernel) (Nat.le_of_ble_eq_true rfl) rfl ?_
  refine x_aload_n 0 d_X4_write_0 rfl rfl ?_
  refine x_iload_n 1 d_X4_write_1 rfl rfl ?_
  refine x_cvip (k := 41) (as := [.int s]) (c_X4_notThere l E μ hX s) v_X4_notThere w_X4_notThere q957 o_M rfl ⟨Nat.le_of_ble_eq_true rfl, Nat.le_of_ble_eq_true rfl⟩ rfl (Nat.le_of_ble_eq_true rfl) d_X4_write_2 ?_
  rcases why_cases g s with ⟨ksh, ewy⟩ | ⟨y, hy, rfl, ksh, kbt, ewy⟩ | ⟨y, hy, rfl, ksh, kbt, ewy⟩
  · rw [ewy]
    refine x_istore [(4, .int (-1000001)), (0, .ref (E.1 + 41)), (1, .int s), (2, .int i), (3, .int v)] d_X4_write_5 (Nat.le_of_ble_eq_true rfl) rfl ?_
    refine x_iload 0 d_X4_write_7 rfl ?_
    refine x_if_ne 33 d_X4_write_9 (by decide) (fun c1 => ?_) (fun c1 => ?_)
    rotate_left
    · exact absurd c1 (by decide)
    refine x_iload 0 d_X4_write_33 rfl ?_
    refine x_istore [(4, .int (-1000001)), (0, .ref (E.1 + 41)), (1, .int s), (2, .int i), (3, .int v)] d_X4_write_35 (Nat.le_of_ble_eq_true rfl) rfl ?_
    refine x_iload 0 d_X4_write_37 rfl ?_
    refine x_if_eq 49 d_X4_write_39 (by decide) (fun c2 => ?_) (fun c2 => ?_)
    · exact absurd c2 (by decide)
    refine x_aload_n 1 d_X4_write_42 rfl rfl ?_
    refine x_iload 0 d_X4_write_43 rfl ?_
    refine x_cvi (k := 41) (as := [.int (-1000001)]) (c_X4_finds l E μ (i := 0) hD (by decide) (w := (-1000001)) (by decide)) v_X4_finds w_X4_finds q735 o_M rfl ⟨Nat.le_of_ble_eq_true rfl, Nat.le_of_ble_eq_true rfl⟩ rfl (Nat.le_of_ble_eq_true rfl) d_X4_write_45 ?_
    rintro _ μ3 ⟨rfl, hD4, hF5⟩
    have hR6 := MR.cg hR (μ' := μ3) (fun id hid => (hF5 _ (by omega)))
    have hX7 := MX.cg hX (μ' := μ3) (fun id hid => (hF5 _ (by omega)))
    have hF8 : ∀ id, id < 41 → μ3 id = μ id := fun id hid => (show μ3 id = μ id from (hF5 _ (by omega))).trans (hF id hid)
    refine x_iret rfl d_X4_write_48 ?_
    have e9 : F_write g s i v = fin g 0 := by simp [F_write, x_b_f, x_b_t, ksh, shO]
    rw [e9]
    exact ⟨rfl, MS.fin hR6 hX7 hD4, hF8⟩
  · rw [ewy]
    have hz_y := hI.2.2.2.2.1 y (by omega)
    refine x_istore [(4, .int (-1000006)), (0, .ref (E.1 + 41)), (1, .int (nI y)), (2, .int i), (3, .int v)] d_X4_write_5 (Nat.le_of_ble_eq_true rfl) rfl ?_
    refine x_iload 0 d_X4_write_7 rfl ?_
    refine x_if_ne 33 d_X4_write_9 (by decide) (fun c9 => ?_) (fun c9 => ?_)
    rotate_left
    · exact absurd c9 (by decide)
    refine x_iload 0 d_X4_write_33 rfl ?_
    refine x_istore [(4, .int (-1000006)), (0, .ref (E.1 + 41)), (1, .int (nI y)), (2, .int i), (3, .int v)] d_X4_write_35 (Nat.le_of_ble_eq_true rfl) rfl ?_
    refine x_iload 0 d_X4_write_37 rfl ?_
    refine x_if_eq 49 d_X4_write_39 (by decide) (fun c10 => ?_) (fun c10 => ?_)
    · exact absurd c10 (by decide)
    refine x_aload_n 1 d_X4_write_42 rfl rfl ?_
    refine x_iload 0 d_X4_write_43 rfl ?_
    refine x_cvi (k := 41) (as := [.int (-1000006)]) (c_X4_finds l E μ (i := 5) hD (by decide) (w := (-1000006)) (by decide)) v_X4_finds w_X4_finds q735 o_M rfl ⟨Nat.le_of_ble_eq_true rfl, Nat.le_of_ble_eq_true rfl⟩ rfl (Nat.le_of_ble_eq_true rfl) d_X4_write_45 ?_
    rintro _ μ11 ⟨rfl, hD12, hF13⟩
    have hR14 := MR.cg hR (μ' := μ11) (fun id hid => (hF13 _ (by omega)))
    have hX15 := MX.cg hX (μ' := μ11) (fun id hid => (hF13 _ (by omega)))
    have hF16 : ∀ id, id < 41 → μ11 id = μ id := fun id hid => (show μ11 id = μ id from (hF13 _ (by omega))).trans (hF id hid)
    refine x_iret rfl d_X4_write_48 ?_
    have e9 : F_write g (nI y) i v = fin g 5 := by simp [F_write, x_b_f, x_b_t, ksh, kbt, nI_clamp (n := y) (by omega), shO]
    rw [e9]
    exact ⟨rfl, MS.fin hR14 hX15 hD12, hF16⟩
  · rw [ewy]
    have hz_y := hI.2.2.2.2.1 y (by omega)
    refine x_istore [(4, .int 0), (0, .ref (E.1 + 41)), (1, .int (nI y)), (2, .int i), (3, .int v)] d_X4_write_5 (Nat.le_of_ble_eq_true rfl) rfl ?_
    refine x_iload 0 d_X4_write_7 rfl ?_
    refine x_if_ne 33 d_X4_write_9 (by decide) (fun c17 => ?_) (fun c17 => ?_)
    · exact absurd c17 (by decide)
    refine x_iload_n 3 d_X4_write_12 rfl rfl ?_
    refine x_iconst (x := 0) d_X4_write_13 (by decide) ?_
    refine x_aload_n 1 d_X4_write_14 rfl rfl ?_
    refine x_getr (j := 8) 49 x_c4 rfl (Nat.le_of_ble_eq_true rfl) q676 rfl d_X4_write_15 ?_
    refine x_iload_n 2 d_X4_write_18 rfl rfl ?_
    refine x_ialdN (z := nI (gSz g y)) 4 y rfl rfl (by omega) (by decide) (hX.2.2.2.2.2.1 y (by omega)) d_X4_write_19 ?_
    refine x_iconst (x := 1) d_X4_write_20 (by decide) ?_
    refine x_isub d_X4_write_21 ?_
    refine x_csip (as := [.int i, .int 0, .int ((nI (gSz g y)) - 1)]) (c_X4_in l E μ i 0 ((nI (gSz g y)) - 1)) v_X4_in q728 q727 rfl ⟨Nat.le_of_ble_eq_true rfl, Nat.le_of_ble_eq_true rfl⟩ rfl (Nat.le_of_ble_eq_true rfl) d_X4_write_22 ?_
    rw [in_sz hz_y]
    refine x_ifb_ne 33 d_X4_write_25 (by decide) (fun c18 => ?_) (fun c18 => ?_)
    · skip
      obtain ⟨m, hm, rfl⟩ := in_sz_n hz_y c18
      refine x_iload 0 d_X4_write_33 rfl ?_
      refine x_istore [(4, .int 0), (0, .ref (E.1 + 41)), (1, .int (nI y)), (2, .int (nI m)), (3, .int v)] d_X4_write_35 (Nat.le_of_ble_eq_true rfl) rfl ?_
      refine x_iload 0 d_X4_write_37 rfl ?_
      refine x_if_eq 49 d_X4_write_39 (by decide) (fun c19 => ?_) (fun c19 => ?_)
      rotate_left
      · exact absurd c19 (by decide)
      refine x_aload_n 1 d_X4_write_49 rfl rfl ?_
      refine x_getr (j := 9) 50 x_c4 rfl (Nat.le_of_ble_eq_true rfl) q677 rfl d_X4_write_50 ?_
      refine x_bipush (x := 40) d_X4_write_53 (by decide) ?_
      refine x_iload_n 2 d_X4_write_55 rfl rfl ?_
      refine x_imul d_X4_write_56 ?_
      rw [show (40 : Int32) * (nI y) = nI (40 * y) from nI_mulN 40 y]
      refine x_iload_n 3 d_X4_write_57 rfl rfl ?_
      refine x_iadd d_X4_write_58 ?_
      rw [show (nI (40 * y)) + (nI m) = nI ((40 * y) + m) from nI_add (40 * y) m]
      refine x_aload_n 1 d_X4_write_59 rfl rfl ?_
      refine x_getr (j := 7) 48 x_c4 rfl (Nat.le_of_ble_eq_true rfl) q675 rfl d_X4_write_60 ?_
      refine x_iload_n 2 d_X4_write_63 rfl rfl ?_
      refine x_ialdN (z := gSb g y) 4 y rfl rfl (by omega) (by decide) (hX.2.2.2.2.1 y (by omega)) d_X4_write_64 ?_
      refine x_bipush (x := 8) d_X4_write_65 (by decide) ?_
      refine x_icmp_ne 75 d_X4_write_67 (by decide) (fun c20 => ?_) (fun c20 => ?_)
      · skip
        refine x_aload_n 1 d_X4_write_75 rfl rfl ?_
        refine x_getr (j := 7) 48 x_c4 rfl (Nat.le_of_ble_eq_true rfl) q675 rfl d_X4_write_76 ?_
        refine x_iload_n 2 d_X4_write_79 rfl rfl ?_
        refine x_ialdN (z := gSb g y) 4 y rfl rfl (by omega) (by decide) (hX.2.2.2.2.1 y (by omega)) d_X4_write_80 ?_
        refine x_bipush (x := 16) d_X4_write_81 (by decide) ?_
        refine x_icmp_ne 91 d_X4_write_83 (by decide) (fun c21 => ?_) (fun c21 => ?_)
        · skip
          refine x_iload_n 4 d_X4_write_91 rfl rfl ?_
          refine x_iastNG 160 ((40 * y) + m) rfl rfl (by omega) (by decide) d_X4_write_92 (fun μ22 eμ22 => ?_)
          have hlo : lowF (gSb g y) v = v := by unfold lowF; simp [c20, c21]
          have hX23 : MX (sS g (gSb g) (gSz g) (upr (gSn g) y (upd (gSn g y) m (lowF (gSb g y) v)))) μ22 := MX.sn hX (by omega) eμ22 (fun s _ i _ => by rw [hlo]; exact upr_w s i)
          have hR24 := MR.cg hR (μ' := μ22) (fun id hid => (by rw [eμ22, upd2_ne _ _ _ (by omega)]))
          have hD25 := MD.cg hD (μ' := μ22) (fun id hid => (by rw [eμ22, upd2_ne _ _ _ (by omega)]))
          have hF26 : ∀ id, id < 41 → μ22 id = μ id := fun id hid => (show μ22 id = μ id from (by rw [eμ22, upd2_ne _ _ _ (by omega)])).trans (hF id hid)
          refine x_iconst (x := 1) d_X4_write_93 (by decide) ?_
          refine x_iret rfl d_X4_write_94 ?_
          have e9 : F_write g (nI y) (nI m) v = (1, sS g (gSb g) (gSz g) (upr (gSn g) y (upd (gSn g y) m (lowF (gSb g y) v)))) := by unfold F_write shO; rw [if_pos ksh, nI_clamp (n := y) (by omega), if_neg kbt]; dsimp only; rw [if_pos (of_decide_eq_true c18), nI_clamp (n := m) (by omega)]
          rw [e9]
          exact ⟨rfl, ⟨hR24, hX23, hD25⟩, hF26⟩
        · skip
          refine x_iload_n 4 d_X4_write_86 rfl rfl ?_
          refine x_i2s d_X4_write_87 ?_
          refine x_goto 92 d_X4_write_88 (by decide) ?_
          refine x_iastNG 160 ((40 * y) + m) rfl rfl (by omega) (by decide) d_X4_write_92 (fun μ27 eμ27 => ?_)
          have hlo : lowF (gSb g y) v = v.toInt16.toInt32 := by unfold lowF; simp [c20, c21]
          have hX28 : MX (sS g (gSb g) (gSz g) (upr (gSn g) y (upd (gSn g y) m (lowF (gSb g y) v)))) μ27 := MX.sn hX (by omega) eμ27 (fun s _ i _ => by rw [hlo]; exact upr_w s i)
          have hR29 := MR.cg hR (μ' := μ27) (fun id hid => (by rw [eμ27, upd2_ne _ _ _ (by omega)]))
          have hD30 := MD.cg hD (μ' := μ27) (fun id hid => (by rw [eμ27, upd2_ne _ _ _ (by omega)]))
          have hF31 : ∀ id, id < 41 → μ27 id = μ id := fun id hid => (show μ27 id = μ id from (by rw [eμ27, upd2_ne _ _ _ (by omega)])).trans (hF id hid)
          refine x_iconst (x := 1) d_X4_write_93 (by decide) ?_
          refine x_iret rfl d_X4_write_94 ?_
          have e9 : F_write g (nI y) (nI m) v = (1, sS g (gSb g) (gSz g) (upr (gSn g) y (upd (gSn g y) m (lowF (gSb g y) v)))) := by unfold F_write shO; rw [if_pos ksh, nI_clamp (n := y) (by omega), if_neg kbt]; dsimp only; rw [if_pos (of_decide_eq_true c18), nI_clamp (n := m) (by omega)]
          rw [e9]
          exact ⟨rfl, ⟨hR29, hX28, hD30⟩, hF31⟩
      · skip
        refine x_iload_n 4 d_X4_write_70 rfl rfl ?_
        refine x_i2b d_X4_write_71 ?_
        refine x_goto 92 d_X4_write_72 (by decide) ?_
        refine x_iastNG 160 ((40 * y) + m) rfl rfl (by omega) (by decide) d_X4_write_92 (fun μ32 eμ32 => ?_)
        have hlo : lowF (gSb g y) v = v.toInt8.toInt32 := by unfold lowF; simp [c20]
        have hX33 : MX (sS g (gSb g) (gSz g) (upr (gSn g) y (upd (gSn g y) m (lowF (gSb g y) v)))) μ32 := MX.sn hX (by omega) eμ32 (fun s _ i _ => by rw [hlo]; exact upr_w s i)
        have hR34 := MR.cg hR (μ' := μ32) (fun id hid => (by rw [eμ32, upd2_ne _ _ _ (by omega)]))
        have hD35 := MD.cg hD (μ' := μ32) (fun id hid => (by rw [eμ32, upd2_ne _ _ _ (by omega)]))
        have hF36 : ∀ id, id < 41 → μ32 id = μ id := fun id hid => (show μ32 id = μ id from (by rw [eμ32, upd2_ne _ _ _ (by omega)])).trans (hF id hid)
        refine x_iconst (x := 1) d_X4_write_93 (by decide) ?_
        refine x_iret rfl d_X4_write_94 ?_
        have e9 : F_write g (nI y) (nI m) v = (1, sS g (gSb g) (gSz g) (upr (gSn g) y (upd (gSn g y) m (lowF (gSb g y) v)))) := by unfold F_write shO; rw [if_pos ksh, nI_clamp (n := y) (by omega), if_neg kbt]; dsimp only; rw [if_pos (of_decide_eq_true c18), nI_clamp (n := m) (by omega)]
        rw [e9]
        exact ⟨rfl, ⟨hR34, hX33, hD35⟩, hF36⟩
    · skip
      refine x_ldc q734 d_X4_write_28 ?_
      refine x_goto 35 d_X4_write_30 (by decide) ?_
      refine x_istore [(4, .int (-1000001)), (0, .ref (E.1 + 41)), (1, .int (nI y)), (2, .int i), (3, .int v)] d_X4_write_35 (Nat.le_of_ble_eq_true rfl) rfl ?_
      refine x_iload 0 d_X4_write_37 rfl ?_
      refine x_if_eq 49 d_X4_write_39 (by decide) (fun c37 => ?_) (fun c37 => ?_)
      · exact absurd c37 (by decide)
      refine x_aload_n 1 d_X4_write_42 rfl rfl ?_
      refine x_iload 0 d_X4_write_43 rfl ?_
      refine x_cvi (k := 41) (as := [.int (-1000001)]) (c_X4_finds l E μ (i := 0) hD (by decide) (w := (-1000001)) (by decide)) v_X4_finds w_X4_finds q735 o_M rfl ⟨Nat.le_of_ble_eq_true rfl, Nat.le_of_ble_eq_true rfl⟩ rfl (Nat.le_of_ble_eq_true rfl) d_X4_write_45 ?_
      rintro _ μ38 ⟨rfl, hD39, hF40⟩
      have hR41 := MR.cg hR (μ' := μ38) (fun id hid => (hF40 _ (by omega)))
      have hX42 := MX.cg hX (μ' := μ38) (fun id hid => (hF40 _ (by omega)))
      have hF43 : ∀ id, id < 41 → μ38 id = μ id := fun id hid => (show μ38 id = μ id from (hF40 _ (by omega))).trans (hF id hid)
      refine x_iret rfl d_X4_write_48 ?_
      have e9 : F_write g (nI y) i v = fin g 0 := by unfold F_write shO; rw [if_pos ksh, nI_clamp (n := y) (by omega), if_neg kbt]; dsimp only; rw [if_neg (of_decide_eq_false c18)]
      rw [e9]
      exact ⟨rfl, MS.fin hR41 hX42 hD39, hF43⟩
def m_X4_sheet : x_M := (yX4_sheet, prog_6_method_91_code, 5, (some FieldType.int), 2, 42)
theorem v_X4_sheet : x_VM m_X4_sheet 3 := ⟨q1081, q6, by decide +kernel, by decide +kernel, by decide +kernel⟩
theorem w_X4_sheet : x_VI m_X4_sheet := ⟨q1079, q1080⟩
theorem d_X4_sheet_0 : x_dec m_X4_sheet 0 (.iload_n 1) 1 1 := ⟨by decide +kernel, rfl⟩
theorem d_X4_sheet_1 : x_dec m_X4_sheet 1 (.invokestatic 158) 3 4 := ⟨by decide +kernel, rfl⟩
theorem d_X4_sheet_4 : x_dec m_X4_sheet 4 (.ifCond .eq 25) 3 7 := ⟨by decide +kernel, rfl⟩
theorem d_X4_sheet_7 : x_dec m_X4_sheet 7 (.iload_n 2) 1 8 := ⟨by decide +kernel, rfl⟩
theorem d_X4_sheet_8 : x_dec m_X4_sheet 8 (.ifCond .eq 28) 3 11 := ⟨by decide +kernel, rfl⟩
theorem d_X4_sheet_11 : x_dec m_X4_sheet 11 (.iload_n 2) 1 12 := ⟨by decide +kernel, rfl⟩
theorem d_X4_sheet_12 : x_dec m_X4_sheet 12 (.bipush 8) 2 14 := ⟨by decide +kernel, rfl⟩
theorem d_X4_sheet_14 : x_dec m_X4_sheet 14 (.if_icmp .eq 22) 3 17 := ⟨by decide +kernel, rfl⟩
theorem d_X4_sheet_17 : x_dec m_X4_sheet 17 (.iload_n 2) 1 18 := ⟨by decide +kernel, rfl⟩
theorem d_X4_sheet_18 : x_dec m_X4_sheet 18 (.bipush 16) 2 20 := ⟨by decide +kernel, rfl⟩
theorem d_X4_sheet_20 : x_dec m_X4_sheet 20 (.if_icmp .eq 16) 3 23 := ⟨by decide +kernel, rfl⟩
theorem d_X4_sheet_23 : x_dec m_X4_sheet 23 (.iload_n 2) 1 24 := ⟨by decide +kernel, rfl⟩
theorem d_X4_sheet_24 : x_dec m_X4_sheet 24 (.bipush 32) 2 26 := ⟨by decide +kernel, rfl⟩
theorem d_X4_sheet_26 : x_dec m_X4_sheet 26 (.if_icmp .eq 10) 3 29 := ⟨by decide +kernel, rfl⟩
theorem d_X4_sheet_29 : x_dec m_X4_sheet 29 (.aload_n 0) 1 30 := ⟨by decide +kernel, rfl⟩
theorem d_X4_sheet_30 : x_dec m_X4_sheet 30 (.ldc 40) 2 32 := ⟨by decide +kernel, rfl⟩
theorem d_X4_sheet_32 : x_dec m_X4_sheet 32 (.invokevirtual 42) 3 35 := ⟨by decide +kernel, rfl⟩
theorem d_X4_sheet_35 : x_dec m_X4_sheet 35 (.ireturn) 1 36 := ⟨by decide +kernel, rfl⟩
theorem d_X4_sheet_36 : x_dec m_X4_sheet 36 (.iload_n 3) 1 37 := ⟨by decide +kernel, rfl⟩
theorem d_X4_sheet_37 : x_dec m_X4_sheet 37 (.ifCond .ge 10) 3 40 := ⟨by decide +kernel, rfl⟩
theorem d_X4_sheet_40 : x_dec m_X4_sheet 40 (.aload_n 0) 1 41 := ⟨by decide +kernel, rfl⟩
theorem d_X4_sheet_41 : x_dec m_X4_sheet 41 (.ldc 241) 2 43 := ⟨by decide +kernel, rfl⟩
theorem d_X4_sheet_43 : x_dec m_X4_sheet 43 (.invokevirtual 42) 3 46 := ⟨by decide +kernel, rfl⟩
theorem d_X4_sheet_46 : x_dec m_X4_sheet 46 (.ireturn) 1 47 := ⟨by decide +kernel, rfl⟩
theorem d_X4_sheet_47 : x_dec m_X4_sheet 47 (.iload_n 3) 1 48 := ⟨by decide +kernel, rfl⟩
theorem d_X4_sheet_48 : x_dec m_X4_sheet 48 (.bipush 40) 2 50 := ⟨by decide +kernel, rfl⟩
theorem d_X4_sheet_50 : x_dec m_X4_sheet 50 (.if_icmp .le 10) 3 53 := ⟨by decide +kernel, rfl⟩
theorem d_X4_sheet_53 : x_dec m_X4_sheet 53 (.aload_n 0) 1 54 := ⟨by decide +kernel, rfl⟩
theorem d_X4_sheet_54 : x_dec m_X4_sheet 54 (.ldc 40) 2 56 := ⟨by decide +kernel, rfl⟩
theorem d_X4_sheet_56 : x_dec m_X4_sheet 56 (.invokevirtual 42) 3 59 := ⟨by decide +kernel, rfl⟩
theorem d_X4_sheet_59 : x_dec m_X4_sheet 59 (.ireturn) 1 60 := ⟨by decide +kernel, rfl⟩
theorem d_X4_sheet_60 : x_dec m_X4_sheet 60 (.aload_n 0) 1 61 := ⟨by decide +kernel, rfl⟩
theorem d_X4_sheet_61 : x_dec m_X4_sheet 61 (.getfield 28) 3 64 := ⟨by decide +kernel, rfl⟩
theorem d_X4_sheet_64 : x_dec m_X4_sheet 64 (.iload_n 1) 1 65 := ⟨by decide +kernel, rfl⟩
theorem d_X4_sheet_65 : x_dec m_X4_sheet 65 (.iload_n 2) 1 66 := ⟨by decide +kernel, rfl⟩
theorem d_X4_sheet_66 : x_dec m_X4_sheet 66 (.iastore) 1 67 := ⟨by decide +kernel, rfl⟩
theorem d_X4_sheet_67 : x_dec m_X4_sheet 67 (.aload_n 0) 1 68 := ⟨by decide +kernel, rfl⟩
theorem d_X4_sheet_68 : x_dec m_X4_sheet 68 (.getfield 31) 3 71 := ⟨by decide +kernel, rfl⟩
theorem d_X4_sheet_71 : x_dec m_X4_sheet 71 (.iload_n 1) 1 72 := ⟨by decide +kernel, rfl⟩
theorem d_X4_sheet_72 : x_dec m_X4_sheet 72 (.iload_n 2) 1 73 := ⟨by decide +kernel, rfl⟩
theorem d_X4_sheet_73 : x_dec m_X4_sheet 73 (.ifCond .ne 7) 3 76 := ⟨by decide +kernel, rfl⟩
theorem d_X4_sheet_76 : x_dec m_X4_sheet 76 (.iconst 0) 1 77 := ⟨by decide +kernel, rfl⟩
theorem d_X4_sheet_77 : x_dec m_X4_sheet 77 (.goto 4) 3 80 := ⟨by decide +kernel, rfl⟩
theorem d_X4_sheet_80 : x_dec m_X4_sheet 80 (.iload_n 3) 1 81 := ⟨by decide +kernel, rfl⟩
theorem d_X4_sheet_81 : x_dec m_X4_sheet 81 (.iastore) 1 82 := ⟨by decide +kernel, rfl⟩
theorem d_X4_sheet_82 : x_dec m_X4_sheet 82 (.iconst 0) 1 83 := ⟨by decide +kernel, rfl⟩
theorem d_X4_sheet_83 : x_dec m_X4_sheet 83 (.istore 4) 2 85 := ⟨by decide +kernel, rfl⟩
theorem d_X4_sheet_85 : x_dec m_X4_sheet 85 (.iload 4) 2 87 := ⟨by decide +kernel, rfl⟩
theorem d_X4_sheet_87 : x_dec m_X4_sheet 87 (.bipush 40) 2 89 := ⟨by decide +kernel, rfl⟩
theorem d_X4_sheet_89 : x_dec m_X4_sheet 89 (.if_icmp .ge 22) 3 92 := ⟨by decide +kernel, rfl⟩
theorem d_X4_sheet_92 : x_dec m_X4_sheet 92 (.aload_n 0) 1 93 := ⟨by decide +kernel, rfl⟩
theorem d_X4_sheet_93 : x_dec m_X4_sheet 93 (.getfield 34) 3 96 := ⟨by decide +kernel, rfl⟩
theorem d_X4_sheet_96 : x_dec m_X4_sheet 96 (.bipush 40) 2 98 := ⟨by decide +kernel, rfl⟩
theorem d_X4_sheet_98 : x_dec m_X4_sheet 98 (.iload_n 1) 1 99 := ⟨by decide +kernel, rfl⟩
theorem d_X4_sheet_99 : x_dec m_X4_sheet 99 (.imul) 1 100 := ⟨by decide +kernel, rfl⟩
theorem d_X4_sheet_100 : x_dec m_X4_sheet 100 (.iload 4) 2 102 := ⟨by decide +kernel, rfl⟩
theorem d_X4_sheet_102 : x_dec m_X4_sheet 102 (.iadd) 1 103 := ⟨by decide +kernel, rfl⟩
theorem d_X4_sheet_103 : x_dec m_X4_sheet 103 (.iconst 0) 1 104 := ⟨by decide +kernel, rfl⟩
theorem d_X4_sheet_104 : x_dec m_X4_sheet 104 (.iastore) 1 105 := ⟨by decide +kernel, rfl⟩
theorem d_X4_sheet_105 : x_dec m_X4_sheet 105 (.iinc 4 1) 3 108 := ⟨by decide +kernel, rfl⟩
theorem d_X4_sheet_108 : x_dec m_X4_sheet 108 (.goto (-23)) 3 111 := ⟨by decide +kernel, rfl⟩
theorem d_X4_sheet_111 : x_dec m_X4_sheet 111 (.aload_n 0) 1 112 := ⟨by decide +kernel, rfl⟩
theorem d_X4_sheet_112 : x_dec m_X4_sheet 112 (.getfield 31) 3 115 := ⟨by decide +kernel, rfl⟩
theorem d_X4_sheet_115 : x_dec m_X4_sheet 115 (.iload_n 1) 1 116 := ⟨by decide +kernel, rfl⟩
theorem d_X4_sheet_116 : x_dec m_X4_sheet 116 (.iaload) 1 117 := ⟨by decide +kernel, rfl⟩
theorem d_X4_sheet_117 : x_dec m_X4_sheet 117 (.ireturn) 1 118 := ⟨by decide +kernel, rfl⟩
set_option maxHeartbeats 4000000 in
set_option maxRecDepth 100000 in
theorem c_X4_sheet (l : Launch) (E : x_E) (μ : x_Mem) (g : x_SG) (hS : MS g μ) (hI : Inv g) (s b n : Int32) : x_Met l m_X4_sheet E [.ref (E.1 + 41), .int s, .int b, .int n] μ (x_I (fun z m => z = (F_sheet g s b n).1 ∧ MS (F_sheet g s b n).2 m ∧ ∀ id, id < 41 → m id = μ id)) := by
  obtain ⟨hR, hX, hD⟩ := hS
  have hWF := hI.1.1
  have hn7 := hWF.2.1
  have hpn := hWF.1
  have hF : ∀ id, id < 41 → μ id = μ id := fun _ _ => rfl
  refine x_enter (lv := [(0, .ref (E.1 + 41)), (1, .int s), (2, .int b), (3, .int n)]) (by decide +kernel) (Nat.le_of_ble_eq_true rfl) rfl ?_
  refine x_iload_n 1 d_X4_sheet_0 rfl rfl ?_
  refine x_csip (as := [.int s]) (c_X4_isSheet l E μ s) v_X4_isSheet q962 q961 rfl ⟨Nat.le_of_ble_eq_true rfl, Nat.le_of_ble_eq_true rfl⟩ rfl (Nat.le_of_ble_eq_true rfl) d_X4_sheet_1 ?_
  refine x_ifb_eq 29 d_X4_sheet_4 (by decide) (fun c1 => ?_) (fun c1 => ?_)
  · skip
    refine x_aload_n 0 d_X4_sheet_29 rfl rfl ?_
    refine x_ldc q734 d_X4_sheet_30 ?_
    refine x_cvi (k := 41) (as := [.int (-1000001)]) (c_X4_finds l E μ (i := 0) hD (by decide) (w := (-1000001)) (by decide)) v_X4_finds w_X4_finds q735 o_M rfl ⟨Nat.le_of_ble_eq_true rfl, Nat.le_of_ble_eq_true rfl⟩ rfl (Nat.le_of_ble_eq_true rfl) d_X4_sheet_32 ?_
    rintro _ μ2 ⟨rfl, hD3, hF4⟩
    have hR5 := MR.cg hR (μ' := μ2) (fun id hid => (hF4 _ (by omega)))
    have hX6 := MX.cg hX (μ' := μ2) (fun id hid => (hF4 _ (by omega)))
    have hF7 : ∀ id, id < 41 → μ2 id = μ id := fun id hid => (show μ2 id = μ id from (hF4 _ (by omega))).trans (hF id hid)
    refine x_iret rfl d_X4_sheet_35 ?_
    have e9 : F_sheet g s b n = fin g 0 := by simp [F_sheet, x_b_f, x_b_t, show isSh s = false from c1]
    rw [e9]
    exact ⟨rfl, MS.fin hR5 hX6 hD3, hF7⟩
  · skip
    obtain ⟨y, hy, rfl⟩ := inR_nat (n := 3) (by decide) c1
    have ksh : isSh (nI y) = true := c1
    refine x_iload_n 2 d_X4_sheet_7 rfl rfl ?_
    refine x_if_eq 36 d_X4_sheet_8 (by decide) (fun c8 => ?_) (fun c8 => ?_)
    · skip
      refine x_iload_n 3 d_X4_sheet_36 rfl rfl ?_
      refine x_if_ge 47 d_X4_sheet_37 (by decide) (fun c9 => ?_) (fun c9 => ?_)
      · skip
        refine x_iload_n 3 d_X4_sheet_47 rfl rfl ?_
        refine x_bipush (x := 40) d_X4_sheet_48 (by decide) ?_
        refine x_icmp_le 60 d_X4_sheet_50 (by decide) (fun c10 => ?_) (fun c10 => ?_)
        · skip
          obtain ⟨mm, hm0, rfl⟩ := nI_of (Int32.not_lt.mpr c9)
          have hm := (nI_leI (a := mm) (b := 40) hm0 (by decide)).mp c10
          refine x_aload_n 0 d_X4_sheet_60 rfl rfl ?_
          refine x_getr (j := 7) 48 x_c4 rfl (Nat.le_of_ble_eq_true rfl) q675 rfl d_X4_sheet_61 ?_
          refine x_iload_n 1 d_X4_sheet_64 rfl rfl ?_
          refine x_iload_n 2 d_X4_sheet_65 rfl rfl ?_
          refine x_iastNG 4 y rfl rfl (by omega) (by decide) d_X4_sheet_66 (fun μ11 eμ11 => ?_)
          have hX12 : MX (sS g (upd (gSb g) y b) (gSz g) (gSn g)) μ11 := MX.sb (g := g) hX eμ11
          have hR13 := MR.cg hR (μ' := μ11) (fun id hid => (by rw [eμ11, upd2_ne _ _ _ (by omega)]))
          have hD14 := MD.cg hD (μ' := μ11) (fun id hid => (by rw [eμ11, upd2_ne _ _ _ (by omega)]))
          have hF15 : ∀ id, id < 41 → μ11 id = μ id := fun id hid => (show μ11 id = μ id from (by rw [eμ11, upd2_ne _ _ _ (by omega)])).trans (hF id hid)
          refine x_aload_n 0 d_X4_sheet_67 rfl rfl ?_
          refine x_getr (j := 8) 49 x_c4 rfl (Nat.le_of_ble_eq_true rfl) q676 rfl d_X4_sheet_68 ?_
          refine x_iload_n 1 d_X4_sheet_71 rfl rfl ?_
          refine x_iload_n 2 d_X4_sheet_72 rfl rfl ?_
          refine x_if_ne 80 d_X4_sheet_73 (by decide) (fun c16 => ?_) (fun c16 => ?_)
          · skip
            exact absurd c8 c16
          · skip
            refine x_iconst (x := 0) d_X4_sheet_76 (by decide) ?_
            refine x_goto 81 d_X4_sheet_77 (by decide) ?_
            refine x_iastNG 4 y rfl rfl (by omega) (by decide) d_X4_sheet_81 (fun μ17 eμ17 => ?_)
            have hX18 : MX (sS g (upd (gSb g) y b) (upn (gSz g) y 0) (gSn g)) μ17 := MX.sz (g := sS g (upd (gSb g) y b) (gSz g) (gSn g)) (z := 0) hX12 eμ17 rfl
            have hR19 := MR.cg hR13 (μ' := μ17) (fun id hid => (by rw [eμ17, upd2_ne _ _ _ (by omega)]))
            have hD20 := MD.cg hD14 (μ' := μ17) (fun id hid => (by rw [eμ17, upd2_ne _ _ _ (by omega)]))
            have hF21 : ∀ id, id < 41 → μ17 id = μ id := fun id hid => (show μ17 id = μ11 id from (by rw [eμ17, upd2_ne _ _ _ (by omega)])).trans (hF15 id hid)
            refine x_iconst (x := 0) d_X4_sheet_82 (by decide) ?_
            refine x_istore [(4, .int 0), (0, .ref (E.1 + 41)), (1, .int (nI y)), (2, .int b), (3, .int (nI mm))] d_X4_sheet_83 (Nat.le_of_ble_eq_true rfl) rfl ?_
            have L22 : ∀ i : Nat, i ≤ 40 → ∀ μ25 : x_Mem, (MR (gA g) μ25) → (MX (sS g (upd (gSb g) y b) (upn (gSz g) y 0) (clrN (gSn g) y i)) μ25) → (MD (gF g) μ25) → (∀ id, id < 41 → μ25 id = μ id) → x_G l E m_X4_sheet (x_mv E m_X4_sheet (x_I (fun z m => z = (F_sheet g (nI y) b (nI mm)).1 ∧ MS (F_sheet g (nI y) b (nI mm)).2 m ∧ ∀ id, id < 41 → m id = μ id))) μ25 85 [(4, .int (nI i)), (0, .ref (E.1 + 41)), (1, .int (nI y)), (2, .int b), (3, .int (nI mm))] [] := by
              refine x_down _ 40 (fun i hi24 ih23 => ?_)
              intro μ25 hR1 hX1 hD1 hF1
              refine x_iload 0 d_X4_sheet_85 rfl ?_
              refine x_bipush (x := 40) d_X4_sheet_87 (by decide) ?_
              refine x_icmp_ge 111 d_X4_sheet_89 (by decide) (fun c26 => ?_) (fun c26 => ?_)
              · skip
                have hN := x_ge (N := 40) c26 rfl rfl (by omega) (by omega)
                have e7 : i = 40 := by omega
                subst e7
                have hX77 : MX (sS g (upd (gSb g) y b) (upn (gSz g) y 0) (upr (gSn g) y (fun _ => 0))) μ25 := MX.nm (g := sS g (upd (gSb g) y b) (upn (gSz g) y 0) (clrN (gSn g) y 40)) hX1 (fun s _ i hi => clr_e s i hi)
                refine x_aload_n 1 d_X4_sheet_111 rfl rfl ?_
                refine x_getr (j := 8) 49 x_c4 rfl (Nat.le_of_ble_eq_true rfl) q676 rfl d_X4_sheet_112 ?_
                refine x_iload_n 2 d_X4_sheet_115 rfl rfl ?_
                refine x_ialdN (z := nI 0) 4 y rfl rfl (by omega) (by decide) ((hX77.2.2.2.2.2.1 y (by omega)).trans (congrArg nI (if_pos rfl))) d_X4_sheet_116 ?_
                refine x_iret rfl d_X4_sheet_117 ?_
                have e9 : F_sheet g (nI y) b (nI mm) = (nI 0, sS g (upd (gSb g) y b) (upn (gSz g) y 0) (upr (gSn g) y (fun _ => 0))) := by simp [F_sheet, show nI 0 = 0 from rfl, ksh, show ¬ (nI mm) < 0 from Int32.not_lt.mpr c9, show ¬ 40 < nI mm from Int32.not_lt.mpr c10, c8, c16, nI_clamp (n := y) (by omega), nI_clamp (n := mm) (by omega)]
                rw [e9]
                exact ⟨rfl, ⟨hR1, hX77, hD1⟩, hF1⟩
              · skip
                have hN := x_lt (N := 40) c26 rfl rfl (by omega) (by omega)
                refine x_aload_n 1 d_X4_sheet_92 rfl rfl ?_
                refine x_getr (j := 9) 50 x_c4 rfl (Nat.le_of_ble_eq_true rfl) q677 rfl d_X4_sheet_93 ?_
                refine x_bipush (x := 40) d_X4_sheet_96 (by decide) ?_
                refine x_iload_n 2 d_X4_sheet_98 rfl rfl ?_
                refine x_imul d_X4_sheet_99 ?_
                rw [show (40 : Int32) * (nI y) = nI (40 * y) from nI_mulN 40 y]
                refine x_iload 0 d_X4_sheet_100 rfl ?_
                refine x_iadd d_X4_sheet_102 ?_
                rw [show (nI (40 * y)) + (nI i) = nI ((40 * y) + i) from nI_add (40 * y) i]
                refine x_iconst (x := 0) d_X4_sheet_103 (by decide) ?_
                refine x_iastNG 160 ((40 * y) + i) rfl rfl (by omega) (by decide) d_X4_sheet_104 (fun μ27 eμ27 => ?_)
                have hX28 : MX (sS g (upd (gSb g) y b) (upn (gSz g) y 0) (clrN (gSn g) y (i + 1))) μ27 := MX.sn (g := sS g (upd (gSb g) y b) (upn (gSz g) y 0) (clrN (gSn g) y i)) hX1 (by omega) eμ27 (fun s _ i _ => clr_s s i)
                have hR29 := MR.cg hR1 (μ' := μ27) (fun id hid => (by rw [eμ27, upd2_ne _ _ _ (by omega)]))
                have hD30 := MD.cg hD1 (μ' := μ27) (fun id hid => (by rw [eμ27, upd2_ne _ _ _ (by omega)]))
                have hF31 : ∀ id, id < 41 → μ27 id = μ id := fun id hid => (show μ27 id = μ25 id from (by rw [eμ27, upd2_ne _ _ _ (by omega)])).trans (hF1 id hid)
                refine x_iinc [(4, .int (nI (i + 1))), (0, .ref (E.1 + 41)), (1, .int (nI y)), (2, .int b), (3, .int (nI mm))] 0 d_X4_sheet_105 rfl (x_inc _) (Nat.le_of_ble_eq_true rfl) rfl ?_
                refine x_goto 85 d_X4_sheet_108 (by decide) ?_
                exact ih23 (i + 1) (by omega) (by omega) μ27 hR29 hX28 hD30 hF31
            exact L22 0 (by omega) μ17 hR19 (MX.nm (g := sS g (upd (gSb g) y b) (upn (gSz g) y 0) (gSn g)) hX18 (fun s _ i _ => clr_0 s i)) hD20 hF21
        · skip
          refine x_aload_n 0 d_X4_sheet_53 rfl rfl ?_
          refine x_ldc q734 d_X4_sheet_54 ?_
          refine x_cvi (k := 41) (as := [.int (-1000001)]) (c_X4_finds l E μ (i := 0) hD (by decide) (w := (-1000001)) (by decide)) v_X4_finds w_X4_finds q735 o_M rfl ⟨Nat.le_of_ble_eq_true rfl, Nat.le_of_ble_eq_true rfl⟩ rfl (Nat.le_of_ble_eq_true rfl) d_X4_sheet_56 ?_
          rintro _ μ32 ⟨rfl, hD33, hF34⟩
          have hR35 := MR.cg hR (μ' := μ32) (fun id hid => (hF34 _ (by omega)))
          have hX36 := MX.cg hX (μ' := μ32) (fun id hid => (hF34 _ (by omega)))
          have hF37 : ∀ id, id < 41 → μ32 id = μ id := fun id hid => (show μ32 id = μ id from (hF34 _ (by omega))).trans (hF id hid)
          refine x_iret rfl d_X4_sheet_59 ?_
          have e9 : F_sheet g (nI y) b n = fin g 0 := by simp [F_sheet, x_b_f, x_b_t, nI_clamp (n := y) (by omega), ksh, show ¬ n < 0 from Int32.not_lt.mpr c9, show 40 < n from Int32.not_le.mp c10, c8]
          rw [e9]
          exact ⟨rfl, MS.fin hR35 hX36 hD33, hF37⟩
      · skip
        refine x_aload_n 0 d_X4_sheet_40 rfl rfl ?_
        refine x_ldc q1082 d_X4_sheet_41 ?_
        refine x_cvi (k := 41) (as := [.int (-1000007)]) (c_X4_finds l E μ (i := 6) hD (by decide) (w := (-1000007)) (by decide)) v_X4_finds w_X4_finds q735 o_M rfl ⟨Nat.le_of_ble_eq_true rfl, Nat.le_of_ble_eq_true rfl⟩ rfl (Nat.le_of_ble_eq_true rfl) d_X4_sheet_43 ?_
        rintro _ μ38 ⟨rfl, hD39, hF40⟩
        have hR41 := MR.cg hR (μ' := μ38) (fun id hid => (hF40 _ (by omega)))
        have hX42 := MX.cg hX (μ' := μ38) (fun id hid => (hF40 _ (by omega)))
        have hF43 : ∀ id, id < 41 → μ38 id = μ id := fun id hid => (show μ38 id = μ id from (hF40 _ (by omega))).trans (hF id hid)
        refine x_iret rfl d_X4_sheet_46 ?_
        have e9 : F_sheet g (nI y) b n = fin g 6 := by simp [F_sheet, x_b_f, x_b_t, nI_clamp (n := y) (by omega), ksh, show n < 0 from Int32.not_le.mp c9, c8]
        rw [e9]
        exact ⟨rfl, MS.fin hR41 hX42 hD39, hF43⟩
    · skip
      refine x_iload_n 2 d_X4_sheet_11 rfl rfl ?_
      refine x_bipush (x := 8) d_X4_sheet_12 (by decide) ?_
      refine x_icmp_eq 36 d_X4_sheet_14 (by decide) (fun c44 => ?_) (fun c44 => ?_)
      · skip
        refine x_iload_n 3 d_X4_sheet_36 rfl rfl ?_
        refine x_if_ge 47 d_X4_sheet_37 (by decide) (fun c45 => ?_) (fun c45 => ?_)
        · skip
          refine x_iload_n 3 d_X4_sheet_47 rfl rfl ?_
          refine x_bipush (x := 40) d_X4_sheet_48 (by decide) ?_
          refine x_icmp_le 60 d_X4_sheet_50 (by decide) (fun c46 => ?_) (fun c46 => ?_)
          · skip
            obtain ⟨mm, hm0, rfl⟩ := nI_of (Int32.not_lt.mpr c45)
            have hm := (nI_leI (a := mm) (b := 40) hm0 (by decide)).mp c46
            refine x_aload_n 0 d_X4_sheet_60 rfl rfl ?_
            refine x_getr (j := 7) 48 x_c4 rfl (Nat.le_of_ble_eq_true rfl) q675 rfl d_X4_sheet_61 ?_
            refine x_iload_n 1 d_X4_sheet_64 rfl rfl ?_
            refine x_iload_n 2 d_X4_sheet_65 rfl rfl ?_
            refine x_iastNG 4 y rfl rfl (by omega) (by decide) d_X4_sheet_66 (fun μ47 eμ47 => ?_)
            have hX48 : MX (sS g (upd (gSb g) y b) (gSz g) (gSn g)) μ47 := MX.sb (g := g) hX eμ47
            have hR49 := MR.cg hR (μ' := μ47) (fun id hid => (by rw [eμ47, upd2_ne _ _ _ (by omega)]))
            have hD50 := MD.cg hD (μ' := μ47) (fun id hid => (by rw [eμ47, upd2_ne _ _ _ (by omega)]))
            have hF51 : ∀ id, id < 41 → μ47 id = μ id := fun id hid => (show μ47 id = μ id from (by rw [eμ47, upd2_ne _ _ _ (by omega)])).trans (hF id hid)
            refine x_aload_n 0 d_X4_sheet_67 rfl rfl ?_
            refine x_getr (j := 8) 49 x_c4 rfl (Nat.le_of_ble_eq_true rfl) q676 rfl d_X4_sheet_68 ?_
            refine x_iload_n 1 d_X4_sheet_71 rfl rfl ?_
            refine x_iload_n 2 d_X4_sheet_72 rfl rfl ?_
            refine x_if_ne 80 d_X4_sheet_73 (by decide) (fun c52 => ?_) (fun c52 => ?_)
            · skip
              refine x_iload_n 3 d_X4_sheet_80 rfl rfl ?_
              refine x_iastNG 4 y rfl rfl (by omega) (by decide) d_X4_sheet_81 (fun μ53 eμ53 => ?_)
              have hX54 : MX (sS g (upd (gSb g) y b) (upn (gSz g) y mm) (gSn g)) μ53 := MX.sz (g := sS g (upd (gSb g) y b) (gSz g) (gSn g)) (z := mm) hX48 eμ53 rfl
              have hR55 := MR.cg hR49 (μ' := μ53) (fun id hid => (by rw [eμ53, upd2_ne _ _ _ (by omega)]))
              have hD56 := MD.cg hD50 (μ' := μ53) (fun id hid => (by rw [eμ53, upd2_ne _ _ _ (by omega)]))
              have hF57 : ∀ id, id < 41 → μ53 id = μ id := fun id hid => (show μ53 id = μ47 id from (by rw [eμ53, upd2_ne _ _ _ (by omega)])).trans (hF51 id hid)
              refine x_iconst (x := 0) d_X4_sheet_82 (by decide) ?_
              refine x_istore [(4, .int 0), (0, .ref (E.1 + 41)), (1, .int (nI y)), (2, .int b), (3, .int (nI mm))] d_X4_sheet_83 (Nat.le_of_ble_eq_true rfl) rfl ?_
              have L58 : ∀ i : Nat, i ≤ 40 → ∀ μ61 : x_Mem, (MR (gA g) μ61) → (MX (sS g (upd (gSb g) y b) (upn (gSz g) y mm) (clrN (gSn g) y i)) μ61) → (MD (gF g) μ61) → (∀ id, id < 41 → μ61 id = μ id) → x_G l E m_X4_sheet (x_mv E m_X4_sheet (x_I (fun z m => z = (F_sheet g (nI y) b (nI mm)).1 ∧ MS (F_sheet g (nI y) b (nI mm)).2 m ∧ ∀ id, id < 41 → m id = μ id))) μ61 85 [(4, .int (nI i)), (0, .ref (E.1 + 41)), (1, .int (nI y)), (2, .int b), (3, .int (nI mm))] [] := by
                refine x_down _ 40 (fun i hi60 ih59 => ?_)
                intro μ61 hR1 hX1 hD1 hF1
                refine x_iload 0 d_X4_sheet_85 rfl ?_
                refine x_bipush (x := 40) d_X4_sheet_87 (by decide) ?_
                refine x_icmp_ge 111 d_X4_sheet_89 (by decide) (fun c62 => ?_) (fun c62 => ?_)
                · skip
                  have hN := x_ge (N := 40) c62 rfl rfl (by omega) (by omega)
                  have e7 : i = 40 := by omega
                  subst e7
                  have hX77 : MX (sS g (upd (gSb g) y b) (upn (gSz g) y mm) (upr (gSn g) y (fun _ => 0))) μ61 := MX.nm (g := sS g (upd (gSb g) y b) (upn (gSz g) y mm) (clrN (gSn g) y 40)) hX1 (fun s _ i hi => clr_e s i hi)
                  refine x_aload_n 1 d_X4_sheet_111 rfl rfl ?_
                  refine x_getr (j := 8) 49 x_c4 rfl (Nat.le_of_ble_eq_true rfl) q676 rfl d_X4_sheet_112 ?_
                  refine x_iload_n 2 d_X4_sheet_115 rfl rfl ?_
                  refine x_ialdN (z := nI mm) 4 y rfl rfl (by omega) (by decide) ((hX77.2.2.2.2.2.1 y (by omega)).trans (congrArg nI (if_pos rfl))) d_X4_sheet_116 ?_
                  refine x_iret rfl d_X4_sheet_117 ?_
                  have e9 : F_sheet g (nI y) b (nI mm) = (nI mm, sS g (upd (gSb g) y b) (upn (gSz g) y mm) (upr (gSn g) y (fun _ => 0))) := by simp [F_sheet, show nI 0 = 0 from rfl, ksh, show ¬ (nI mm) < 0 from Int32.not_lt.mpr c45, show ¬ 40 < nI mm from Int32.not_lt.mpr c46, c8, c44, c52, nI_clamp (n := y) (by omega), nI_clamp (n := mm) (by omega)]
                  rw [e9]
                  exact ⟨rfl, ⟨hR1, hX77, hD1⟩, hF1⟩
                · skip
                  have hN := x_lt (N := 40) c62 rfl rfl (by omega) (by omega)
                  refine x_aload_n 1 d_X4_sheet_92 rfl rfl ?_
                  refine x_getr (j := 9) 50 x_c4 rfl (Nat.le_of_ble_eq_true rfl) q677 rfl d_X4_sheet_93 ?_
                  refine x_bipush (x := 40) d_X4_sheet_96 (by decide) ?_
                  refine x_iload_n 2 d_X4_sheet_98 rfl rfl ?_
                  refine x_imul d_X4_sheet_99 ?_
                  rw [show (40 : Int32) * (nI y) = nI (40 * y) from nI_mulN 40 y]
                  refine x_iload 0 d_X4_sheet_100 rfl ?_
                  refine x_iadd d_X4_sheet_102 ?_
                  rw [show (nI (40 * y)) + (nI i) = nI ((40 * y) + i) from nI_add (40 * y) i]
                  refine x_iconst (x := 0) d_X4_sheet_103 (by decide) ?_
                  refine x_iastNG 160 ((40 * y) + i) rfl rfl (by omega) (by decide) d_X4_sheet_104 (fun μ63 eμ63 => ?_)
                  have hX64 : MX (sS g (upd (gSb g) y b) (upn (gSz g) y mm) (clrN (gSn g) y (i + 1))) μ63 := MX.sn (g := sS g (upd (gSb g) y b) (upn (gSz g) y mm) (clrN (gSn g) y i)) hX1 (by omega) eμ63 (fun s _ i _ => clr_s s i)
                  have hR65 := MR.cg hR1 (μ' := μ63) (fun id hid => (by rw [eμ63, upd2_ne _ _ _ (by omega)]))
                  have hD66 := MD.cg hD1 (μ' := μ63) (fun id hid => (by rw [eμ63, upd2_ne _ _ _ (by omega)]))
                  have hF67 : ∀ id, id < 41 → μ63 id = μ id := fun id hid => (show μ63 id = μ61 id from (by rw [eμ63, upd2_ne _ _ _ (by omega)])).trans (hF1 id hid)
                  refine x_iinc [(4, .int (nI (i + 1))), (0, .ref (E.1 + 41)), (1, .int (nI y)), (2, .int b), (3, .int (nI mm))] 0 d_X4_sheet_105 rfl (x_inc _) (Nat.le_of_ble_eq_true rfl) rfl ?_
                  refine x_goto 85 d_X4_sheet_108 (by decide) ?_
                  exact ih59 (i + 1) (by omega) (by omega) μ63 hR65 hX64 hD66 hF67
              exact L58 0 (by omega) μ53 hR55 (MX.nm (g := sS g (upd (gSb g) y b) (upn (gSz g) y mm) (gSn g)) hX54 (fun s _ i _ => clr_0 s i)) hD56 hF57
            · skip
              exact absurd (c44.symm.trans c52) (by decide)
          · skip
            refine x_aload_n 0 d_X4_sheet_53 rfl rfl ?_
            refine x_ldc q734 d_X4_sheet_54 ?_
            refine x_cvi (k := 41) (as := [.int (-1000001)]) (c_X4_finds l E μ (i := 0) hD (by decide) (w := (-1000001)) (by decide)) v_X4_finds w_X4_finds q735 o_M rfl ⟨Nat.le_of_ble_eq_true rfl, Nat.le_of_ble_eq_true rfl⟩ rfl (Nat.le_of_ble_eq_true rfl) d_X4_sheet_56 ?_
            rintro _ μ68 ⟨rfl, hD69, hF70⟩
            have hR71 := MR.cg hR (μ' := μ68) (fun id hid => (hF70 _ (by omega)))
            have hX72 := MX.cg hX (μ' := μ68) (fun id hid => (hF70 _ (by omega)))
            have hF73 : ∀ id, id < 41 → μ68 id = μ id := fun id hid => (show μ68 id = μ id from (hF70 _ (by omega))).trans (hF id hid)
            refine x_iret rfl d_X4_sheet_59 ?_
            have e9 : F_sheet g (nI y) b n = fin g 0 := by simp [F_sheet, x_b_f, x_b_t, nI_clamp (n := y) (by omega), ksh, show ¬ n < 0 from Int32.not_lt.mpr c45, show 40 < n from Int32.not_le.mp c46, c8, c44]
            rw [e9]
            exact ⟨rfl, MS.fin hR71 hX72 hD69, hF73⟩
        · skip
          refine x_aload_n 0 d_X4_sheet_40 rfl rfl ?_
          refine x_ldc q1082 d_X4_sheet_41 ?_
          refine x_cvi (k := 41) (as := [.int (-1000007)]) (c_X4_finds l E μ (i := 6) hD (by decide) (w := (-1000007)) (by decide)) v_X4_finds w_X4_finds q735 o_M rfl ⟨Nat.le_of_ble_eq_true rfl, Nat.le_of_ble_eq_true rfl⟩ rfl (Nat.le_of_ble_eq_true rfl) d_X4_sheet_43 ?_
          rintro _ μ74 ⟨rfl, hD75, hF76⟩
          have hR77 := MR.cg hR (μ' := μ74) (fun id hid => (hF76 _ (by omega)))
          have hX78 := MX.cg hX (μ' := μ74) (fun id hid => (hF76 _ (by omega)))
          have hF79 : ∀ id, id < 41 → μ74 id = μ id := fun id hid => (show μ74 id = μ id from (hF76 _ (by omega))).trans (hF id hid)
          refine x_iret rfl d_X4_sheet_46 ?_
          have e9 : F_sheet g (nI y) b n = fin g 6 := by simp [F_sheet, x_b_f, x_b_t, nI_clamp (n := y) (by omega), ksh, show n < 0 from Int32.not_le.mp c45, c8, c44]
          rw [e9]
          exact ⟨rfl, MS.fin hR77 hX78 hD75, hF79⟩
      · skip
        refine x_iload_n 2 d_X4_sheet_17 rfl rfl ?_
        refine x_bipush (x := 16) d_X4_sheet_18 (by decide) ?_
        refine x_icmp_eq 36 d_X4_sheet_20 (by decide) (fun c80 => ?_) (fun c80 => ?_)
        · skip
          refine x_iload_n 3 d_X4_sheet_36 rfl rfl ?_
          refine x_if_ge 47 d_X4_sheet_37 (by decide) (fun c81 => ?_) (fun c81 => ?_)
          · skip
            refine x_iload_n 3 d_X4_sheet_47 rfl rfl ?_
            refine x_bipush (x := 40) d_X4_sheet_48 (by decide) ?_
            refine x_icmp_le 60 d_X4_sheet_50 (by decide) (fun c82 => ?_) (fun c82 => ?_)
            · skip
              obtain ⟨mm, hm0, rfl⟩ := nI_of (Int32.not_lt.mpr c81)
              have hm := (nI_leI (a := mm) (b := 40) hm0 (by decide)).mp c82
              refine x_aload_n 0 d_X4_sheet_60 rfl rfl ?_
              refine x_getr (j := 7) 48 x_c4 rfl (Nat.le_of_ble_eq_true rfl) q675 rfl d_X4_sheet_61 ?_
              refine x_iload_n 1 d_X4_sheet_64 rfl rfl ?_
              refine x_iload_n 2 d_X4_sheet_65 rfl rfl ?_
              refine x_iastNG 4 y rfl rfl (by omega) (by decide) d_X4_sheet_66 (fun μ83 eμ83 => ?_)
              have hX84 : MX (sS g (upd (gSb g) y b) (gSz g) (gSn g)) μ83 := MX.sb (g := g) hX eμ83
              have hR85 := MR.cg hR (μ' := μ83) (fun id hid => (by rw [eμ83, upd2_ne _ _ _ (by omega)]))
              have hD86 := MD.cg hD (μ' := μ83) (fun id hid => (by rw [eμ83, upd2_ne _ _ _ (by omega)]))
              have hF87 : ∀ id, id < 41 → μ83 id = μ id := fun id hid => (show μ83 id = μ id from (by rw [eμ83, upd2_ne _ _ _ (by omega)])).trans (hF id hid)
              refine x_aload_n 0 d_X4_sheet_67 rfl rfl ?_
              refine x_getr (j := 8) 49 x_c4 rfl (Nat.le_of_ble_eq_true rfl) q676 rfl d_X4_sheet_68 ?_
              refine x_iload_n 1 d_X4_sheet_71 rfl rfl ?_
              refine x_iload_n 2 d_X4_sheet_72 rfl rfl ?_
              refine x_if_ne 80 d_X4_sheet_73 (by decide) (fun c88 => ?_) (fun c88 => ?_)
              · skip
                refine x_iload_n 3 d_X4_sheet_80 rfl rfl ?_
                refine x_iastNG 4 y rfl rfl (by omega) (by decide) d_X4_sheet_81 (fun μ89 eμ89 => ?_)
                have hX90 : MX (sS g (upd (gSb g) y b) (upn (gSz g) y mm) (gSn g)) μ89 := MX.sz (g := sS g (upd (gSb g) y b) (gSz g) (gSn g)) (z := mm) hX84 eμ89 rfl
                have hR91 := MR.cg hR85 (μ' := μ89) (fun id hid => (by rw [eμ89, upd2_ne _ _ _ (by omega)]))
                have hD92 := MD.cg hD86 (μ' := μ89) (fun id hid => (by rw [eμ89, upd2_ne _ _ _ (by omega)]))
                have hF93 : ∀ id, id < 41 → μ89 id = μ id := fun id hid => (show μ89 id = μ83 id from (by rw [eμ89, upd2_ne _ _ _ (by omega)])).trans (hF87 id hid)
                refine x_iconst (x := 0) d_X4_sheet_82 (by decide) ?_
                refine x_istore [(4, .int 0), (0, .ref (E.1 + 41)), (1, .int (nI y)), (2, .int b), (3, .int (nI mm))] d_X4_sheet_83 (Nat.le_of_ble_eq_true rfl) rfl ?_
                have L94 : ∀ i : Nat, i ≤ 40 → ∀ μ97 : x_Mem, (MR (gA g) μ97) → (MX (sS g (upd (gSb g) y b) (upn (gSz g) y mm) (clrN (gSn g) y i)) μ97) → (MD (gF g) μ97) → (∀ id, id < 41 → μ97 id = μ id) → x_G l E m_X4_sheet (x_mv E m_X4_sheet (x_I (fun z m => z = (F_sheet g (nI y) b (nI mm)).1 ∧ MS (F_sheet g (nI y) b (nI mm)).2 m ∧ ∀ id, id < 41 → m id = μ id))) μ97 85 [(4, .int (nI i)), (0, .ref (E.1 + 41)), (1, .int (nI y)), (2, .int b), (3, .int (nI mm))] [] := by
                  refine x_down _ 40 (fun i hi96 ih95 => ?_)
                  intro μ97 hR1 hX1 hD1 hF1
                  refine x_iload 0 d_X4_sheet_85 rfl ?_
                  refine x_bipush (x := 40) d_X4_sheet_87 (by decide) ?_
                  refine x_icmp_ge 111 d_X4_sheet_89 (by decide) (fun c98 => ?_) (fun c98 => ?_)
                  · skip
                    have hN := x_ge (N := 40) c98 rfl rfl (by omega) (by omega)
                    have e7 : i = 40 := by omega
                    subst e7
                    have hX77 : MX (sS g (upd (gSb g) y b) (upn (gSz g) y mm) (upr (gSn g) y (fun _ => 0))) μ97 := MX.nm (g := sS g (upd (gSb g) y b) (upn (gSz g) y mm) (clrN (gSn g) y 40)) hX1 (fun s _ i hi => clr_e s i hi)
                    refine x_aload_n 1 d_X4_sheet_111 rfl rfl ?_
                    refine x_getr (j := 8) 49 x_c4 rfl (Nat.le_of_ble_eq_true rfl) q676 rfl d_X4_sheet_112 ?_
                    refine x_iload_n 2 d_X4_sheet_115 rfl rfl ?_
                    refine x_ialdN (z := nI mm) 4 y rfl rfl (by omega) (by decide) ((hX77.2.2.2.2.2.1 y (by omega)).trans (congrArg nI (if_pos rfl))) d_X4_sheet_116 ?_
                    refine x_iret rfl d_X4_sheet_117 ?_
                    have e9 : F_sheet g (nI y) b (nI mm) = (nI mm, sS g (upd (gSb g) y b) (upn (gSz g) y mm) (upr (gSn g) y (fun _ => 0))) := by simp [F_sheet, show nI 0 = 0 from rfl, ksh, show ¬ (nI mm) < 0 from Int32.not_lt.mpr c81, show ¬ 40 < nI mm from Int32.not_lt.mpr c82, c8, c44, c80, c88, nI_clamp (n := y) (by omega), nI_clamp (n := mm) (by omega)]
                    rw [e9]
                    exact ⟨rfl, ⟨hR1, hX77, hD1⟩, hF1⟩
                  · skip
                    have hN := x_lt (N := 40) c98 rfl rfl (by omega) (by omega)
                    refine x_aload_n 1 d_X4_sheet_92 rfl rfl ?_
                    refine x_getr (j := 9) 50 x_c4 rfl (Nat.le_of_ble_eq_true rfl) q677 rfl d_X4_sheet_93 ?_
                    refine x_bipush (x := 40) d_X4_sheet_96 (by decide) ?_
                    refine x_iload_n 2 d_X4_sheet_98 rfl rfl ?_
                    refine x_imul d_X4_sheet_99 ?_
                    rw [show (40 : Int32) * (nI y) = nI (40 * y) from nI_mulN 40 y]
                    refine x_iload 0 d_X4_sheet_100 rfl ?_
                    refine x_iadd d_X4_sheet_102 ?_
                    rw [show (nI (40 * y)) + (nI i) = nI ((40 * y) + i) from nI_add (40 * y) i]
                    refine x_iconst (x := 0) d_X4_sheet_103 (by decide) ?_
                    refine x_iastNG 160 ((40 * y) + i) rfl rfl (by omega) (by decide) d_X4_sheet_104 (fun μ99 eμ99 => ?_)
                    have hX100 : MX (sS g (upd (gSb g) y b) (upn (gSz g) y mm) (clrN (gSn g) y (i + 1))) μ99 := MX.sn (g := sS g (upd (gSb g) y b) (upn (gSz g) y mm) (clrN (gSn g) y i)) hX1 (by omega) eμ99 (fun s _ i _ => clr_s s i)
                    have hR101 := MR.cg hR1 (μ' := μ99) (fun id hid => (by rw [eμ99, upd2_ne _ _ _ (by omega)]))
                    have hD102 := MD.cg hD1 (μ' := μ99) (fun id hid => (by rw [eμ99, upd2_ne _ _ _ (by omega)]))
                    have hF103 : ∀ id, id < 41 → μ99 id = μ id := fun id hid => (show μ99 id = μ97 id from (by rw [eμ99, upd2_ne _ _ _ (by omega)])).trans (hF1 id hid)
                    refine x_iinc [(4, .int (nI (i + 1))), (0, .ref (E.1 + 41)), (1, .int (nI y)), (2, .int b), (3, .int (nI mm))] 0 d_X4_sheet_105 rfl (x_inc _) (Nat.le_of_ble_eq_true rfl) rfl ?_
                    refine x_goto 85 d_X4_sheet_108 (by decide) ?_
                    exact ih95 (i + 1) (by omega) (by omega) μ99 hR101 hX100 hD102 hF103
                exact L94 0 (by omega) μ89 hR91 (MX.nm (g := sS g (upd (gSb g) y b) (upn (gSz g) y mm) (gSn g)) hX90 (fun s _ i _ => clr_0 s i)) hD92 hF93
              · skip
                exact absurd (c80.symm.trans c88) (by decide)
            · skip
              refine x_aload_n 0 d_X4_sheet_53 rfl rfl ?_
              refine x_ldc q734 d_X4_sheet_54 ?_
              refine x_cvi (k := 41) (as := [.int (-1000001)]) (c_X4_finds l E μ (i := 0) hD (by decide) (w := (-1000001)) (by decide)) v_X4_finds w_X4_finds q735 o_M rfl ⟨Nat.le_of_ble_eq_true rfl, Nat.le_of_ble_eq_true rfl⟩ rfl (Nat.le_of_ble_eq_true rfl) d_X4_sheet_56 ?_
              rintro _ μ104 ⟨rfl, hD105, hF106⟩
              have hR107 := MR.cg hR (μ' := μ104) (fun id hid => (hF106 _ (by omega)))
              have hX108 := MX.cg hX (μ' := μ104) (fun id hid => (hF106 _ (by omega)))
              have hF109 : ∀ id, id < 41 → μ104 id = μ id := fun id hid => (show μ104 id = μ id from (hF106 _ (by omega))).trans (hF id hid)
              refine x_iret rfl d_X4_sheet_59 ?_
              have e9 : F_sheet g (nI y) b n = fin g 0 := by simp [F_sheet, x_b_f, x_b_t, nI_clamp (n := y) (by omega), ksh, show ¬ n < 0 from Int32.not_lt.mpr c81, show 40 < n from Int32.not_le.mp c82, c8, c44, c80]
              rw [e9]
              exact ⟨rfl, MS.fin hR107 hX108 hD105, hF109⟩
          · skip
            refine x_aload_n 0 d_X4_sheet_40 rfl rfl ?_
            refine x_ldc q1082 d_X4_sheet_41 ?_
            refine x_cvi (k := 41) (as := [.int (-1000007)]) (c_X4_finds l E μ (i := 6) hD (by decide) (w := (-1000007)) (by decide)) v_X4_finds w_X4_finds q735 o_M rfl ⟨Nat.le_of_ble_eq_true rfl, Nat.le_of_ble_eq_true rfl⟩ rfl (Nat.le_of_ble_eq_true rfl) d_X4_sheet_43 ?_
            rintro _ μ110 ⟨rfl, hD111, hF112⟩
            have hR113 := MR.cg hR (μ' := μ110) (fun id hid => (hF112 _ (by omega)))
            have hX114 := MX.cg hX (μ' := μ110) (fun id hid => (hF112 _ (by omega)))
            have hF115 : ∀ id, id < 41 → μ110 id = μ id := fun id hid => (show μ110 id = μ id from (hF112 _ (by omega))).trans (hF id hid)
            refine x_iret rfl d_X4_sheet_46 ?_
            have e9 : F_sheet g (nI y) b n = fin g 6 := by simp [F_sheet, x_b_f, x_b_t, nI_clamp (n := y) (by omega), ksh, show n < 0 from Int32.not_le.mp c81, c8, c44, c80]
            rw [e9]
            exact ⟨rfl, MS.fin hR113 hX114 hD111, hF115⟩
        · skip
          refine x_iload_n 2 d_X4_sheet_23 rfl rfl ?_
          refine x_bipush (x := 32) d_X4_sheet_24 (by decide) ?_
          refine x_icmp_eq 36 d_X4_sheet_26 (by decide) (fun c116 => ?_) (fun c116 => ?_)
          · skip
            refine x_iload_n 3 d_X4_sheet_36 rfl rfl ?_
            refine x_if_ge 47 d_X4_sheet_37 (by decide) (fun c117 => ?_) (fun c117 => ?_)
            · skip
              refine x_iload_n 3 d_X4_sheet_47 rfl rfl ?_
              refine x_bipush (x := 40) d_X4_sheet_48 (by decide) ?_
              refine x_icmp_le 60 d_X4_sheet_50 (by decide) (fun c118 => ?_) (fun c118 => ?_)
              · skip
                obtain ⟨mm, hm0, rfl⟩ := nI_of (Int32.not_lt.mpr c117)
                have hm := (nI_leI (a := mm) (b := 40) hm0 (by decide)).mp c118
                refine x_aload_n 0 d_X4_sheet_60 rfl rfl ?_
                refine x_getr (j := 7) 48 x_c4 rfl (Nat.le_of_ble_eq_true rfl) q675 rfl d_X4_sheet_61 ?_
                refine x_iload_n 1 d_X4_sheet_64 rfl rfl ?_
                refine x_iload_n 2 d_X4_sheet_65 rfl rfl ?_
                refine x_iastNG 4 y rfl rfl (by omega) (by decide) d_X4_sheet_66 (fun μ119 eμ119 => ?_)
                have hX120 : MX (sS g (upd (gSb g) y b) (gSz g) (gSn g)) μ119 := MX.sb (g := g) hX eμ119
                have hR121 := MR.cg hR (μ' := μ119) (fun id hid => (by rw [eμ119, upd2_ne _ _ _ (by omega)]))
                have hD122 := MD.cg hD (μ' := μ119) (fun id hid => (by rw [eμ119, upd2_ne _ _ _ (by omega)]))
                have hF123 : ∀ id, id < 41 → μ119 id = μ id := fun id hid => (show μ119 id = μ id from (by rw [eμ119, upd2_ne _ _ _ (by omega)])).trans (hF id hid)
                refine x_aload_n 0 d_X4_sheet_67 rfl rfl ?_
                refine x_getr (j := 8) 49 x_c4 rfl (Nat.le_of_ble_eq_true rfl) q676 rfl d_X4_sheet_68 ?_
                refine x_iload_n 1 d_X4_sheet_71 rfl rfl ?_
                refine x_iload_n 2 d_X4_sheet_72 rfl rfl ?_
                refine x_if_ne 80 d_X4_sheet_73 (by decide) (fun c124 => ?_) (fun c124 => ?_)
                · skip
                  refine x_iload_n 3 d_X4_sheet_80 rfl rfl ?_
                  refine x_iastNG 4 y rfl rfl (by omega) (by decide) d_X4_sheet_81 (fun μ125 eμ125 => ?_)
                  have hX126 : MX (sS g (upd (gSb g) y b) (upn (gSz g) y mm) (gSn g)) μ125 := MX.sz (g := sS g (upd (gSb g) y b) (gSz g) (gSn g)) (z := mm) hX120 eμ125 rfl
                  have hR127 := MR.cg hR121 (μ' := μ125) (fun id hid => (by rw [eμ125, upd2_ne _ _ _ (by omega)]))
                  have hD128 := MD.cg hD122 (μ' := μ125) (fun id hid => (by rw [eμ125, upd2_ne _ _ _ (by omega)]))
                  have hF129 : ∀ id, id < 41 → μ125 id = μ id := fun id hid => (show μ125 id = μ119 id from (by rw [eμ125, upd2_ne _ _ _ (by omega)])).trans (hF123 id hid)
                  refine x_iconst (x := 0) d_X4_sheet_82 (by decide) ?_
                  refine x_istore [(4, .int 0), (0, .ref (E.1 + 41)), (1, .int (nI y)), (2, .int b), (3, .int (nI mm))] d_X4_sheet_83 (Nat.le_of_ble_eq_true rfl) rfl ?_
                  have L130 : ∀ i : Nat, i ≤ 40 → ∀ μ133 : x_Mem, (MR (gA g) μ133) → (MX (sS g (upd (gSb g) y b) (upn (gSz g) y mm) (clrN (gSn g) y i)) μ133) → (MD (gF g) μ133) → (∀ id, id < 41 → μ133 id = μ id) → x_G l E m_X4_sheet (x_mv E m_X4_sheet (x_I (fun z m => z = (F_sheet g (nI y) b (nI mm)).1 ∧ MS (F_sheet g (nI y) b (nI mm)).2 m ∧ ∀ id, id < 41 → m id = μ id))) μ133 85 [(4, .int (nI i)), (0, .ref (E.1 + 41)), (1, .int (nI y)), (2, .int b), (3, .int (nI mm))] [] := by
                    refine x_down _ 40 (fun i hi132 ih131 => ?_)
                    intro μ133 hR1 hX1 hD1 hF1
                    refine x_iload 0 d_X4_sheet_85 rfl ?_
                    refine x_bipush (x := 40) d_X4_sheet_87 (by decide) ?_
                    refine x_icmp_ge 111 d_X4_sheet_89 (by decide) (fun c134 => ?_) (fun c134 => ?_)
                    · skip
                      have hN := x_ge (N := 40) c134 rfl rfl (by omega) (by omega)
                      have e7 : i = 40 := by omega
                      subst e7
                      have hX77 : MX (sS g (upd (gSb g) y b) (upn (gSz g) y mm) (upr (gSn g) y (fun _ => 0))) μ133 := MX.nm (g := sS g (upd (gSb g) y b) (upn (gSz g) y mm) (clrN (gSn g) y 40)) hX1 (fun s _ i hi => clr_e s i hi)
                      refine x_aload_n 1 d_X4_sheet_111 rfl rfl ?_
                      refine x_getr (j := 8) 49 x_c4 rfl (Nat.le_of_ble_eq_true rfl) q676 rfl d_X4_sheet_112 ?_
                      refine x_iload_n 2 d_X4_sheet_115 rfl rfl ?_
                      refine x_ialdN (z := nI mm) 4 y rfl rfl (by omega) (by decide) ((hX77.2.2.2.2.2.1 y (by omega)).trans (congrArg nI (if_pos rfl))) d_X4_sheet_116 ?_
                      refine x_iret rfl d_X4_sheet_117 ?_
                      have e9 : F_sheet g (nI y) b (nI mm) = (nI mm, sS g (upd (gSb g) y b) (upn (gSz g) y mm) (upr (gSn g) y (fun _ => 0))) := by simp [F_sheet, show nI 0 = 0 from rfl, ksh, show ¬ (nI mm) < 0 from Int32.not_lt.mpr c117, show ¬ 40 < nI mm from Int32.not_lt.mpr c118, c8, c44, c80, c116, c124, nI_clamp (n := y) (by omega), nI_clamp (n := mm) (by omega)]
                      rw [e9]
                      exact ⟨rfl, ⟨hR1, hX77, hD1⟩, hF1⟩
                    · skip
                      have hN := x_lt (N := 40) c134 rfl rfl (by omega) (by omega)
                      refine x_aload_n 1 d_X4_sheet_92 rfl rfl ?_
                      refine x_getr (j := 9) 50 x_c4 rfl (Nat.le_of_ble_eq_true rfl) q677 rfl d_X4_sheet_93 ?_
                      refine x_bipush (x := 40) d_X4_sheet_96 (by decide) ?_
                      refine x_iload_n 2 d_X4_sheet_98 rfl rfl ?_
                      refine x_imul d_X4_sheet_99 ?_
                      rw [show (40 : Int32) * (nI y) = nI (40 * y) from nI_mulN 40 y]
                      refine x_iload 0 d_X4_sheet_100 rfl ?_
                      refine x_iadd d_X4_sheet_102 ?_
                      rw [show (nI (40 * y)) + (nI i) = nI ((40 * y) + i) from nI_add (40 * y) i]
                      refine x_iconst (x := 0) d_X4_sheet_103 (by decide) ?_
                      refine x_iastNG 160 ((40 * y) + i) rfl rfl (by omega) (by decide) d_X4_sheet_104 (fun μ135 eμ135 => ?_)
                      have hX136 : MX (sS g (upd (gSb g) y b) (upn (gSz g) y mm) (clrN (gSn g) y (i + 1))) μ135 := MX.sn (g := sS g (upd (gSb g) y b) (upn (gSz g) y mm) (clrN (gSn g) y i)) hX1 (by omega) eμ135 (fun s _ i _ => clr_s s i)
                      have hR137 := MR.cg hR1 (μ' := μ135) (fun id hid => (by rw [eμ135, upd2_ne _ _ _ (by omega)]))
                      have hD138 := MD.cg hD1 (μ' := μ135) (fun id hid => (by rw [eμ135, upd2_ne _ _ _ (by omega)]))
                      have hF139 : ∀ id, id < 41 → μ135 id = μ id := fun id hid => (show μ135 id = μ133 id from (by rw [eμ135, upd2_ne _ _ _ (by omega)])).trans (hF1 id hid)
                      refine x_iinc [(4, .int (nI (i + 1))), (0, .ref (E.1 + 41)), (1, .int (nI y)), (2, .int b), (3, .int (nI mm))] 0 d_X4_sheet_105 rfl (x_inc _) (Nat.le_of_ble_eq_true rfl) rfl ?_
                      refine x_goto 85 d_X4_sheet_108 (by decide) ?_
                      exact ih131 (i + 1) (by omega) (by omega) μ135 hR137 hX136 hD138 hF139
                  exact L130 0 (by omega) μ125 hR127 (MX.nm (g := sS g (upd (gSb g) y b) (upn (gSz g) y mm) (gSn g)) hX126 (fun s _ i _ => clr_0 s i)) hD128 hF129
                · skip
                  exact absurd (c116.symm.trans c124) (by decide)
              · skip
                refine x_aload_n 0 d_X4_sheet_53 rfl rfl ?_
                refine x_ldc q734 d_X4_sheet_54 ?_
                refine x_cvi (k := 41) (as := [.int (-1000001)]) (c_X4_finds l E μ (i := 0) hD (by decide) (w := (-1000001)) (by decide)) v_X4_finds w_X4_finds q735 o_M rfl ⟨Nat.le_of_ble_eq_true rfl, Nat.le_of_ble_eq_true rfl⟩ rfl (Nat.le_of_ble_eq_true rfl) d_X4_sheet_56 ?_
                rintro _ μ140 ⟨rfl, hD141, hF142⟩
                have hR143 := MR.cg hR (μ' := μ140) (fun id hid => (hF142 _ (by omega)))
                have hX144 := MX.cg hX (μ' := μ140) (fun id hid => (hF142 _ (by omega)))
                have hF145 : ∀ id, id < 41 → μ140 id = μ id := fun id hid => (show μ140 id = μ id from (hF142 _ (by omega))).trans (hF id hid)
                refine x_iret rfl d_X4_sheet_59 ?_
                have e9 : F_sheet g (nI y) b n = fin g 0 := by simp [F_sheet, x_b_f, x_b_t, nI_clamp (n := y) (by omega), ksh, show ¬ n < 0 from Int32.not_lt.mpr c117, show 40 < n from Int32.not_le.mp c118, c8, c44, c80, c116]
                rw [e9]
                exact ⟨rfl, MS.fin hR143 hX144 hD141, hF145⟩
            · skip
              refine x_aload_n 0 d_X4_sheet_40 rfl rfl ?_
              refine x_ldc q1082 d_X4_sheet_41 ?_
              refine x_cvi (k := 41) (as := [.int (-1000007)]) (c_X4_finds l E μ (i := 6) hD (by decide) (w := (-1000007)) (by decide)) v_X4_finds w_X4_finds q735 o_M rfl ⟨Nat.le_of_ble_eq_true rfl, Nat.le_of_ble_eq_true rfl⟩ rfl (Nat.le_of_ble_eq_true rfl) d_X4_sheet_43 ?_
              rintro _ μ146 ⟨rfl, hD147, hF148⟩
              have hR149 := MR.cg hR (μ' := μ146) (fun id hid => (hF148 _ (by omega)))
              have hX150 := MX.cg hX (μ' := μ146) (fun id hid => (hF148 _ (by omega)))
              have hF151 : ∀ id, id < 41 → μ146 id = μ id := fun id hid => (show μ146 id = μ id from (hF148 _ (by omega))).trans (hF id hid)
              refine x_iret rfl d_X4_sheet_46 ?_
              have e9 : F_sheet g (nI y) b n = fin g 6 := by simp [F_sheet, x_b_f, x_b_t, nI_clamp (n := y) (by omega), ksh, show n < 0 from Int32.not_le.mp c117, c8, c44, c80, c116]
              rw [e9]
              exact ⟨rfl, MS.fin hR149 hX150 hD147, hF151⟩
          · skip
            refine x_aload_n 0 d_X4_sheet_29 rfl rfl ?_
            refine x_ldc q734 d_X4_sheet_30 ?_
            refine x_cvi (k := 41) (as := [.int (-1000001)]) (c_X4_finds l E μ (i := 0) hD (by decide) (w := (-1000001)) (by decide)) v_X4_finds w_X4_finds q735 o_M rfl ⟨Nat.le_of_ble_eq_true rfl, Nat.le_of_ble_eq_true rfl⟩ rfl (Nat.le_of_ble_eq_true rfl) d_X4_sheet_32 ?_
            rintro _ μ152 ⟨rfl, hD153, hF154⟩
            have hR155 := MR.cg hR (μ' := μ152) (fun id hid => (hF154 _ (by omega)))
            have hX156 := MX.cg hX (μ' := μ152) (fun id hid => (hF154 _ (by omega)))
            have hF157 : ∀ id, id < 41 → μ152 id = μ id := fun id hid => (show μ152 id = μ id from (hF154 _ (by omega))).trans (hF id hid)
            refine x_iret rfl d_X4_sheet_35 ?_
            have e9 : F_sheet g (nI y) b n = fin g 0 := by simp [F_sheet, x_b_f, x_b_t, nI_clamp (n := y) (by omega), ksh, c8, c44, c80, c116]
            rw [e9]
            exact ⟨rfl, MS.fin hR155 hX156 hD153, hF157⟩
def m_X4_notCopied : x_M := (yX4_notCopied, prog_6_method_93_code, 7, (some FieldType.int), 2, 42)
theorem v_X4_notCopied : x_VM m_X4_notCopied 5 := ⟨q1094, q6, by decide +kernel, by decide +kernel, by decide +kernel⟩
theorem w_X4_notCopied : x_VI m_X4_notCopied := ⟨q1093, qs61⟩
theorem d_X4_notCopied_0 : x_dec m_X4_notCopied 0 (.iload_n 1) 1 1 := ⟨by decide +kernel, rfl⟩
theorem d_X4_notCopied_1 : x_dec m_X4_notCopied 1 (.invokestatic 158) 3 4 := ⟨by decide +kernel, rfl⟩
theorem d_X4_notCopied_4 : x_dec m_X4_notCopied 4 (.ifCond .eq 10) 3 7 := ⟨by decide +kernel, rfl⟩
theorem d_X4_notCopied_7 : x_dec m_X4_notCopied 7 (.iload_n 3) 1 8 := ⟨by decide +kernel, rfl⟩
theorem d_X4_notCopied_8 : x_dec m_X4_notCopied 8 (.invokestatic 158) 3 11 := ⟨by decide +kernel, rfl⟩
theorem d_X4_notCopied_11 : x_dec m_X4_notCopied 11 (.ifCond .ne 6) 3 14 := ⟨by decide +kernel, rfl⟩
theorem d_X4_notCopied_14 : x_dec m_X4_notCopied 14 (.ldc 40) 2 16 := ⟨by decide +kernel, rfl⟩
theorem d_X4_notCopied_16 : x_dec m_X4_notCopied 16 (.ireturn) 1 17 := ⟨by decide +kernel, rfl⟩
theorem d_X4_notCopied_17 : x_dec m_X4_notCopied 17 (.aload_n 0) 1 18 := ⟨by decide +kernel, rfl⟩
theorem d_X4_notCopied_18 : x_dec m_X4_notCopied 18 (.getfield 28) 3 21 := ⟨by decide +kernel, rfl⟩
theorem d_X4_notCopied_21 : x_dec m_X4_notCopied 21 (.iload_n 1) 1 22 := ⟨by decide +kernel, rfl⟩
theorem d_X4_notCopied_22 : x_dec m_X4_notCopied 22 (.iaload) 1 23 := ⟨by decide +kernel, rfl⟩
theorem d_X4_notCopied_23 : x_dec m_X4_notCopied 23 (.ifCond .eq 12) 3 26 := ⟨by decide +kernel, rfl⟩
theorem d_X4_notCopied_26 : x_dec m_X4_notCopied 26 (.aload_n 0) 1 27 := ⟨by decide +kernel, rfl⟩
theorem d_X4_notCopied_27 : x_dec m_X4_notCopied 27 (.getfield 28) 3 30 := ⟨by decide +kernel, rfl⟩
theorem d_X4_notCopied_30 : x_dec m_X4_notCopied 30 (.iload_n 3) 1 31 := ⟨by decide +kernel, rfl⟩
theorem d_X4_notCopied_31 : x_dec m_X4_notCopied 31 (.iaload) 1 32 := ⟨by decide +kernel, rfl⟩
theorem d_X4_notCopied_32 : x_dec m_X4_notCopied 32 (.ifCond .ne 6) 3 35 := ⟨by decide +kernel, rfl⟩
theorem d_X4_notCopied_35 : x_dec m_X4_notCopied 35 (.ldc 161) 2 37 := ⟨by decide +kernel, rfl⟩
theorem d_X4_notCopied_37 : x_dec m_X4_notCopied 37 (.ireturn) 1 38 := ⟨by decide +kernel, rfl⟩
theorem d_X4_notCopied_38 : x_dec m_X4_notCopied 38 (.aload_n 0) 1 39 := ⟨by decide +kernel, rfl⟩
theorem d_X4_notCopied_39 : x_dec m_X4_notCopied 39 (.getfield 28) 3 42 := ⟨by decide +kernel, rfl⟩
theorem d_X4_notCopied_42 : x_dec m_X4_notCopied 42 (.iload_n 1) 1 43 := ⟨by decide +kernel, rfl⟩
theorem d_X4_notCopied_43 : x_dec m_X4_notCopied 43 (.iaload) 1 44 := ⟨by decide +kernel, rfl⟩
theorem d_X4_notCopied_44 : x_dec m_X4_notCopied 44 (.aload_n 0) 1 45 := ⟨by decide +kernel, rfl⟩
theorem d_X4_notCopied_45 : x_dec m_X4_notCopied 45 (.getfield 28) 3 48 := ⟨by decide +kernel, rfl⟩
theorem d_X4_notCopied_48 : x_dec m_X4_notCopied 48 (.iload_n 3) 1 49 := ⟨by decide +kernel, rfl⟩
theorem d_X4_notCopied_49 : x_dec m_X4_notCopied 49 (.iaload) 1 50 := ⟨by decide +kernel, rfl⟩
theorem d_X4_notCopied_50 : x_dec m_X4_notCopied 50 (.if_icmp .eq 6) 3 53 := ⟨by decide +kernel, rfl⟩
theorem d_X4_notCopied_53 : x_dec m_X4_notCopied 53 (.ldc 240) 2 55 := ⟨by decide +kernel, rfl⟩
theorem d_X4_notCopied_55 : x_dec m_X4_notCopied 55 (.ireturn) 1 56 := ⟨by decide +kernel, rfl⟩
theorem d_X4_notCopied_56 : x_dec m_X4_notCopied 56 (.iload 5) 2 58 := ⟨by decide +kernel, rfl⟩
theorem d_X4_notCopied_58 : x_dec m_X4_notCopied 58 (.ifCond .lt 43) 3 61 := ⟨by decide +kernel, rfl⟩
theorem d_X4_notCopied_61 : x_dec m_X4_notCopied 61 (.iload_n 2) 1 62 := ⟨by decide +kernel, rfl⟩
theorem d_X4_notCopied_62 : x_dec m_X4_notCopied 62 (.ifCond .lt 39) 3 65 := ⟨by decide +kernel, rfl⟩
theorem d_X4_notCopied_65 : x_dec m_X4_notCopied 65 (.iload 4) 2 67 := ⟨by decide +kernel, rfl⟩
theorem d_X4_notCopied_67 : x_dec m_X4_notCopied 67 (.ifCond .lt 34) 3 70 := ⟨by decide +kernel, rfl⟩
theorem d_X4_notCopied_70 : x_dec m_X4_notCopied 70 (.iload 5) 2 72 := ⟨by decide +kernel, rfl⟩
theorem d_X4_notCopied_72 : x_dec m_X4_notCopied 72 (.aload_n 0) 1 73 := ⟨by decide +kernel, rfl⟩
theorem d_X4_notCopied_73 : x_dec m_X4_notCopied 73 (.getfield 31) 3 76 := ⟨by decide +kernel, rfl⟩
theorem d_X4_notCopied_76 : x_dec m_X4_notCopied 76 (.iload_n 1) 1 77 := ⟨by decide +kernel, rfl⟩
theorem d_X4_notCopied_77 : x_dec m_X4_notCopied 77 (.iaload) 1 78 := ⟨by decide +kernel, rfl⟩
theorem d_X4_notCopied_78 : x_dec m_X4_notCopied 78 (.iload_n 2) 1 79 := ⟨by decide +kernel, rfl⟩
theorem d_X4_notCopied_79 : x_dec m_X4_notCopied 79 (.isub) 1 80 := ⟨by decide +kernel, rfl⟩
theorem d_X4_notCopied_80 : x_dec m_X4_notCopied 80 (.if_icmp .gt 21) 3 83 := ⟨by decide +kernel, rfl⟩
theorem d_X4_notCopied_83 : x_dec m_X4_notCopied 83 (.iload 5) 2 85 := ⟨by decide +kernel, rfl⟩
theorem d_X4_notCopied_85 : x_dec m_X4_notCopied 85 (.aload_n 0) 1 86 := ⟨by decide +kernel, rfl⟩
theorem d_X4_notCopied_86 : x_dec m_X4_notCopied 86 (.getfield 31) 3 89 := ⟨by decide +kernel, rfl⟩
theorem d_X4_notCopied_89 : x_dec m_X4_notCopied 89 (.iload_n 3) 1 90 := ⟨by decide +kernel, rfl⟩
theorem d_X4_notCopied_90 : x_dec m_X4_notCopied 90 (.iaload) 1 91 := ⟨by decide +kernel, rfl⟩
theorem d_X4_notCopied_91 : x_dec m_X4_notCopied 91 (.iload 4) 2 93 := ⟨by decide +kernel, rfl⟩
theorem d_X4_notCopied_93 : x_dec m_X4_notCopied 93 (.isub) 1 94 := ⟨by decide +kernel, rfl⟩
theorem d_X4_notCopied_94 : x_dec m_X4_notCopied 94 (.if_icmp .gt 7) 3 97 := ⟨by decide +kernel, rfl⟩
theorem d_X4_notCopied_97 : x_dec m_X4_notCopied 97 (.iconst 1) 1 98 := ⟨by decide +kernel, rfl⟩
theorem d_X4_notCopied_98 : x_dec m_X4_notCopied 98 (.goto 4) 3 101 := ⟨by decide +kernel, rfl⟩
theorem d_X4_notCopied_101 : x_dec m_X4_notCopied 101 (.iconst 0) 1 102 := ⟨by decide +kernel, rfl⟩
theorem d_X4_notCopied_102 : x_dec m_X4_notCopied 102 (.istore 6) 2 104 := ⟨by decide +kernel, rfl⟩
theorem d_X4_notCopied_104 : x_dec m_X4_notCopied 104 (.iload 6) 2 106 := ⟨by decide +kernel, rfl⟩
theorem d_X4_notCopied_106 : x_dec m_X4_notCopied 106 (.ifCond .eq 7) 3 109 := ⟨by decide +kernel, rfl⟩
theorem d_X4_notCopied_109 : x_dec m_X4_notCopied 109 (.iconst 0) 1 110 := ⟨by decide +kernel, rfl⟩
theorem d_X4_notCopied_110 : x_dec m_X4_notCopied 110 (.goto 5) 3 113 := ⟨by decide +kernel, rfl⟩
theorem d_X4_notCopied_113 : x_dec m_X4_notCopied 113 (.ldc 40) 2 115 := ⟨by decide +kernel, rfl⟩
theorem d_X4_notCopied_115 : x_dec m_X4_notCopied 115 (.ireturn) 1 116 := ⟨by decide +kernel, rfl⟩
set_option maxHeartbeats 4000000 in
set_option maxRecDepth 100000 in
theorem c_X4_notCopied (l : Launch) (E : x_E) (μ : x_Mem) {g : x_SG} (hX : MX g μ) (s f t d n : Int32) : x_Met l m_X4_notCopied E [.ref (E.1 + 41), .int s, .int f, .int t, .int d, .int n] μ (x_I (fun z m => z = copF g s f t d n ∧ m = μ)) := by
  refine x_enter (lv := [(0, .ref (E.1 + 41)), (1, .int s), (2, .int f), (3, .int t), (4, .int d), (5, .int n)]) (by decide +kernel) (Nat.le_of_ble_eq_true rfl) rfl ?_
  refine x_iload_n 1 d_X4_notCopied_0 rfl rfl ?_
  refine x_csip (as := [.int s]) (c_X4_isSheet l E μ s) v_X4_isSheet q962 q961 rfl ⟨Nat.le_of_ble_eq_true rfl, Nat.le_of_ble_eq_true rfl⟩ rfl (Nat.le_of_ble_eq_true rfl) d_X4_notCopied_1 ?_
  refine x_ifb_eq 14 d_X4_notCopied_4 (by decide) (fun c1 => ?_) (fun c1 => ?_)
  · skip
    refine x_ldc q734 d_X4_notCopied_14 ?_
    refine x_iret rfl d_X4_notCopied_16 ?_
    exact ⟨by unfold copF; simp [show isSh s = false from c1], rfl⟩
  · skip
    obtain ⟨y, hy, rfl⟩ := inR_nat (n := 3) (by decide) c1
    have ksh_y : isSh (nI y) = true := c1
    refine x_iload_n 3 d_X4_notCopied_7 rfl rfl ?_
    refine x_csip (as := [.int t]) (c_X4_isSheet l E μ t) v_X4_isSheet q962 q961 rfl ⟨Nat.le_of_ble_eq_true rfl, Nat.le_of_ble_eq_true rfl⟩ rfl (Nat.le_of_ble_eq_true rfl) d_X4_notCopied_8 ?_
    refine x_ifb_ne 17 d_X4_notCopied_11 (by decide) (fun c2 => ?_) (fun c2 => ?_)
    · skip
      obtain ⟨u, hu, rfl⟩ := inR_nat (n := 3) (by decide) c2
      have ksh_u : isSh (nI u) = true := c2
      refine x_aload_n 0 d_X4_notCopied_17 rfl rfl ?_
      refine x_getr (j := 7) 48 x_c4 rfl (Nat.le_of_ble_eq_true rfl) q675 rfl d_X4_notCopied_18 ?_
      refine x_iload_n 1 d_X4_notCopied_21 rfl rfl ?_
      refine x_ialdN (z := gSb g y) 4 y rfl rfl (by omega) (by decide) (hX.2.2.2.2.1 y (by omega)) d_X4_notCopied_22 ?_
      refine x_if_eq 35 d_X4_notCopied_23 (by decide) (fun c3 => ?_) (fun c3 => ?_)
      · skip
        refine x_ldc q964 d_X4_notCopied_35 ?_
        refine x_iret rfl d_X4_notCopied_37 ?_
        exact ⟨by unfold copF; simp [ksh_y, ksh_u, c3, nI_clamp (n := y) (by omega), nI_clamp (n := u) (by omega)], rfl⟩
      · skip
        refine x_aload_n 0 d_X4_notCopied_26 rfl rfl ?_
        refine x_getr (j := 7) 48 x_c4 rfl (Nat.le_of_ble_eq_true rfl) q675 rfl d_X4_notCopied_27 ?_
        refine x_iload_n 3 d_X4_notCopied_30 rfl rfl ?_
        refine x_ialdN (z := gSb g u) 4 u rfl rfl (by omega) (by decide) (hX.2.2.2.2.1 u (by omega)) d_X4_notCopied_31 ?_
        refine x_if_ne 38 d_X4_notCopied_32 (by decide) (fun c4 => ?_) (fun c4 => ?_)
        · skip
          refine x_aload_n 0 d_X4_notCopied_38 rfl rfl ?_
          refine x_getr (j := 7) 48 x_c4 rfl (Nat.le_of_ble_eq_true rfl) q675 rfl d_X4_notCopied_39 ?_
          refine x_iload_n 1 d_X4_notCopied_42 rfl rfl ?_
          refine x_ialdN (z := gSb g y) 4 y rfl rfl (by omega) (by decide) (hX.2.2.2.2.1 y (by omega)) d_X4_notCopied_43 ?_
          refine x_aload_n 0 d_X4_notCopied_44 rfl rfl ?_
          refine x_getr (j := 7) 48 x_c4 rfl (Nat.le_of_ble_eq_true rfl) q675 rfl d_X4_notCopied_45 ?_
          refine x_iload_n 3 d_X4_notCopied_48 rfl rfl ?_
          refine x_ialdN (z := gSb g u) 4 u rfl rfl (by omega) (by decide) (hX.2.2.2.2.1 u (by omega)) d_X4_notCopied_49 ?_
          refine x_icmp_eq 56 d_X4_notCopied_50 (by decide) (fun c5 => ?_) (fun c5 => ?_)
          · skip
            refine x_iload 5 d_X4_notCopied_56 rfl ?_
            refine x_if_lt 101 d_X4_notCopied_58 (by decide) (fun c6 => ?_) (fun c6 => ?_)
            · skip
              refine x_iconst (x := 0) d_X4_notCopied_101 (by decide) ?_
              refine x_istore [(6, .int 0), (0, .ref (E.1 + 41)), (1, .int (nI y)), (2, .int f), (3, .int (nI u)), (4, .int d), (5, .int n)] d_X4_notCopied_102 (Nat.le_of_ble_eq_true rfl) rfl ?_
              refine x_iload 0 d_X4_notCopied_104 rfl ?_
              refine x_if_eq 113 d_X4_notCopied_106 (by decide) (fun c7 => ?_) (fun c7 => ?_)
              rotate_left
              · exact absurd c7 (by decide)
              refine x_ldc q734 d_X4_notCopied_113 ?_
              refine x_iret rfl d_X4_notCopied_115 ?_
              exact ⟨by unfold copF; simp [ksh_y, ksh_u, c3, c4, c5, rowOk_f2 (z := gSz g y) (f := f) c6, nI_clamp (n := y) (by omega), nI_clamp (n := u) (by omega)], rfl⟩
            · skip
              refine x_iload_n 2 d_X4_notCopied_61 rfl rfl ?_
              refine x_if_lt 101 d_X4_notCopied_62 (by decide) (fun c8 => ?_) (fun c8 => ?_)
              · skip
                refine x_iconst (x := 0) d_X4_notCopied_101 (by decide) ?_
                refine x_istore [(6, .int 0), (0, .ref (E.1 + 41)), (1, .int (nI y)), (2, .int f), (3, .int (nI u)), (4, .int d), (5, .int n)] d_X4_notCopied_102 (Nat.le_of_ble_eq_true rfl) rfl ?_
                refine x_iload 0 d_X4_notCopied_104 rfl ?_
                refine x_if_eq 113 d_X4_notCopied_106 (by decide) (fun c9 => ?_) (fun c9 => ?_)
                rotate_left
                · exact absurd c9 (by decide)
                refine x_ldc q734 d_X4_notCopied_113 ?_
                refine x_iret rfl d_X4_notCopied_115 ?_
                exact ⟨by unfold copF; simp [ksh_y, ksh_u, c3, c4, c5, rowOk_f1 (z := gSz g y) (n := n) c8, nI_clamp (n := y) (by omega), nI_clamp (n := u) (by omega)], rfl⟩
              · skip
                refine x_iload 4 d_X4_notCopied_65 rfl ?_
                refine x_if_lt 101 d_X4_notCopied_67 (by decide) (fun c10 => ?_) (fun c10 => ?_)
                · skip
                  refine x_iconst (x := 0) d_X4_notCopied_101 (by decide) ?_
                  refine x_istore [(6, .int 0), (0, .ref (E.1 + 41)), (1, .int (nI y)), (2, .int f), (3, .int (nI u)), (4, .int d), (5, .int n)] d_X4_notCopied_102 (Nat.le_of_ble_eq_true rfl) rfl ?_
                  refine x_iload 0 d_X4_notCopied_104 rfl ?_
                  refine x_if_eq 113 d_X4_notCopied_106 (by decide) (fun c11 => ?_) (fun c11 => ?_)
                  rotate_left
                  · exact absurd c11 (by decide)
                  refine x_ldc q734 d_X4_notCopied_113 ?_
                  refine x_iret rfl d_X4_notCopied_115 ?_
                  exact ⟨by unfold copF; simp [ksh_y, ksh_u, c3, c4, c5, rowOk_f1 (z := gSz g u) (n := n) c10, nI_clamp (n := y) (by omega), nI_clamp (n := u) (by omega)], rfl⟩
                · skip
                  refine x_iload 5 d_X4_notCopied_70 rfl ?_
                  refine x_aload_n 0 d_X4_notCopied_72 rfl rfl ?_
                  refine x_getr (j := 8) 49 x_c4 rfl (Nat.le_of_ble_eq_true rfl) q676 rfl d_X4_notCopied_73 ?_
                  refine x_iload_n 1 d_X4_notCopied_76 rfl rfl ?_
                  refine x_ialdN (z := nI (gSz g y)) 4 y rfl rfl (by omega) (by decide) (hX.2.2.2.2.2.1 y (by omega)) d_X4_notCopied_77 ?_
                  refine x_iload_n 2 d_X4_notCopied_78 rfl rfl ?_
                  refine x_isub d_X4_notCopied_79 ?_
                  refine x_icmp_gt 101 d_X4_notCopied_80 (by decide) (fun c12 => ?_) (fun c12 => ?_)
                  · skip
                    refine x_iconst (x := 0) d_X4_notCopied_101 (by decide) ?_
                    refine x_istore [(6, .int 0), (0, .ref (E.1 + 41)), (1, .int (nI y)), (2, .int f), (3, .int (nI u)), (4, .int d), (5, .int n)] d_X4_notCopied_102 (Nat.le_of_ble_eq_true rfl) rfl ?_
                    refine x_iload 0 d_X4_notCopied_104 rfl ?_
                    refine x_if_eq 113 d_X4_notCopied_106 (by decide) (fun c13 => ?_) (fun c13 => ?_)
                    rotate_left
                    · exact absurd c13 (by decide)
                    refine x_ldc q734 d_X4_notCopied_113 ?_
                    refine x_iret rfl d_X4_notCopied_115 ?_
                    exact ⟨by unfold copF; simp [ksh_y, ksh_u, c3, c4, c5, rowOk_f3 (z := gSz g y) c12, nI_clamp (n := y) (by omega), nI_clamp (n := u) (by omega)], rfl⟩
                  · skip
                    refine x_iload 5 d_X4_notCopied_83 rfl ?_
                    refine x_aload_n 0 d_X4_notCopied_85 rfl rfl ?_
                    refine x_getr (j := 8) 49 x_c4 rfl (Nat.le_of_ble_eq_true rfl) q676 rfl d_X4_notCopied_86 ?_
                    refine x_iload_n 3 d_X4_notCopied_89 rfl rfl ?_
                    refine x_ialdN (z := nI (gSz g u)) 4 u rfl rfl (by omega) (by decide) (hX.2.2.2.2.2.1 u (by omega)) d_X4_notCopied_90 ?_
                    refine x_iload 4 d_X4_notCopied_91 rfl ?_
                    refine x_isub d_X4_notCopied_93 ?_
                    refine x_icmp_gt 101 d_X4_notCopied_94 (by decide) (fun c14 => ?_) (fun c14 => ?_)
                    · skip
                      refine x_iconst (x := 0) d_X4_notCopied_101 (by decide) ?_
                      refine x_istore [(6, .int 0), (0, .ref (E.1 + 41)), (1, .int (nI y)), (2, .int f), (3, .int (nI u)), (4, .int d), (5, .int n)] d_X4_notCopied_102 (Nat.le_of_ble_eq_true rfl) rfl ?_
                      refine x_iload 0 d_X4_notCopied_104 rfl ?_
                      refine x_if_eq 113 d_X4_notCopied_106 (by decide) (fun c15 => ?_) (fun c15 => ?_)
                      rotate_left
                      · exact absurd c15 (by decide)
                      refine x_ldc q734 d_X4_notCopied_113 ?_
                      refine x_iret rfl d_X4_notCopied_115 ?_
                      exact ⟨by unfold copF; simp [ksh_y, ksh_u, c3, c4, c5, rowOk_f3 (z := gSz g u) c14, nI_clamp (n := y) (by omega), nI_clamp (n := u) (by omega)], rfl⟩
                    · skip
                      refine x_iconst (x := 1) d_X4_notCopied_97 (by decide) ?_
                      refine x_goto 102 d_X4_notCopied_98 (by decide) ?_
                      refine x_istore [(6, .int 1), (0, .ref (E.1 + 41)), (1, .int (nI y)), (2, .int f), (3, .int (nI u)), (4, .int d), (5, .int n)] d_X4_notCopied_102 (Nat.le_of_ble_eq_true rfl) rfl ?_
                      refine x_iload 0 d_X4_notCopied_104 rfl ?_
                      refine x_if_eq 113 d_X4_notCopied_106 (by decide) (fun c16 => ?_) (fun c16 => ?_)
                      · exact absurd c16 (by decide)
                      refine x_iconst (x := 0) d_X4_notCopied_109 (by decide) ?_
                      refine x_goto 115 d_X4_notCopied_110 (by decide) ?_
                      refine x_iret rfl d_X4_notCopied_115 ?_
                      exact ⟨by unfold copF; simp [ksh_y, ksh_u, c3, c4, c5, rowOk_t (z := gSz g y) c8 c6 c12, rowOk_t (z := gSz g u) c10 c6 c14, nI_clamp (n := y) (by omega), nI_clamp (n := u) (by omega)], rfl⟩
          · skip
            refine x_ldc q1077 d_X4_notCopied_53 ?_
            refine x_iret rfl d_X4_notCopied_55 ?_
            exact ⟨by unfold copF; simp [ksh_y, ksh_u, c3, c4, c5, nI_clamp (n := y) (by omega), nI_clamp (n := u) (by omega)], rfl⟩
        · skip
          refine x_ldc q964 d_X4_notCopied_35 ?_
          refine x_iret rfl d_X4_notCopied_37 ?_
          exact ⟨by unfold copF; simp [ksh_y, ksh_u, c3, c4, nI_clamp (n := y) (by omega), nI_clamp (n := u) (by omega)], rfl⟩
    · skip
      refine x_ldc q734 d_X4_notCopied_14 ?_
      refine x_iret rfl d_X4_notCopied_16 ?_
      exact ⟨by unfold copF; simp [ksh_y, show isSh t = false from c2, nI_clamp (n := y) (by omega)], rfl⟩
def m_X4_copy : x_M := (yX4_copy, prog_6_method_94_code, 9, (some FieldType.int), 3, 68)
theorem v_X4_copy : x_VM m_X4_copy 5 := ⟨q1090, q6, by decide +kernel, by decide +kernel, by decide +kernel⟩
theorem w_X4_copy : x_VI m_X4_copy := ⟨q1088, q1089⟩
theorem d_X4_copy_0 : x_dec m_X4_copy 0 (.aload_n 0) 1 1 := ⟨by decide +kernel, rfl⟩
theorem d_X4_copy_1 : x_dec m_X4_copy 1 (.iload_n 1) 1 2 := ⟨by decide +kernel, rfl⟩
theorem d_X4_copy_2 : x_dec m_X4_copy 2 (.iload_n 2) 1 3 := ⟨by decide +kernel, rfl⟩
theorem d_X4_copy_3 : x_dec m_X4_copy 3 (.iload_n 3) 1 4 := ⟨by decide +kernel, rfl⟩
theorem d_X4_copy_4 : x_dec m_X4_copy 4 (.iload 4) 2 6 := ⟨by decide +kernel, rfl⟩
theorem d_X4_copy_6 : x_dec m_X4_copy 6 (.iload 5) 2 8 := ⟨by decide +kernel, rfl⟩
theorem d_X4_copy_8 : x_dec m_X4_copy 8 (.invokevirtual 242) 3 11 := ⟨by decide +kernel, rfl⟩
theorem d_X4_copy_11 : x_dec m_X4_copy 11 (.istore 6) 2 13 := ⟨by decide +kernel, rfl⟩
theorem d_X4_copy_13 : x_dec m_X4_copy 13 (.iload 6) 2 15 := ⟨by decide +kernel, rfl⟩
theorem d_X4_copy_15 : x_dec m_X4_copy 15 (.ifCond .eq 10) 3 18 := ⟨by decide +kernel, rfl⟩
theorem d_X4_copy_18 : x_dec m_X4_copy 18 (.aload_n 0) 1 19 := ⟨by decide +kernel, rfl⟩
theorem d_X4_copy_19 : x_dec m_X4_copy 19 (.iload 6) 2 21 := ⟨by decide +kernel, rfl⟩
theorem d_X4_copy_21 : x_dec m_X4_copy 21 (.invokevirtual 42) 3 24 := ⟨by decide +kernel, rfl⟩
theorem d_X4_copy_24 : x_dec m_X4_copy 24 (.ireturn) 1 25 := ⟨by decide +kernel, rfl⟩
theorem d_X4_copy_25 : x_dec m_X4_copy 25 (.iconst 0) 1 26 := ⟨by decide +kernel, rfl⟩
theorem d_X4_copy_26 : x_dec m_X4_copy 26 (.istore 7) 2 28 := ⟨by decide +kernel, rfl⟩
theorem d_X4_copy_28 : x_dec m_X4_copy 28 (.iload 7) 2 30 := ⟨by decide +kernel, rfl⟩
theorem d_X4_copy_30 : x_dec m_X4_copy 30 (.iload 5) 2 32 := ⟨by decide +kernel, rfl⟩
theorem d_X4_copy_32 : x_dec m_X4_copy 32 (.if_icmp .ge 58) 3 35 := ⟨by decide +kernel, rfl⟩
theorem d_X4_copy_35 : x_dec m_X4_copy 35 (.iload_n 2) 1 36 := ⟨by decide +kernel, rfl⟩
theorem d_X4_copy_36 : x_dec m_X4_copy 36 (.iload 4) 2 38 := ⟨by decide +kernel, rfl⟩
theorem d_X4_copy_38 : x_dec m_X4_copy 38 (.if_icmp .ge 13) 3 41 := ⟨by decide +kernel, rfl⟩
theorem d_X4_copy_41 : x_dec m_X4_copy 41 (.iload 5) 2 43 := ⟨by decide +kernel, rfl⟩
theorem d_X4_copy_43 : x_dec m_X4_copy 43 (.iconst 1) 1 44 := ⟨by decide +kernel, rfl⟩
theorem d_X4_copy_44 : x_dec m_X4_copy 44 (.isub) 1 45 := ⟨by decide +kernel, rfl⟩
theorem d_X4_copy_45 : x_dec m_X4_copy 45 (.iload 7) 2 47 := ⟨by decide +kernel, rfl⟩
theorem d_X4_copy_47 : x_dec m_X4_copy 47 (.isub) 1 48 := ⟨by decide +kernel, rfl⟩
theorem d_X4_copy_48 : x_dec m_X4_copy 48 (.goto 5) 3 51 := ⟨by decide +kernel, rfl⟩
theorem d_X4_copy_51 : x_dec m_X4_copy 51 (.iload 7) 2 53 := ⟨by decide +kernel, rfl⟩
theorem d_X4_copy_53 : x_dec m_X4_copy 53 (.istore 8) 2 55 := ⟨by decide +kernel, rfl⟩
theorem d_X4_copy_55 : x_dec m_X4_copy 55 (.aload_n 0) 1 56 := ⟨by decide +kernel, rfl⟩
theorem d_X4_copy_56 : x_dec m_X4_copy 56 (.getfield 34) 3 59 := ⟨by decide +kernel, rfl⟩
theorem d_X4_copy_59 : x_dec m_X4_copy 59 (.bipush 40) 2 61 := ⟨by decide +kernel, rfl⟩
theorem d_X4_copy_61 : x_dec m_X4_copy 61 (.iload_n 3) 1 62 := ⟨by decide +kernel, rfl⟩
theorem d_X4_copy_62 : x_dec m_X4_copy 62 (.imul) 1 63 := ⟨by decide +kernel, rfl⟩
theorem d_X4_copy_63 : x_dec m_X4_copy 63 (.iload 4) 2 65 := ⟨by decide +kernel, rfl⟩
theorem d_X4_copy_65 : x_dec m_X4_copy 65 (.iadd) 1 66 := ⟨by decide +kernel, rfl⟩
theorem d_X4_copy_66 : x_dec m_X4_copy 66 (.iload 8) 2 68 := ⟨by decide +kernel, rfl⟩
theorem d_X4_copy_68 : x_dec m_X4_copy 68 (.iadd) 1 69 := ⟨by decide +kernel, rfl⟩
theorem d_X4_copy_69 : x_dec m_X4_copy 69 (.aload_n 0) 1 70 := ⟨by decide +kernel, rfl⟩
theorem d_X4_copy_70 : x_dec m_X4_copy 70 (.getfield 34) 3 73 := ⟨by decide +kernel, rfl⟩
theorem d_X4_copy_73 : x_dec m_X4_copy 73 (.bipush 40) 2 75 := ⟨by decide +kernel, rfl⟩
theorem d_X4_copy_75 : x_dec m_X4_copy 75 (.iload_n 1) 1 76 := ⟨by decide +kernel, rfl⟩
theorem d_X4_copy_76 : x_dec m_X4_copy 76 (.imul) 1 77 := ⟨by decide +kernel, rfl⟩
theorem d_X4_copy_77 : x_dec m_X4_copy 77 (.iload_n 2) 1 78 := ⟨by decide +kernel, rfl⟩
theorem d_X4_copy_78 : x_dec m_X4_copy 78 (.iadd) 1 79 := ⟨by decide +kernel, rfl⟩
theorem d_X4_copy_79 : x_dec m_X4_copy 79 (.iload 8) 2 81 := ⟨by decide +kernel, rfl⟩
theorem d_X4_copy_81 : x_dec m_X4_copy 81 (.iadd) 1 82 := ⟨by decide +kernel, rfl⟩
theorem d_X4_copy_82 : x_dec m_X4_copy 82 (.iaload) 1 83 := ⟨by decide +kernel, rfl⟩
theorem d_X4_copy_83 : x_dec m_X4_copy 83 (.iastore) 1 84 := ⟨by decide +kernel, rfl⟩
theorem d_X4_copy_84 : x_dec m_X4_copy 84 (.iinc 7 1) 3 87 := ⟨by decide +kernel, rfl⟩
theorem d_X4_copy_87 : x_dec m_X4_copy 87 (.goto (-59)) 3 90 := ⟨by decide +kernel, rfl⟩
theorem d_X4_copy_90 : x_dec m_X4_copy 90 (.iload 5) 2 92 := ⟨by decide +kernel, rfl⟩
theorem d_X4_copy_92 : x_dec m_X4_copy 92 (.ireturn) 1 93 := ⟨by decide +kernel, rfl⟩
set_option maxHeartbeats 4000000 in
set_option maxRecDepth 100000 in
theorem c_X4_copy (l : Launch) (E : x_E) (μ : x_Mem) (g : x_SG) (hS : MS g μ) (hI : Inv g) (s f t d n : Int32) : x_Met l m_X4_copy E [.ref (E.1 + 41), .int s, .int f, .int t, .int d, .int n] μ (x_I (fun z m => z = (F_copy g s f t d n).1 ∧ MS (F_copy g s f t d n).2 m ∧ ∀ id, id < 41 → m id = μ id)) := by
  obtain ⟨hR, hX, hD⟩ := hS
  have hWF := hI.1.1
  have hn7 := hWF.2.1
  have hpn := hWF.1
  have hF : ∀ id, id < 41 → μ id = μ id := fun _ _ => rfl
  refine x_enter (lv := [(0, .ref (E.1 + 41)), (1, .int s), (2, .int f), (3, .int t), (4, .int d), (5, .int n)]) (by decide +kernel) (Nat.le_of_ble_eq_true rfl) rfl ?_
  refine x_aload_n 0 d_X4_copy_0 rfl rfl ?_
  refine x_iload_n 1 d_X4_copy_1 rfl rfl ?_
  refine x_iload_n 2 d_X4_copy_2 rfl rfl ?_
  refine x_iload_n 3 d_X4_copy_3 rfl rfl ?_
  refine x_iload 4 d_X4_copy_4 rfl ?_
  refine x_iload 5 d_X4_copy_6 rfl ?_
  refine x_cvip (k := 41) (as := [.int s, .int f, .int t, .int d, .int n]) (c_X4_notCopied l E μ hX s f t d n) v_X4_notCopied w_X4_notCopied q1091 o_M rfl ⟨Nat.le_of_ble_eq_true rfl, Nat.le_of_ble_eq_true rfl⟩ rfl (Nat.le_of_ble_eq_true rfl) d_X4_copy_8 ?_
  rcases cop_cases hI.2.2.2.2.1 s f t d n with ⟨ewy, e9⟩ | ⟨ewy, e9⟩ | ⟨ewy, e9⟩ | ⟨y, u, f9, d9, n9, hy, hu, rfl, rfl, rfl, rfl, rfl, hfn, hdn, hf31, hd31, ewy, e9⟩
  · rw [ewy]
    refine x_istore [(6, .int (-1000001)), (0, .ref (E.1 + 41)), (1, .int s), (2, .int f), (3, .int t), (4, .int d), (5, .int n)] d_X4_copy_11 (Nat.le_of_ble_eq_true rfl) rfl ?_
    refine x_iload 0 d_X4_copy_13 rfl ?_
    refine x_if_eq 25 d_X4_copy_15 (by decide) (fun c1 => ?_) (fun c1 => ?_)
    · exact absurd c1 (by decide)
    refine x_aload_n 1 d_X4_copy_18 rfl rfl ?_
    refine x_iload 0 d_X4_copy_19 rfl ?_
    refine x_cvi (k := 41) (as := [.int (-1000001)]) (c_X4_finds l E μ (i := 0) hD (by decide) (w := (-1000001)) (by decide)) v_X4_finds w_X4_finds q735 o_M rfl ⟨Nat.le_of_ble_eq_true rfl, Nat.le_of_ble_eq_true rfl⟩ rfl (Nat.le_of_ble_eq_true rfl) d_X4_copy_21 ?_
    rintro _ μ2 ⟨rfl, hD3, hF4⟩
    have hR5 := MR.cg hR (μ' := μ2) (fun id hid => (hF4 _ (by omega)))
    have hX6 := MX.cg hX (μ' := μ2) (fun id hid => (hF4 _ (by omega)))
    have hF7 : ∀ id, id < 41 → μ2 id = μ id := fun id hid => (show μ2 id = μ id from (hF4 _ (by omega))).trans (hF id hid)
    refine x_iret rfl d_X4_copy_24 ?_
    rw [e9]
    exact ⟨rfl, MS.fin hR5 hX6 hD3, hF7⟩
  · rw [ewy]
    refine x_istore [(6, .int (-1000006)), (0, .ref (E.1 + 41)), (1, .int s), (2, .int f), (3, .int t), (4, .int d), (5, .int n)] d_X4_copy_11 (Nat.le_of_ble_eq_true rfl) rfl ?_
    refine x_iload 0 d_X4_copy_13 rfl ?_
    refine x_if_eq 25 d_X4_copy_15 (by decide) (fun c8 => ?_) (fun c8 => ?_)
    · exact absurd c8 (by decide)
    refine x_aload_n 1 d_X4_copy_18 rfl rfl ?_
    refine x_iload 0 d_X4_copy_19 rfl ?_
    refine x_cvi (k := 41) (as := [.int (-1000006)]) (c_X4_finds l E μ (i := 5) hD (by decide) (w := (-1000006)) (by decide)) v_X4_finds w_X4_finds q735 o_M rfl ⟨Nat.le_of_ble_eq_true rfl, Nat.le_of_ble_eq_true rfl⟩ rfl (Nat.le_of_ble_eq_true rfl) d_X4_copy_21 ?_
    rintro _ μ9 ⟨rfl, hD10, hF11⟩
    have hR12 := MR.cg hR (μ' := μ9) (fun id hid => (hF11 _ (by omega)))
    have hX13 := MX.cg hX (μ' := μ9) (fun id hid => (hF11 _ (by omega)))
    have hF14 : ∀ id, id < 41 → μ9 id = μ id := fun id hid => (show μ9 id = μ id from (hF11 _ (by omega))).trans (hF id hid)
    refine x_iret rfl d_X4_copy_24 ?_
    rw [e9]
    exact ⟨rfl, MS.fin hR12 hX13 hD10, hF14⟩
  · rw [ewy]
    refine x_istore [(6, .int (-1000003)), (0, .ref (E.1 + 41)), (1, .int s), (2, .int f), (3, .int t), (4, .int d), (5, .int n)] d_X4_copy_11 (Nat.le_of_ble_eq_true rfl) rfl ?_
    refine x_iload 0 d_X4_copy_13 rfl ?_
    refine x_if_eq 25 d_X4_copy_15 (by decide) (fun c15 => ?_) (fun c15 => ?_)
    · exact absurd c15 (by decide)
    refine x_aload_n 1 d_X4_copy_18 rfl rfl ?_
    refine x_iload 0 d_X4_copy_19 rfl ?_
    refine x_cvi (k := 41) (as := [.int (-1000003)]) (c_X4_finds l E μ (i := 2) hD (by decide) (w := (-1000003)) (by decide)) v_X4_finds w_X4_finds q735 o_M rfl ⟨Nat.le_of_ble_eq_true rfl, Nat.le_of_ble_eq_true rfl⟩ rfl (Nat.le_of_ble_eq_true rfl) d_X4_copy_21 ?_
    rintro _ μ16 ⟨rfl, hD17, hF18⟩
    have hR19 := MR.cg hR (μ' := μ16) (fun id hid => (hF18 _ (by omega)))
    have hX20 := MX.cg hX (μ' := μ16) (fun id hid => (hF18 _ (by omega)))
    have hF21 : ∀ id, id < 41 → μ16 id = μ id := fun id hid => (show μ16 id = μ id from (hF18 _ (by omega))).trans (hF id hid)
    refine x_iret rfl d_X4_copy_24 ?_
    rw [e9]
    exact ⟨rfl, MS.fin hR19 hX20 hD17, hF21⟩
  · rw [ewy]
    refine x_istore [(6, .int 0), (0, .ref (E.1 + 41)), (1, .int (nI y)), (2, .int (nI f9)), (3, .int (nI u)), (4, .int (nI d9)), (5, .int (nI n9))] d_X4_copy_11 (Nat.le_of_ble_eq_true rfl) rfl ?_
    refine x_iload 0 d_X4_copy_13 rfl ?_
    refine x_if_eq 25 d_X4_copy_15 (by decide) (fun c22 => ?_) (fun c22 => ?_)
    rotate_left
    · exact absurd c22 (by decide)
    refine x_iconst (x := 0) d_X4_copy_25 (by decide) ?_
    refine x_istore [(7, .int 0), (6, .int 0), (0, .ref (E.1 + 41)), (1, .int (nI y)), (2, .int (nI f9)), (3, .int (nI u)), (4, .int (nI d9)), (5, .int (nI n9))] d_X4_copy_26 (Nat.le_of_ble_eq_true rfl) rfl ?_
    rcases Nat.lt_or_ge f9 d9 with hfd | hfd
    · skip
      have L23 : ∀ k : Nat, k ≤ n9 → ∀ μ26 : x_Mem, (MR (gA g) μ26) → (MX (sS g (gSb g) (gSz g) (cpN (gSn g) y u f9 d9 n9 true k)) μ26) → (MD (gF g) μ26) → (∀ id, id < 41 → μ26 id = μ id) → x_G l E m_X4_copy (x_mv E m_X4_copy (x_I (fun z m => z = (F_copy g (nI y) (nI f9) (nI u) (nI d9) (nI n9)).1 ∧ MS (F_copy g (nI y) (nI f9) (nI u) (nI d9) (nI n9)).2 m ∧ ∀ id, id < 41 → m id = μ id))) μ26 28 [(7, .int (nI k)), (0, .ref (E.1 + 41)), (1, .int (nI y)), (2, .int (nI f9)), (3, .int (nI u)), (4, .int (nI d9)), (5, .int (nI n9))] [] := by
        refine x_down _ n9 (fun k hi25 ih24 => ?_)
        intro μ26 hR1 hX1 hD1 hF1
        refine x_iload 0 d_X4_copy_28 rfl ?_
        refine x_iload 6 d_X4_copy_30 rfl ?_
        refine x_icmp_ge 90 d_X4_copy_32 (by decide) (fun c27 => ?_) (fun c27 => ?_)
        · skip
          have hN := x_ge (N := n9) c27 rfl rfl (by omega) (by omega)
          refine x_iload 6 d_X4_copy_90 rfl ?_
          refine x_iret rfl d_X4_copy_92 ?_
          have e7 : k = n9 := by omega
          subst e7
          rw [e9]
          exact ⟨rfl, ⟨hR1, MX.nm (g := sS g (gSb g) (gSz g) (cpN (gSn g) y u f9 d9 k true k)) hX1 (fun s _ i _ => cp_e s i), hD1⟩, hF1⟩
        · skip
          have hN := x_lt (N := n9) c27 rfl rfl (by omega) (by omega)
          refine x_iload_n 3 d_X4_copy_35 rfl rfl ?_
          refine x_iload 5 d_X4_copy_36 rfl ?_
          refine x_icmp_ge 51 d_X4_copy_38 (by decide) (fun c28 => ?_) (fun c28 => ?_)
          · skip
            exact absurd ((nI_leI (a := d9) (b := f9) (by omega) (by omega)).mp c28) (by omega)
          · skip
            refine x_iload 6 d_X4_copy_41 rfl ?_
            refine x_iconst (x := 1) d_X4_copy_43 (by decide) ?_
            refine x_isub d_X4_copy_44 ?_
            refine x_iload 0 d_X4_copy_45 rfl ?_
            refine x_isub d_X4_copy_47 ?_
            rw [cp_i hN]
            refine x_goto 53 d_X4_copy_48 (by decide) ?_
            refine x_istore [(8, .int (nI (n9 - 1 - k))), (7, .int (nI k)), (0, .ref (E.1 + 41)), (1, .int (nI y)), (2, .int (nI f9)), (3, .int (nI u)), (4, .int (nI d9)), (5, .int (nI n9))] d_X4_copy_53 (Nat.le_of_ble_eq_true rfl) rfl ?_
            refine x_aload_n 2 d_X4_copy_55 rfl rfl ?_
            refine x_getr (j := 9) 50 x_c4 rfl (Nat.le_of_ble_eq_true rfl) q677 rfl d_X4_copy_56 ?_
            refine x_bipush (x := 40) d_X4_copy_59 (by decide) ?_
            refine x_iload_n 5 d_X4_copy_61 rfl rfl ?_
            refine x_imul d_X4_copy_62 ?_
            rw [show (40 : Int32) * (nI u) = nI (40 * u) from nI_mulN 40 u]
            refine x_iload 6 d_X4_copy_63 rfl ?_
            refine x_iadd d_X4_copy_65 ?_
            rw [show (nI (40 * u)) + (nI d9) = nI ((40 * u) + d9) from nI_add (40 * u) d9]
            refine x_iload 0 d_X4_copy_66 rfl ?_
            refine x_iadd d_X4_copy_68 ?_
            rw [show (nI ((40 * u) + d9)) + (nI (n9 - 1 - k)) = nI (((40 * u) + d9) + (n9 - 1 - k)) from nI_add ((40 * u) + d9) (n9 - 1 - k)]
            refine x_aload_n 2 d_X4_copy_69 rfl rfl ?_
            refine x_getr (j := 9) 50 x_c4 rfl (Nat.le_of_ble_eq_true rfl) q677 rfl d_X4_copy_70 ?_
            refine x_bipush (x := 40) d_X4_copy_73 (by decide) ?_
            refine x_iload_n 3 d_X4_copy_75 rfl rfl ?_
            refine x_imul d_X4_copy_76 ?_
            rw [show (40 : Int32) * (nI y) = nI (40 * y) from nI_mulN 40 y]
            refine x_iload_n 4 d_X4_copy_77 rfl rfl ?_
            refine x_iadd d_X4_copy_78 ?_
            rw [show (nI (40 * y)) + (nI f9) = nI ((40 * y) + f9) from nI_add (40 * y) f9]
            refine x_iload 0 d_X4_copy_79 rfl ?_
            refine x_iadd d_X4_copy_81 ?_
            rw [show (nI ((40 * y) + f9)) + (nI (n9 - 1 - k)) = nI (((40 * y) + f9) + (n9 - 1 - k)) from nI_add ((40 * y) + f9) (n9 - 1 - k)]
            refine x_ialdN (z := gSn g y (f9 + (n9 - 1 - k))) 160 (((40 * y) + f9) + (n9 - 1 - k)) rfl rfl (by omega) (by decide) ((show μ26 50 (((40 * y) + f9) + (n9 - 1 - k)) = cpN (gSn g) y u f9 d9 n9 true k y (f9 + (n9 - 1 - k)) from by rw [show (((40 * y) + f9) + (n9 - 1 - k)) = 40 * y + (f9 + (n9 - 1 - k)) by omega]; exact hX1.2.2.2.2.2.2 y hy (f9 + (n9 - 1 - k)) (by omega)).trans (cp_ru hN hfd)) d_X4_copy_82 ?_
            refine x_iastNG 160 (((40 * u) + d9) + (n9 - 1 - k)) rfl rfl (by omega) (by decide) d_X4_copy_83 (fun μ29 eμ29 => ?_)
            have hX30 : MX (sS g (gSb g) (gSz g) (cpN (gSn g) y u f9 d9 n9 true (k + 1))) μ29 := MX.sn (g := sS g (gSb g) (gSz g) (cpN (gSn g) y u f9 d9 n9 true k)) (y := u) (j := d9 + (n9 - 1 - k)) hX1 (by omega) (by rw [eμ29]; congr 1; omega) (fun s _ i _ => cp_u hN s i)
            have hR31 := MR.cg hR1 (μ' := μ29) (fun id hid => (by rw [eμ29, upd2_ne _ _ _ (by omega)]))
            have hD32 := MD.cg hD1 (μ' := μ29) (fun id hid => (by rw [eμ29, upd2_ne _ _ _ (by omega)]))
            have hF33 : ∀ id, id < 41 → μ29 id = μ id := fun id hid => (show μ29 id = μ26 id from (by rw [eμ29, upd2_ne _ _ _ (by omega)])).trans (hF1 id hid)
            refine x_iinc [(7, .int (nI (k + 1))), (8, .int (nI (n9 - 1 - k))), (0, .ref (E.1 + 41)), (1, .int (nI y)), (2, .int (nI f9)), (3, .int (nI u)), (4, .int (nI d9)), (5, .int (nI n9))] 1 d_X4_copy_84 rfl (x_inc _) (Nat.le_of_ble_eq_true rfl) rfl ?_
            refine x_goto 28 d_X4_copy_87 (by decide) ?_
            refine x_lv [0, 2, 3, 4, 5, 6, 7] rfl ?_
            exact ih24 (k + 1) (by omega) (by omega) μ29 hR31 hX30 hD32 hF33
      refine x_lv [0, 2, 3, 4, 5, 6, 7] rfl ?_
      exact L23 0 (by omega) μ hR (MX.nm (g := g) hX (fun s _ i _ => cp_0 s i)) hD hF
    · skip
      have L34 : ∀ k : Nat, k ≤ n9 → ∀ μ37 : x_Mem, (MR (gA g) μ37) → (MX (sS g (gSb g) (gSz g) (cpN (gSn g) y u f9 d9 n9 false k)) μ37) → (MD (gF g) μ37) → (∀ id, id < 41 → μ37 id = μ id) → x_G l E m_X4_copy (x_mv E m_X4_copy (x_I (fun z m => z = (F_copy g (nI y) (nI f9) (nI u) (nI d9) (nI n9)).1 ∧ MS (F_copy g (nI y) (nI f9) (nI u) (nI d9) (nI n9)).2 m ∧ ∀ id, id < 41 → m id = μ id))) μ37 28 [(7, .int (nI k)), (0, .ref (E.1 + 41)), (1, .int (nI y)), (2, .int (nI f9)), (3, .int (nI u)), (4, .int (nI d9)), (5, .int (nI n9))] [] := by
        refine x_down _ n9 (fun k hi36 ih35 => ?_)
        intro μ37 hR1 hX1 hD1 hF1
        refine x_iload 0 d_X4_copy_28 rfl ?_
        refine x_iload 6 d_X4_copy_30 rfl ?_
        refine x_icmp_ge 90 d_X4_copy_32 (by decide) (fun c38 => ?_) (fun c38 => ?_)
        · skip
          have hN := x_ge (N := n9) c38 rfl rfl (by omega) (by omega)
          refine x_iload 6 d_X4_copy_90 rfl ?_
          refine x_iret rfl d_X4_copy_92 ?_
          have e7 : k = n9 := by omega
          subst e7
          rw [e9]
          exact ⟨rfl, ⟨hR1, MX.nm (g := sS g (gSb g) (gSz g) (cpN (gSn g) y u f9 d9 k false k)) hX1 (fun s _ i _ => cp_e s i), hD1⟩, hF1⟩
        · skip
          have hN := x_lt (N := n9) c38 rfl rfl (by omega) (by omega)
          refine x_iload_n 3 d_X4_copy_35 rfl rfl ?_
          refine x_iload 5 d_X4_copy_36 rfl ?_
          refine x_icmp_ge 51 d_X4_copy_38 (by decide) (fun c39 => ?_) (fun c39 => ?_)
          · skip
            refine x_iload 0 d_X4_copy_51 rfl ?_
            refine x_istore [(8, .int (nI k)), (7, .int (nI k)), (0, .ref (E.1 + 41)), (1, .int (nI y)), (2, .int (nI f9)), (3, .int (nI u)), (4, .int (nI d9)), (5, .int (nI n9))] d_X4_copy_53 (Nat.le_of_ble_eq_true rfl) rfl ?_
            refine x_aload_n 2 d_X4_copy_55 rfl rfl ?_
            refine x_getr (j := 9) 50 x_c4 rfl (Nat.le_of_ble_eq_true rfl) q677 rfl d_X4_copy_56 ?_
            refine x_bipush (x := 40) d_X4_copy_59 (by decide) ?_
            refine x_iload_n 5 d_X4_copy_61 rfl rfl ?_
            refine x_imul d_X4_copy_62 ?_
            rw [show (40 : Int32) * (nI u) = nI (40 * u) from nI_mulN 40 u]
            refine x_iload 6 d_X4_copy_63 rfl ?_
            refine x_iadd d_X4_copy_65 ?_
            rw [show (nI (40 * u)) + (nI d9) = nI ((40 * u) + d9) from nI_add (40 * u) d9]
            refine x_iload 0 d_X4_copy_66 rfl ?_
            refine x_iadd d_X4_copy_68 ?_
            rw [show (nI ((40 * u) + d9)) + (nI k) = nI (((40 * u) + d9) + k) from nI_add ((40 * u) + d9) k]
            refine x_aload_n 2 d_X4_copy_69 rfl rfl ?_
            refine x_getr (j := 9) 50 x_c4 rfl (Nat.le_of_ble_eq_true rfl) q677 rfl d_X4_copy_70 ?_
            refine x_bipush (x := 40) d_X4_copy_73 (by decide) ?_
            refine x_iload_n 3 d_X4_copy_75 rfl rfl ?_
            refine x_imul d_X4_copy_76 ?_
            rw [show (40 : Int32) * (nI y) = nI (40 * y) from nI_mulN 40 y]
            refine x_iload_n 4 d_X4_copy_77 rfl rfl ?_
            refine x_iadd d_X4_copy_78 ?_
            rw [show (nI (40 * y)) + (nI f9) = nI ((40 * y) + f9) from nI_add (40 * y) f9]
            refine x_iload 0 d_X4_copy_79 rfl ?_
            refine x_iadd d_X4_copy_81 ?_
            rw [show (nI ((40 * y) + f9)) + (nI k) = nI (((40 * y) + f9) + k) from nI_add ((40 * y) + f9) k]
            refine x_ialdN (z := gSn g y (f9 + k)) 160 (((40 * y) + f9) + k) rfl rfl (by omega) (by decide) ((show μ37 50 (((40 * y) + f9) + k) = cpN (gSn g) y u f9 d9 n9 false k y (f9 + k) from by rw [show (((40 * y) + f9) + k) = 40 * y + (f9 + k) by omega]; exact hX1.2.2.2.2.2.2 y hy (f9 + k) (by omega)).trans (cp_rd hN hfd)) d_X4_copy_82 ?_
            refine x_iastNG 160 (((40 * u) + d9) + k) rfl rfl (by omega) (by decide) d_X4_copy_83 (fun μ40 eμ40 => ?_)
            have hX41 : MX (sS g (gSb g) (gSz g) (cpN (gSn g) y u f9 d9 n9 false (k + 1))) μ40 := MX.sn (g := sS g (gSb g) (gSz g) (cpN (gSn g) y u f9 d9 n9 false k)) (y := u) (j := d9 + k) hX1 (by omega) (by rw [eμ40]; congr 1; omega) (fun s _ i _ => cp_d hN s i)
            have hR42 := MR.cg hR1 (μ' := μ40) (fun id hid => (by rw [eμ40, upd2_ne _ _ _ (by omega)]))
            have hD43 := MD.cg hD1 (μ' := μ40) (fun id hid => (by rw [eμ40, upd2_ne _ _ _ (by omega)]))
            have hF44 : ∀ id, id < 41 → μ40 id = μ id := fun id hid => (show μ40 id = μ37 id from (by rw [eμ40, upd2_ne _ _ _ (by omega)])).trans (hF1 id hid)
            refine x_iinc [(7, .int (nI (k + 1))), (8, .int (nI k)), (0, .ref (E.1 + 41)), (1, .int (nI y)), (2, .int (nI f9)), (3, .int (nI u)), (4, .int (nI d9)), (5, .int (nI n9))] 1 d_X4_copy_84 rfl (x_inc _) (Nat.le_of_ble_eq_true rfl) rfl ?_
            refine x_goto 28 d_X4_copy_87 (by decide) ?_
            refine x_lv [0, 2, 3, 4, 5, 6, 7] rfl ?_
            exact ih35 (k + 1) (by omega) (by omega) μ40 hR42 hX41 hD43 hF44
          · skip
            exact absurd (nI_le (a := d9) (b := f9) hfd (by omega)) c39
      refine x_lv [0, 2, 3, 4, 5, 6, 7] rfl ?_
      exact L34 0 (by omega) μ hR (MX.nm (g := g) hX (fun s _ i _ => cp_0 s i)) hD hF
def m_X4_feed : x_M := (yX4_feed, prog_6_method_75_code, 4, (some FieldType.int), 1, 22)
theorem v_X4_feed : x_VM m_X4_feed 2 := ⟨q1015, q6, by decide +kernel, by decide +kernel, by decide +kernel⟩
theorem w_X4_feed : x_VI m_X4_feed := ⟨q1013, q1014⟩
theorem d_X4_feed_0 : x_dec m_X4_feed 0 (.iload_n 2) 1 1 := ⟨by decide +kernel, rfl⟩
theorem d_X4_feed_1 : x_dec m_X4_feed 1 (.iconst 1) 1 2 := ⟨by decide +kernel, rfl⟩
theorem d_X4_feed_2 : x_dec m_X4_feed 2 (.iconst 4) 1 3 := ⟨by decide +kernel, rfl⟩
theorem d_X4_feed_3 : x_dec m_X4_feed 3 (.invokestatic 46) 3 6 := ⟨by decide +kernel, rfl⟩
theorem d_X4_feed_6 : x_dec m_X4_feed 6 (.ifCond .ne 10) 3 9 := ⟨by decide +kernel, rfl⟩
theorem d_X4_feed_9 : x_dec m_X4_feed 9 (.aload_n 0) 1 10 := ⟨by decide +kernel, rfl⟩
theorem d_X4_feed_10 : x_dec m_X4_feed 10 (.ldc 40) 2 12 := ⟨by decide +kernel, rfl⟩
theorem d_X4_feed_12 : x_dec m_X4_feed 12 (.invokevirtual 42) 3 15 := ⟨by decide +kernel, rfl⟩
theorem d_X4_feed_15 : x_dec m_X4_feed 15 (.ireturn) 1 16 := ⟨by decide +kernel, rfl⟩
theorem d_X4_feed_16 : x_dec m_X4_feed 16 (.aload_n 0) 1 17 := ⟨by decide +kernel, rfl⟩
theorem d_X4_feed_17 : x_dec m_X4_feed 17 (.getfield 183) 3 20 := ⟨by decide +kernel, rfl⟩
theorem d_X4_feed_20 : x_dec m_X4_feed 20 (.iload_n 2) 1 21 := ⟨by decide +kernel, rfl⟩
theorem d_X4_feed_21 : x_dec m_X4_feed 21 (.iadd) 1 22 := ⟨by decide +kernel, rfl⟩
theorem d_X4_feed_22 : x_dec m_X4_feed 22 (.bipush 120) 2 24 := ⟨by decide +kernel, rfl⟩
theorem d_X4_feed_24 : x_dec m_X4_feed 24 (.if_icmp .le 10) 3 27 := ⟨by decide +kernel, rfl⟩
theorem d_X4_feed_27 : x_dec m_X4_feed 27 (.aload_n 0) 1 28 := ⟨by decide +kernel, rfl⟩
theorem d_X4_feed_28 : x_dec m_X4_feed 28 (.ldc 88) 2 30 := ⟨by decide +kernel, rfl⟩
theorem d_X4_feed_30 : x_dec m_X4_feed 30 (.invokevirtual 42) 3 33 := ⟨by decide +kernel, rfl⟩
theorem d_X4_feed_33 : x_dec m_X4_feed 33 (.ireturn) 1 34 := ⟨by decide +kernel, rfl⟩
theorem d_X4_feed_34 : x_dec m_X4_feed 34 (.iload_n 2) 1 35 := ⟨by decide +kernel, rfl⟩
theorem d_X4_feed_35 : x_dec m_X4_feed 35 (.iconst 1) 1 36 := ⟨by decide +kernel, rfl⟩
theorem d_X4_feed_36 : x_dec m_X4_feed 36 (.isub) 1 37 := ⟨by decide +kernel, rfl⟩
theorem d_X4_feed_37 : x_dec m_X4_feed 37 (.istore_n 3) 1 38 := ⟨by decide +kernel, rfl⟩
theorem d_X4_feed_38 : x_dec m_X4_feed 38 (.iload_n 3) 1 39 := ⟨by decide +kernel, rfl⟩
theorem d_X4_feed_39 : x_dec m_X4_feed 39 (.ifCond .lt 38) 3 42 := ⟨by decide +kernel, rfl⟩
theorem d_X4_feed_42 : x_dec m_X4_feed 42 (.aload_n 0) 1 43 := ⟨by decide +kernel, rfl⟩
theorem d_X4_feed_43 : x_dec m_X4_feed 43 (.getfield 37) 3 46 := ⟨by decide +kernel, rfl⟩
theorem d_X4_feed_46 : x_dec m_X4_feed 46 (.aload_n 0) 1 47 := ⟨by decide +kernel, rfl⟩
theorem d_X4_feed_47 : x_dec m_X4_feed 47 (.getfield 183) 3 50 := ⟨by decide +kernel, rfl⟩
theorem d_X4_feed_50 : x_dec m_X4_feed 50 (.iload_n 1) 1 51 := ⟨by decide +kernel, rfl⟩
theorem d_X4_feed_51 : x_dec m_X4_feed 51 (.bipush 8) 2 53 := ⟨by decide +kernel, rfl⟩
theorem d_X4_feed_53 : x_dec m_X4_feed 53 (.iload_n 3) 1 54 := ⟨by decide +kernel, rfl⟩
theorem d_X4_feed_54 : x_dec m_X4_feed 54 (.imul) 1 55 := ⟨by decide +kernel, rfl⟩
theorem d_X4_feed_55 : x_dec m_X4_feed 55 (.ishr) 1 56 := ⟨by decide +kernel, rfl⟩
theorem d_X4_feed_56 : x_dec m_X4_feed 56 (.sipush 255) 3 59 := ⟨by decide +kernel, rfl⟩
theorem d_X4_feed_59 : x_dec m_X4_feed 59 (.iand) 1 60 := ⟨by decide +kernel, rfl⟩
theorem d_X4_feed_60 : x_dec m_X4_feed 60 (.iastore) 1 61 := ⟨by decide +kernel, rfl⟩
theorem d_X4_feed_61 : x_dec m_X4_feed 61 (.aload_n 0) 1 62 := ⟨by decide +kernel, rfl⟩
theorem d_X4_feed_62 : x_dec m_X4_feed 62 (.dup) 1 63 := ⟨by decide +kernel, rfl⟩
theorem d_X4_feed_63 : x_dec m_X4_feed 63 (.getfield 183) 3 66 := ⟨by decide +kernel, rfl⟩
theorem d_X4_feed_66 : x_dec m_X4_feed 66 (.iconst 1) 1 67 := ⟨by decide +kernel, rfl⟩
theorem d_X4_feed_67 : x_dec m_X4_feed 67 (.iadd) 1 68 := ⟨by decide +kernel, rfl⟩
theorem d_X4_feed_68 : x_dec m_X4_feed 68 (.putfield 183) 3 71 := ⟨by decide +kernel, rfl⟩
theorem d_X4_feed_71 : x_dec m_X4_feed 71 (.iinc 3 (-1)) 3 74 := ⟨by decide +kernel, rfl⟩
theorem d_X4_feed_74 : x_dec m_X4_feed 74 (.goto (-36)) 3 77 := ⟨by decide +kernel, rfl⟩
theorem d_X4_feed_77 : x_dec m_X4_feed 77 (.aload_n 0) 1 78 := ⟨by decide +kernel, rfl⟩
theorem d_X4_feed_78 : x_dec m_X4_feed 78 (.getfield 183) 3 81 := ⟨by decide +kernel, rfl⟩
theorem d_X4_feed_81 : x_dec m_X4_feed 81 (.ireturn) 1 82 := ⟨by decide +kernel, rfl⟩
set_option maxHeartbeats 4000000 in
set_option maxRecDepth 100000 in
theorem c_X4_feed (l : Launch) (E : x_E) (μ : x_Mem) (g : x_SG) (hS : MS g μ) (hI : Inv g) (v n : Int32) : x_Met l m_X4_feed E [.ref (E.1 + 41), .int v, .int n] μ (x_I (fun z m => z = (F_feed g v n).1 ∧ MS (F_feed g v n).2 m ∧ ∀ id, id < 41 → m id = μ id)) := by
  obtain ⟨hR, hX, hD⟩ := hS
  have hWF := hI.1.1
  have hn7 := hWF.2.1
  have hpn := hWF.1
  have hF : ∀ id, id < 41 → μ id = μ id := fun _ _ => rfl
  have hT120 := hI.2.2.1
  refine x_enter (lv := [(0, .ref (E.1 + 41)), (1, .int v), (2, .int n)]) (by decide +kernel) (Nat.le_of_ble_eq_true rfl) rfl ?_
  refine x_iload_n 2 d_X4_feed_0 rfl rfl ?_
  refine x_iconst (x := 1) d_X4_feed_1 (by decide) ?_
  refine x_iconst (x := 4) d_X4_feed_2 (by decide) ?_
  refine x_csip (as := [.int n, .int 1, .int 4]) (c_X4_in l E μ n 1 4) v_X4_in q728 q727 rfl ⟨Nat.le_of_ble_eq_true rfl, Nat.le_of_ble_eq_true rfl⟩ rfl (Nat.le_of_ble_eq_true rfl) d_X4_feed_3 ?_
  refine x_ifb_ne 16 d_X4_feed_6 (by decide) (fun c1 => ?_) (fun c1 => ?_)
  · skip
    obtain ⟨h, hh, rfl⟩ := (inR_nat2 (a := 1) (n := 4) (by decide) (by decide) c1)
    refine x_aload_n 0 d_X4_feed_16 rfl rfl ?_
    refine x_getiV (j := 11) (z := nI (gT g)) x_c4 rfl (Nat.le_of_ble_eq_true rfl) q679 rfl (hX.2.2.1) d_X4_feed_17 ?_
    refine x_iload_n 2 d_X4_feed_20 rfl rfl ?_
    refine x_iadd d_X4_feed_21 ?_
    rw [show (nI (gT g)) + (nI h) = nI ((gT g) + h) from nI_add (gT g) h]
    refine x_bipush (x := 120) d_X4_feed_22 (by decide) ?_
    refine x_icmp_le 34 d_X4_feed_24 (by decide) (fun c2 => ?_) (fun c2 => ?_)
    · skip
      have hN : ¬ 120 < gT g + h := Nat.not_lt.mpr ((nI_leI (a := gT g + h) (b := 120) (by omega) (by decide)).mp c2)
      refine x_iload_n 2 d_X4_feed_34 rfl rfl ?_
      refine x_iconst (x := 1) d_X4_feed_35 (by decide) ?_
      refine x_isub d_X4_feed_36 ?_
      refine x_istore_n [(3, .int ((nI h) - 1)), (0, .ref (E.1 + 41)), (1, .int v), (2, .int (nI h))] d_X4_feed_37 rfl (Nat.le_of_ble_eq_true rfl) rfl ?_
      rw [show nI h - 1 = nI (h - 0) - 1 from rfl]
      have L3 : ∀ k : Nat, k ≤ h → ∀ μ6 : x_Mem, (MR (gA g) μ6) → (MX (sT g (gT g + k) (feedTo g v h k)) μ6) → (MD (gF g) μ6) → (∀ id, id < 41 → μ6 id = μ id) → x_G l E m_X4_feed (x_mv E m_X4_feed (x_I (fun z m => z = (F_feed g v (nI h)).1 ∧ MS (F_feed g v (nI h)).2 m ∧ ∀ id, id < 41 → m id = μ id))) μ6 38 [(3, .int (nI (h - k) - 1)), (0, .ref (E.1 + 41)), (1, .int v), (2, .int (nI h))] [] := by
        refine x_down _ h (fun k hi5 ih4 => ?_)
        intro μ6 hR1 hX1 hD1 hF1
        refine x_iload_n 0 d_X4_feed_38 rfl rfl ?_
        rcases Nat.lt_or_ge k h with hkn | hkn
        · rw [dn_up hkn]
          refine x_if_lt 77 d_X4_feed_39 (by decide) (fun c7 => ?_) (fun c7 => ?_)
          · skip
            exact absurd c7 (nI_pos (by omega))
          · skip
            refine x_aload_n 1 d_X4_feed_42 rfl rfl ?_
            refine x_getr (j := 10) 51 x_c4 rfl (Nat.le_of_ble_eq_true rfl) q678 rfl d_X4_feed_43 ?_
            refine x_aload_n 1 d_X4_feed_46 rfl rfl ?_
            refine x_getiV (j := 11) (z := nI (gT g + k)) x_c4 rfl (Nat.le_of_ble_eq_true rfl) q679 rfl (hX1.2.2.1) d_X4_feed_47 ?_
            refine x_iload_n 2 d_X4_feed_50 rfl rfl ?_
            refine x_bipush (x := 8) d_X4_feed_51 (by decide) ?_
            refine x_iload_n 0 d_X4_feed_53 rfl rfl ?_
            refine x_imul d_X4_feed_54 ?_
            rw [show (8 : Int32) * (nI (h - 1 - k)) = nI (8 * (h - 1 - k)) from nI_mulN 8 (h - 1 - k)]
            refine x_ishr d_X4_feed_55 ?_
            refine x_sipush (x := 255) d_X4_feed_56 (by decide) ?_
            refine x_iand d_X4_feed_59 ?_
            refine x_iastNG 120 (gT g + k) rfl rfl (by omega) (by decide) d_X4_feed_60 (fun μ8 eμ8 => ?_)
            have htl : μ8 41 11 = nI (gT g + k) := by rw [eμ8, upd2_ne _ _ _ (by decide)]; exact hX1.2.2.1
            have hR9 := MR.cg hR1 (μ' := μ8) (fun id hid => (by rw [eμ8, upd2_ne _ _ _ (by omega)]))
            have hD10 := MD.cg hD1 (μ' := μ8) (fun id hid => (by rw [eμ8, upd2_ne _ _ _ (by omega)]))
            have hF11 : ∀ id, id < 41 → μ8 id = μ id := fun id hid => (show μ8 id = μ6 id from (by rw [eμ8, upd2_ne _ _ _ (by omega)])).trans (hF1 id hid)
            refine x_aload_n 1 d_X4_feed_61 rfl rfl ?_
            refine x_dup d_X4_feed_62 rfl ?_
            refine x_getiV (j := 11) (z := nI (gT g + k)) x_c4 rfl (Nat.le_of_ble_eq_true rfl) q679 rfl htl d_X4_feed_63 ?_
            refine x_iconst (x := 1) d_X4_feed_66 (by decide) ?_
            refine x_iadd d_X4_feed_67 ?_
            rw [show (nI (gT g + k)) + (1 : Int32) = nI ((gT g + k) + 1) from nI_add (gT g + k) 1]
            refine x_putiG (j := 11) x_c4 rfl (Nat.le_of_ble_eq_true rfl) q679 rfl rfl rfl d_X4_feed_68 (fun μ12 eμ12 => ?_)
            have hX13 : MX (sT g (gT g + (k + 1)) (feedTo g v h (k + 1))) μ12 := MX.fed hX1 eμ8 eμ12 rfl
            have hR14 := MR.cg hR9 (μ' := μ12) (fun id hid => (by rw [eμ12, upd2_ne _ _ _ (by omega)]))
            have hD15 := MD.cg hD10 (μ' := μ12) (fun id hid => (by rw [eμ12, upd2_ne _ _ _ (by omega)]))
            have hF16 : ∀ id, id < 41 → μ12 id = μ id := fun id hid => (show μ12 id = μ8 id from (by rw [eμ12, upd2_ne _ _ _ (by omega)])).trans (hF11 id hid)
            refine x_iinc [(3, .int ((nI (h - 1 - k)) + (-1))), (0, .ref (E.1 + 41)), (1, .int v), (2, .int (nI h))] 0 d_X4_feed_71 rfl rfl (Nat.le_of_ble_eq_true rfl) rfl ?_
            rw [app_nx]
            refine x_goto 38 d_X4_feed_74 (by decide) ?_
            exact ih4 (k + 1) (by omega) (by omega) μ12 hR14 hX13 hD15 hF16
        · rw [show nI (h - k) - 1 = -1 from by rw [show h - k = 0 by omega]; decide]
          refine x_if_lt 77 d_X4_feed_39 (by decide) (fun c17 => ?_) (fun c17 => ?_)
          rotate_left
          · exact absurd c17 (by decide)
          refine x_aload_n 1 d_X4_feed_77 rfl rfl ?_
          refine x_getiV (j := 11) (z := nI (gT g + k)) x_c4 rfl (Nat.le_of_ble_eq_true rfl) q679 rfl (hX1.2.2.1) d_X4_feed_78 ?_
          refine x_iret rfl d_X4_feed_81 ?_
          have e7 : k = h := by omega
          subst e7
          have e9 : F_feed g v (nI k) = (nI (gT g + k), sT g (gT g + k) (feedTo g v k k)) := by simp [F_feed, c1, hN, nI_clamp (n := k) (by omega)]
          rw [e9]
          exact ⟨rfl, ⟨hR1, hX1, hD1⟩, hF1⟩
      exact L3 0 (by omega) μ hR (by rw [fd_0]; exact hX) hD hF
    · skip
      have hN : 120 < gT g + h := Nat.not_le.mp (fun z => c2 (nI_le z (by decide)))
      refine x_aload_n 0 d_X4_feed_27 rfl rfl ?_
      refine x_ldc q778 d_X4_feed_28 ?_
      refine x_cvi (k := 41) (as := [.int (-1000002)]) (c_X4_finds l E μ (i := 1) hD (by decide) (w := (-1000002)) (by decide)) v_X4_finds w_X4_finds q735 o_M rfl ⟨Nat.le_of_ble_eq_true rfl, Nat.le_of_ble_eq_true rfl⟩ rfl (Nat.le_of_ble_eq_true rfl) d_X4_feed_30 ?_
      rintro _ μ18 ⟨rfl, hD19, hF20⟩
      have hR21 := MR.cg hR (μ' := μ18) (fun id hid => (hF20 _ (by omega)))
      have hX22 := MX.cg hX (μ' := μ18) (fun id hid => (hF20 _ (by omega)))
      have hF23 : ∀ id, id < 41 → μ18 id = μ id := fun id hid => (show μ18 id = μ id from (hF20 _ (by omega))).trans (hF id hid)
      refine x_iret rfl d_X4_feed_33 ?_
      have e9 : F_feed g v (nI h) = fin g 1 := by simp [F_feed, x_b_f, x_b_t, c1, nI_clamp (n := h) (by omega), hN]
      rw [e9]
      exact ⟨rfl, MS.fin hR21 hX22 hD19, hF23⟩
  · skip
    refine x_aload_n 0 d_X4_feed_9 rfl rfl ?_
    refine x_ldc q734 d_X4_feed_10 ?_
    refine x_cvi (k := 41) (as := [.int (-1000001)]) (c_X4_finds l E μ (i := 0) hD (by decide) (w := (-1000001)) (by decide)) v_X4_finds w_X4_finds q735 o_M rfl ⟨Nat.le_of_ble_eq_true rfl, Nat.le_of_ble_eq_true rfl⟩ rfl (Nat.le_of_ble_eq_true rfl) d_X4_feed_12 ?_
    rintro _ μ24 ⟨rfl, hD25, hF26⟩
    have hR27 := MR.cg hR (μ' := μ24) (fun id hid => (hF26 _ (by omega)))
    have hX28 := MX.cg hX (μ' := μ24) (fun id hid => (hF26 _ (by omega)))
    have hF29 : ∀ id, id < 41 → μ24 id = μ id := fun id hid => (show μ24 id = μ id from (hF26 _ (by omega))).trans (hF id hid)
    refine x_iret rfl d_X4_feed_15 ?_
    have e9 : F_feed g v n = fin g 0 := by simp [F_feed, x_b_f, x_b_t, c1]
    rw [e9]
    exact ⟨rfl, MS.fin hR27 hX28 hD25, hF29⟩
