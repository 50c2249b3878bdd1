def m_X3_setsOfPeople : x_M := (yX3_setsOfPeople, prog_1_method_64_code, 1, (some FieldType.int), 0, 0)
theorem v_X3_setsOfPeople : x_VM m_X3_setsOfPeople 0 := ⟨q353, q1, by decide +kernel, by decide +kernel, by decide +kernel⟩
theorem w_X3_setsOfPeople : x_VI m_X3_setsOfPeople := ⟨q352, qs6⟩
theorem d_X3_setsOfPeople_0 : x_dec m_X3_setsOfPeople 0 (.iconst 1) 1 1 := ⟨by decide +kernel, rfl⟩
theorem d_X3_setsOfPeople_1 : x_dec m_X3_setsOfPeople 1 (.aload_n 0) 1 2 := ⟨by decide +kernel, rfl⟩
theorem d_X3_setsOfPeople_2 : x_dec m_X3_setsOfPeople 2 (.getfield 12) 3 5 := ⟨by decide +kernel, rfl⟩
theorem d_X3_setsOfPeople_5 : x_dec m_X3_setsOfPeople 5 (.getfield 72) 3 8 := ⟨by decide +kernel, rfl⟩
theorem d_X3_setsOfPeople_8 : x_dec m_X3_setsOfPeople 8 (.ishl) 1 9 := ⟨by decide +kernel, rfl⟩
theorem d_X3_setsOfPeople_9 : x_dec m_X3_setsOfPeople 9 (.ireturn) 1 10 := ⟨by decide +kernel, rfl⟩
set_option maxHeartbeats 4000000 in
set_option maxRecDepth 100000 in
theorem c_X3_setsOfPeople (l : Launch) (E : x_E) (μ : x_Mem) {a : x_St} (hL : PR a 1 μ) (hI : WF a) : x_Met l m_X3_setsOfPeople E [.ref (E.1 + 0)] μ (x_I (fun z m => z = nI (2 ^ pn a) ∧ m = μ)) := by
  have hn7 := hI.2.1
  have hpn := hI.1
  refine x_enter (lv := [(0, .ref (E.1 + 0))]) (by decide +kernel) (Nat.le_of_ble_eq_true rfl) rfl ?_
  refine x_iconst (x := 1) d_X3_setsOfPeople_0 (by decide) ?_
  refine x_aload_n 0 d_X3_setsOfPeople_1 rfl rfl ?_
  refine x_getr (j := 0) 1 x_c3 rfl (Nat.le_of_ble_eq_true rfl) q147 rfl d_X3_setsOfPeople_2 ?_
  refine x_getiV (j := 5) (z := nI (pn a)) x_c0 (p_kd x_pr1) (Nat.le_of_ble_eq_true rfl) q43 (p_n5 x_pr1) ((PR.f5 hL).trans hn7) d_X3_setsOfPeople_5 ?_
  refine x_ishl d_X3_setsOfPeople_8 ?_
  refine x_iret rfl d_X3_setsOfPeople_9 ?_
  exact ⟨shl1 (by omega), rfl⟩
def m_X3_trialWith : x_M := (yX3_trialWith, prog_1_method_27_code, 2, (some (FieldType.object "FaithRails$Prairie")), 2, 47)
theorem v_X3_trialWith : x_VM m_X3_trialWith 1 := ⟨q357, q1, by decide +kernel, by decide +kernel, by decide +kernel⟩
theorem w_X3_trialWith : x_VI m_X3_trialWith := ⟨q356, qs7⟩
theorem d_X3_trialWith_0 : x_dec m_X3_trialWith 0 (.aload_n 0) 1 1 := ⟨by decide +kernel, rfl⟩
theorem d_X3_trialWith_1 : x_dec m_X3_trialWith 1 (.getfield 16) 3 4 := ⟨by decide +kernel, rfl⟩
theorem d_X3_trialWith_4 : x_dec m_X3_trialWith 4 (.aload_n 0) 1 5 := ⟨by decide +kernel, rfl⟩
theorem d_X3_trialWith_5 : x_dec m_X3_trialWith 5 (.getfield 12) 3 8 := ⟨by decide +kernel, rfl⟩
theorem d_X3_trialWith_8 : x_dec m_X3_trialWith 8 (.invokevirtual 133) 3 11 := ⟨by decide +kernel, rfl⟩
theorem d_X3_trialWith_11 : x_dec m_X3_trialWith 11 (.aload_n 0) 1 12 := ⟨by decide +kernel, rfl⟩
theorem d_X3_trialWith_12 : x_dec m_X3_trialWith 12 (.getfield 16) 3 15 := ⟨by decide +kernel, rfl⟩
theorem d_X3_trialWith_15 : x_dec m_X3_trialWith 15 (.iload_n 1) 1 16 := ⟨by decide +kernel, rfl⟩
theorem d_X3_trialWith_16 : x_dec m_X3_trialWith 16 (.invokevirtual 177) 3 19 := ⟨by decide +kernel, rfl⟩
theorem d_X3_trialWith_19 : x_dec m_X3_trialWith 19 (.aload_n 0) 1 20 := ⟨by decide +kernel, rfl⟩
theorem d_X3_trialWith_20 : x_dec m_X3_trialWith 20 (.getfield 16) 3 23 := ⟨by decide +kernel, rfl⟩
theorem d_X3_trialWith_23 : x_dec m_X3_trialWith 23 (.areturn) 1 24 := ⟨by decide +kernel, rfl⟩
set_option maxHeartbeats 4000000 in
set_option maxRecDepth 100000 in
theorem c_X3_trialWith (l : Launch) (E : x_E) (μ : x_Mem) {a : x_St} (hL : PR a 1 μ) (hI : WF a) {h : Int32} (hH : μ 1 11 = h) {n : Nat} (hn : n < 65536) : x_Met l m_X3_trialWith E [.ref (E.1 + 0), .int (nI n)] μ (fun r m => r = some (.ref (E.1 + 10)) ∧ PR (rideTo a n.testBit (pn a)) 10 m ∧ ∀ id, (id < 10 ∨ 19 ≤ id) → m id = μ id) := by
  have hn7 := hI.2.1
  have hpn := hI.1
  have hF : ∀ id, (id < 10 ∨ 19 ≤ id) → μ id = μ id := fun _ _ => rfl
  refine x_enter (lv := [(0, .ref (E.1 + 0)), (1, .int (nI n))]) (by decide +kernel) (Nat.le_of_ble_eq_true rfl) rfl ?_
  refine x_aload_n 0 d_X3_trialWith_0 rfl rfl ?_
  refine x_getr (j := 1) 10 x_c3 rfl (Nat.le_of_ble_eq_true rfl) q148 rfl d_X3_trialWith_1 ?_
  refine x_aload_n 0 d_X3_trialWith_4 rfl rfl ?_
  refine x_getr (j := 0) 1 x_c3 rfl (Nat.le_of_ble_eq_true rfl) q147 rfl d_X3_trialWith_5 ?_
  refine x_cvv (k := 10) (as := [.ref (E.1 + 1)]) (c_X0_becomes l E μ x_pr10 x_pr1 (by decide) hL hH) v_X0_becomes w_X0_becomes q309 (p_ob x_pr10) rfl ⟨Nat.le_of_ble_eq_true rfl, Nat.le_of_ble_eq_true rfl⟩ rfl (Nat.le_of_ble_eq_true rfl) d_X3_trialWith_8 ?_
  rintro μ1 ⟨hT2, hTH3, hF4⟩
  have hL5 := PR.cg hL (μ' := μ1) (fun id hid => (hF4 _ (by omega)))
  have hLH6 := hH
  rw [← (show μ1 1 = μ 1 from (hF4 _ (by omega)))] at hLH6
  have hF7 : ∀ id, (id < 10 ∨ 19 ≤ id) → μ1 id = μ id := fun id hid => (show μ1 id = μ id from (hF4 _ (by omega))).trans (hF id hid)
  refine x_aload_n 0 d_X3_trialWith_11 rfl rfl ?_
  refine x_getr (j := 1) 10 x_c3 rfl (Nat.le_of_ble_eq_true rfl) q148 rfl d_X3_trialWith_12 ?_
  refine x_iload_n 1 d_X3_trialWith_15 rfl rfl ?_
  refine x_cvv (k := 10) (as := [.int (nI n)]) (c_X0_letRide l E μ1 x_pr10 hT2 hI (n := n) (by omega)) v_X0_letRide w_X0_letRide q358 (p_ob x_pr10) rfl ⟨Nat.le_of_ble_eq_true rfl, Nat.le_of_ble_eq_true rfl⟩ rfl (Nat.le_of_ble_eq_true rfl) d_X3_trialWith_16 ?_
  rintro μ8 ⟨hR9, hF10⟩
  have hL11 := PR.cg hL5 (μ' := μ8) (fun id hid => (hF10 _ (by omega)))
  have hLH12 := hLH6
  rw [← (show μ8 1 = μ1 1 from (hF10 _ (by omega)))] at hLH12
  have hF13 : ∀ id, (id < 10 ∨ 19 ≤ id) → μ8 id = μ id := fun id hid => (show μ8 id = μ1 id from (hF10 _ (by omega))).trans (hF7 id hid)
  have hTH14 := hTH3
  rw [← (show μ8 10 = μ1 10 from (hF10 _ (by omega)))] at hTH14
  refine x_aload_n 0 d_X3_trialWith_19 rfl rfl ?_
  refine x_getr (j := 1) 10 x_c3 rfl (Nat.le_of_ble_eq_true rfl) q148 rfl d_X3_trialWith_20 ?_
  refine x_aret rfl (Or.inr ⟨_, rfl⟩) d_X3_trialWith_23 ?_
  exact ⟨rfl, hR9, hF13⟩
def m_X3_trialBelieving : x_M := (yX3_trialBelieving, prog_1_method_28_code, 3, (some (FieldType.object "FaithRails$Prairie")), 2, 47)
theorem v_X3_trialBelieving : x_VM m_X3_trialBelieving 2 := ⟨q390, q1, by decide +kernel, by decide +kernel, by decide +kernel⟩
theorem w_X3_trialBelieving : x_VI m_X3_trialBelieving := ⟨q389, qs8⟩
theorem d_X3_trialBelieving_0 : x_dec m_X3_trialBelieving 0 (.aload_n 0) 1 1 := ⟨by decide +kernel, rfl⟩
theorem d_X3_trialBelieving_1 : x_dec m_X3_trialBelieving 1 (.getfield 16) 3 4 := ⟨by decide +kernel, rfl⟩
theorem d_X3_trialBelieving_4 : x_dec m_X3_trialBelieving 4 (.aload_n 0) 1 5 := ⟨by decide +kernel, rfl⟩
theorem d_X3_trialBelieving_5 : x_dec m_X3_trialBelieving 5 (.getfield 12) 3 8 := ⟨by decide +kernel, rfl⟩
theorem d_X3_trialBelieving_8 : x_dec m_X3_trialBelieving 8 (.invokevirtual 133) 3 11 := ⟨by decide +kernel, rfl⟩
theorem d_X3_trialBelieving_11 : x_dec m_X3_trialBelieving 11 (.aload_n 0) 1 12 := ⟨by decide +kernel, rfl⟩
theorem d_X3_trialBelieving_12 : x_dec m_X3_trialBelieving 12 (.getfield 16) 3 15 := ⟨by decide +kernel, rfl⟩
theorem d_X3_trialBelieving_15 : x_dec m_X3_trialBelieving 15 (.getfield 90) 3 18 := ⟨by decide +kernel, rfl⟩
theorem d_X3_trialBelieving_18 : x_dec m_X3_trialBelieving 18 (.iload_n 1) 1 19 := ⟨by decide +kernel, rfl⟩
theorem d_X3_trialBelieving_19 : x_dec m_X3_trialBelieving 19 (.iload_n 2) 1 20 := ⟨by decide +kernel, rfl⟩
theorem d_X3_trialBelieving_20 : x_dec m_X3_trialBelieving 20 (.iastore) 1 21 := ⟨by decide +kernel, rfl⟩
theorem d_X3_trialBelieving_21 : x_dec m_X3_trialBelieving 21 (.aload_n 0) 1 22 := ⟨by decide +kernel, rfl⟩
theorem d_X3_trialBelieving_22 : x_dec m_X3_trialBelieving 22 (.getfield 16) 3 25 := ⟨by decide +kernel, rfl⟩
theorem d_X3_trialBelieving_25 : x_dec m_X3_trialBelieving 25 (.areturn) 1 26 := ⟨by decide +kernel, rfl⟩
set_option maxHeartbeats 4000000 in
set_option maxRecDepth 100000 in
theorem c_X3_trialBelieving (l : Launch) (E : x_E) (μ : x_Mem) {a : x_St} (hL : PR a 1 μ) (hI : WF a) {h : Int32} (hH : μ 1 11 = h) {p b : Nat} (hp : p < 8) (hb : b < 100) : x_Met l m_X3_trialBelieving E [.ref (E.1 + 0), .int (nI p), .int (nI b)] μ (fun r m => r = some (.ref (E.1 + 10)) ∧ PR (upd a (24 + 3 * p + 2) (nI b)) 10 m ∧ ∀ id, (id < 10 ∨ 19 ≤ id) → m id = μ id) := by
  have hn7 := hI.2.1
  have hpn := hI.1
  have hF : ∀ id, (id < 10 ∨ 19 ≤ id) → μ id = μ id := fun _ _ => rfl
  refine x_enter (lv := [(0, .ref (E.1 + 0)), (1, .int (nI p)), (2, .int (nI b))]) (by decide +kernel) (Nat.le_of_ble_eq_true rfl) rfl ?_
  refine x_aload_n 0 d_X3_trialBelieving_0 rfl rfl ?_
  refine x_getr (j := 1) 10 x_c3 rfl (Nat.le_of_ble_eq_true rfl) q148 rfl d_X3_trialBelieving_1 ?_
  refine x_aload_n 0 d_X3_trialBelieving_4 rfl rfl ?_
  refine x_getr (j := 0) 1 x_c3 rfl (Nat.le_of_ble_eq_true rfl) q147 rfl d_X3_trialBelieving_5 ?_
  refine x_cvv (k := 10) (as := [.ref (E.1 + 1)]) (c_X0_becomes l E μ x_pr10 x_pr1 (by decide) hL hH) v_X0_becomes w_X0_becomes q309 (p_ob x_pr10) rfl ⟨Nat.le_of_ble_eq_true rfl, Nat.le_of_ble_eq_true rfl⟩ rfl (Nat.le_of_ble_eq_true rfl) d_X3_trialBelieving_8 ?_
  rintro μ1 ⟨hT2, hTH3, hF4⟩
  have hL5 := PR.cg hL (μ' := μ1) (fun id hid => (hF4 _ (by omega)))
  have hLH6 := hH
  rw [← (show μ1 1 = μ 1 from (hF4 _ (by omega)))] at hLH6
  have hF7 : ∀ id, (id < 10 ∨ 19 ≤ id) → μ1 id = μ id := fun id hid => (show μ1 id = μ id from (hF4 _ (by omega))).trans (hF id hid)
  refine x_aload_n 0 d_X3_trialBelieving_11 rfl rfl ?_
  refine x_getr (j := 1) 10 x_c3 rfl (Nat.le_of_ble_eq_true rfl) q148 rfl d_X3_trialBelieving_12 ?_
  refine x_getr (j := 3) (10 + 4) x_c0 (p_kd x_pr10) (Nat.le_of_ble_eq_true rfl) q39 (p_f3 x_pr10) d_X3_trialBelieving_15 ?_
  refine x_iload_n 1 d_X3_trialBelieving_18 rfl rfl ?_
  refine x_iload_n 2 d_X3_trialBelieving_19 rfl rfl ?_
  refine x_iastNG 8 p (p_k4 x_pr10) (p_l4 x_pr10) (by omega) (by decide) d_X3_trialBelieving_20 (fun μ8 eμ8 => ?_)
  have hT9 : PR (upd a (24 + 3 * p + 2) (nI b)) 10 μ8 := PR.a4 hT2 eμ8 (by omega)
  have hL10 := PR.cg hL5 (μ' := μ8) (fun id hid => (by rw [eμ8, upd2_ne _ _ _ (by omega)]))
  have hLH11 := hLH6
  rw [← (show μ8 1 = μ1 1 from (by rw [eμ8, upd2_ne _ _ _ (by omega)]))] at hLH11
  have hF12 : ∀ id, (id < 10 ∨ 19 ≤ id) → μ8 id = μ id := fun id hid => (show μ8 id = μ1 id from (by rw [eμ8, upd2_ne _ _ _ (by omega)])).trans (hF7 id hid)
  have hTH13 := hTH3
  rw [← (show μ8 10 = μ1 10 from (by rw [eμ8, upd2_ne _ _ _ (by omega)]))] at hTH13
  refine x_aload_n 0 d_X3_trialBelieving_21 rfl rfl ?_
  refine x_getr (j := 1) 10 x_c3 rfl (Nat.le_of_ble_eq_true rfl) q148 rfl d_X3_trialBelieving_22 ?_
  refine x_aret rfl (Or.inr ⟨_, rfl⟩) d_X3_trialBelieving_25 ?_
  exact ⟨rfl, hT9, hF12⟩
def m_X3_with : x_M := (yX3_with, prog_1_method_19_code, 3, (some FieldType.int), 6, 141)
theorem v_X3_with : x_VM m_X3_with 2 := ⟨q349, q1, by decide +kernel, by decide +kernel, by decide +kernel⟩
theorem w_X3_with : x_VI m_X3_with := ⟨q347, q348⟩
theorem d_X3_with_0 : x_dec m_X3_with 0 (.iload_n 1) 1 1 := ⟨by decide +kernel, rfl⟩
theorem d_X3_with_1 : x_dec m_X3_with 1 (.ifCond .lt 18) 3 4 := ⟨by decide +kernel, rfl⟩
theorem d_X3_with_4 : x_dec m_X3_with 4 (.iload_n 1) 1 5 := ⟨by decide +kernel, rfl⟩
theorem d_X3_with_5 : x_dec m_X3_with 5 (.aload_n 0) 1 6 := ⟨by decide +kernel, rfl⟩
theorem d_X3_with_6 : x_dec m_X3_with 6 (.invokevirtual 148) 3 9 := ⟨by decide +kernel, rfl⟩
theorem d_X3_with_9 : x_dec m_X3_with 9 (.if_icmp .ge 10) 3 12 := ⟨by decide +kernel, rfl⟩
theorem d_X3_with_12 : x_dec m_X3_with 12 (.iload_n 2) 1 13 := ⟨by decide +kernel, rfl⟩
theorem d_X3_with_13 : x_dec m_X3_with 13 (.invokestatic 145) 3 16 := ⟨by decide +kernel, rfl⟩
theorem d_X3_with_16 : x_dec m_X3_with 16 (.ifCond .ne 10) 3 19 := ⟨by decide +kernel, rfl⟩
theorem d_X3_with_19 : x_dec m_X3_with 19 (.aload_n 0) 1 20 := ⟨by decide +kernel, rfl⟩
theorem d_X3_with_20 : x_dec m_X3_with 20 (.ldc 55) 2 22 := ⟨by decide +kernel, rfl⟩
theorem d_X3_with_22 : x_dec m_X3_with 22 (.invokevirtual 56) 3 25 := ⟨by decide +kernel, rfl⟩
theorem d_X3_with_25 : x_dec m_X3_with 25 (.ireturn) 1 26 := ⟨by decide +kernel, rfl⟩
theorem d_X3_with_26 : x_dec m_X3_with 26 (.aload_n 0) 1 27 := ⟨by decide +kernel, rfl⟩
theorem d_X3_with_27 : x_dec m_X3_with 27 (.iload_n 1) 1 28 := ⟨by decide +kernel, rfl⟩
theorem d_X3_with_28 : x_dec m_X3_with 28 (.invokevirtual 151) 3 31 := ⟨by decide +kernel, rfl⟩
theorem d_X3_with_31 : x_dec m_X3_with 31 (.iload_n 2) 1 32 := ⟨by decide +kernel, rfl⟩
theorem d_X3_with_32 : x_dec m_X3_with 32 (.invokevirtual 137) 3 35 := ⟨by decide +kernel, rfl⟩
theorem d_X3_with_35 : x_dec m_X3_with 35 (.ireturn) 1 36 := ⟨by decide +kernel, rfl⟩
set_option maxHeartbeats 4000000 in
set_option maxRecDepth 100000 in
theorem c_X3_with (l : Launch) (E : x_E) (μ : x_Mem) (g : x_SG) (hS : XS g μ) (hI : Inv g) (s n : Int32) : x_Met l m_X3_with E [.ref (E.1 + 0), .int s, .int n] μ (x_I (fun z m => z = (F_with g s n).1 ∧ XS (F_with g s n).2 m ∧ ∀ id, 41 ≤ id → m id = μ id)) := by
  obtain ⟨hL, hH, hX, hD⟩ := hS
  have hWF := hI.1.1
  have hn7 := hWF.2.1
  have hpn := hWF.1
  have hF : ∀ id, 41 ≤ id → μ id = μ id := fun _ _ => rfl
  have h2p := pow8 hpn
  have h2q := Nat.one_le_two_pow (n := pn (gA g))
  refine x_enter (lv := [(0, .ref (E.1 + 0)), (1, .int s), (2, .int n)]) (by decide +kernel) (Nat.le_of_ble_eq_true rfl) rfl ?_
  refine x_iload_n 1 d_X3_with_0 rfl rfl ?_
  refine x_if_lt 19 d_X3_with_1 (by decide) (fun c1 => ?_) (fun c1 => ?_)
  · skip
    refine x_aload_n 0 d_X3_with_19 rfl rfl ?_
    refine x_ldc q182 d_X3_with_20 ?_
    refine x_cvi (k := 0) (as := [.int (-1000001)]) (c_X3_finding l E μ (i := 0) hD (by decide) (w := (-1000001)) (by decide)) v_X3_finding w_X3_finding q183 o_X rfl ⟨Nat.le_of_ble_eq_true rfl, Nat.le_of_ble_eq_true rfl⟩ rfl (Nat.le_of_ble_eq_true rfl) d_X3_with_22 ?_
    rintro _ μ2 ⟨rfl, hD3, hF4⟩
    have hL5 := PR.cg hL (μ' := μ2) (fun id hid => (hF4 _ (by omega)))
    have hLH6 := hH
    rw [← (show μ2 1 = μ 1 from (hF4 _ (by omega)))] at hLH6
    have hX7 := XR.cg hX (μ' := μ2) (fun id hid => (hF4 _ (by omega)))
    have hF8 : ∀ id, 41 ≤ id → μ2 id = μ id := fun id hid => (show μ2 id = μ id from (hF4 _ (by omega))).trans (hF id hid)
    refine x_iret rfl d_X3_with_25 ?_
    have e9 : F_with g s n = fin g 0 := by simp [F_with, x_b_f, x_b_t, isSet_f1 c1, rideY]
    rw [e9]
    exact ⟨rfl, XS.fin hL5 hLH6 hX7 hD3, hF8⟩
  · skip
    refine x_iload_n 1 d_X3_with_4 rfl rfl ?_
    refine x_aload_n 0 d_X3_with_5 rfl rfl ?_
    refine x_cvip (k := 0) (as := []) (c_X3_setsOfPeople l E μ hL hWF) v_X3_setsOfPeople w_X3_setsOfPeople q350 o_X rfl ⟨Nat.le_of_ble_eq_true rfl, Nat.le_of_ble_eq_true rfl⟩ rfl (Nat.le_of_ble_eq_true rfl) d_X3_with_6 ?_
    refine x_icmp_ge 19 d_X3_with_9 (by decide) (fun c9 => ?_) (fun c9 => ?_)
    · skip
      refine x_aload_n 0 d_X3_with_19 rfl rfl ?_
      refine x_ldc q182 d_X3_with_20 ?_
      refine x_cvi (k := 0) (as := [.int (-1000001)]) (c_X3_finding l E μ (i := 0) hD (by decide) (w := (-1000001)) (by decide)) v_X3_finding w_X3_finding q183 o_X rfl ⟨Nat.le_of_ble_eq_true rfl, Nat.le_of_ble_eq_true rfl⟩ rfl (Nat.le_of_ble_eq_true rfl) d_X3_with_22 ?_
      rintro _ μ10 ⟨rfl, hD11, hF12⟩
      have hL13 := PR.cg hL (μ' := μ10) (fun id hid => (hF12 _ (by omega)))
      have hLH14 := hH
      rw [← (show μ10 1 = μ 1 from (hF12 _ (by omega)))] at hLH14
      have hX15 := XR.cg hX (μ' := μ10) (fun id hid => (hF12 _ (by omega)))
      have hF16 : ∀ id, 41 ≤ id → μ10 id = μ id := fun id hid => (show μ10 id = μ id from (hF12 _ (by omega))).trans (hF id hid)
      refine x_iret rfl d_X3_with_25 ?_
      have e9 : F_with g s n = fin g 0 := by simp [F_with, x_b_f, x_b_t, isSet_f2 c9, rideY]
      rw [e9]
      exact ⟨rfl, XS.fin hL13 hLH14 hX15 hD11, hF16⟩
    · skip
      have hset := isSet_t c1 c9
      obtain ⟨j, hj, rfl⟩ := isSet_nat hpn c1 c9
      refine x_iload_n 2 d_X3_with_12 rfl rfl ?_
      refine x_csip (as := [.int n]) (c_X3_isRide l E μ n) v_X3_isRide q344 q343 rfl ⟨Nat.le_of_ble_eq_true rfl, Nat.le_of_ble_eq_true rfl⟩ rfl (Nat.le_of_ble_eq_true rfl) d_X3_with_13 ?_
      refine x_ifb_ne 26 d_X3_with_16 (by decide) (fun c17 => ?_) (fun c17 => ?_)
      · skip
        obtain ⟨h, hh, rfl⟩ := inR_nat (n := 60) (by decide) c17
        refine x_aload_n 0 d_X3_with_26 rfl rfl ?_
        refine x_iload_n 1 d_X3_with_27 rfl rfl ?_
        refine x_cv (k := 0) (as := [.int (nI j)]) (c_X3_trialWith l E μ hL hWF hH (n := j) (by omega)) v_X3_trialWith w_X3_trialWith q354 o_X rfl ⟨Nat.le_of_ble_eq_true rfl, Nat.le_of_ble_eq_true rfl⟩ rfl (Nat.le_of_ble_eq_true rfl) d_X3_with_28 ?_
        rintro _ μ18 ⟨rfl, hT19, hF20⟩
        have hL21 := PR.cg hL (μ' := μ18) (fun id hid => (hF20 _ (by omega)))
        have hLH22 := hH
        rw [← (show μ18 1 = μ 1 from (hF20 _ (by omega)))] at hLH22
        have hX23 := XR.cg hX (μ' := μ18) (fun id hid => (hF20 _ (by omega)))
        have hD24 := XD.cg hD (μ' := μ18) (fun id hid => (hF20 _ (by omega)))
        have hF25 : ∀ id, 41 ≤ id → μ18 id = μ id := fun id hid => (show μ18 id = μ id from (hF20 _ (by omega))).trans (hF id hid)
        refine x_eqst (st' := [.ref (E.1 + 10)]) rfl ?_
        refine x_iload_n 2 d_X3_with_31 rfl rfl ?_
        refine x_cvi (k := 10) (as := [.int (nI h)]) (c_X0_yardBehind l E μ18 x_pr10 hT19 (hWF.rideTo _ _ (by omega)) (n := h) (by omega)) v_X0_yardBehind w_X0_yardBehind q313 (p_ob x_pr10) rfl ⟨Nat.le_of_ble_eq_true rfl, Nat.le_of_ble_eq_true rfl⟩ rfl (Nat.le_of_ble_eq_true rfl) d_X3_with_32 ?_
        rintro _ μ26 ⟨rfl, hF27⟩
        have hL28 := PR.cg hL21 (μ' := μ26) (fun id hid => (hF27 _ (by omega)))
        have hLH29 := hLH22
        rw [← (show μ26 1 = μ18 1 from (hF27 _ (by omega)))] at hLH29
        have hX30 := XR.cg hX23 (μ' := μ26) (fun id hid => (hF27 _ (by omega)))
        have hD31 := XD.cg hD24 (μ' := μ26) (fun id hid => (hF27 _ (by omega)))
        have hF32 : ∀ id, 41 ≤ id → μ26 id = μ id := fun id hid => (show μ26 id = μ18 id from (hF27 _ (by omega))).trans (hF25 id hid)
        refine x_iret rfl d_X3_with_35 ?_
        have e9 : F_with g (nI j) (nI h) = (hoursF (rideTo (gA g) (j).testBit (pn (gA g))) h 1, g) := by simp [F_with, x_b_f, x_b_t, c17, nI_clamp (n := j) (by omega), nI_clamp (n := h) (by omega), hset, rideY]
        rw [e9]
        exact ⟨rfl, ⟨hL28, hLH29, hX30, hD31⟩, hF32⟩
      · skip
        refine x_aload_n 0 d_X3_with_19 rfl rfl ?_
        refine x_ldc q182 d_X3_with_20 ?_
        refine x_cvi (k := 0) (as := [.int (-1000001)]) (c_X3_finding l E μ (i := 0) hD (by decide) (w := (-1000001)) (by decide)) v_X3_finding w_X3_finding q183 o_X rfl ⟨Nat.le_of_ble_eq_true rfl, Nat.le_of_ble_eq_true rfl⟩ rfl (Nat.le_of_ble_eq_true rfl) d_X3_with_22 ?_
        rintro _ μ33 ⟨rfl, hD34, hF35⟩
        have hL36 := PR.cg hL (μ' := μ33) (fun id hid => (hF35 _ (by omega)))
        have hLH37 := hH
        rw [← (show μ33 1 = μ 1 from (hF35 _ (by omega)))] at hLH37
        have hX38 := XR.cg hX (μ' := μ33) (fun id hid => (hF35 _ (by omega)))
        have hF39 : ∀ id, 41 ≤ id → μ33 id = μ id := fun id hid => (show μ33 id = μ id from (hF35 _ (by omega))).trans (hF id hid)
        refine x_iret rfl d_X3_with_25 ?_
        have e9 : F_with g (nI j) n = fin g 0 := by simp [F_with, x_b_f, x_b_t, c17, nI_clamp (n := j) (by omega), hset, rideY]
        rw [e9]
        exact ⟨rfl, XS.fin hL36 hLH37 hX38 hD34, hF39⟩
def m_X3_fewest : x_M := (yX3_fewest, prog_1_method_20_code, 6, (some FieldType.int), 6, 141)
theorem v_X3_fewest : x_VM m_X3_fewest 2 := ⟨q368, q1, by decide +kernel, by decide +kernel, by decide +kernel⟩
theorem w_X3_fewest : x_VI m_X3_fewest := ⟨q366, q367⟩
theorem d_X3_fewest_0 : x_dec m_X3_fewest 0 (.iload_n 1) 1 1 := ⟨by decide +kernel, rfl⟩
theorem d_X3_fewest_1 : x_dec m_X3_fewest 1 (.invokestatic 96) 3 4 := ⟨by decide +kernel, rfl⟩
theorem d_X3_fewest_4 : x_dec m_X3_fewest 4 (.ifCond .eq 10) 3 7 := ⟨by decide +kernel, rfl⟩
theorem d_X3_fewest_7 : x_dec m_X3_fewest 7 (.iload_n 2) 1 8 := ⟨by decide +kernel, rfl⟩
theorem d_X3_fewest_8 : x_dec m_X3_fewest 8 (.invokestatic 145) 3 11 := ⟨by decide +kernel, rfl⟩
theorem d_X3_fewest_11 : x_dec m_X3_fewest 11 (.ifCond .ne 10) 3 14 := ⟨by decide +kernel, rfl⟩
theorem d_X3_fewest_14 : x_dec m_X3_fewest 14 (.aload_n 0) 1 15 := ⟨by decide +kernel, rfl⟩
theorem d_X3_fewest_15 : x_dec m_X3_fewest 15 (.ldc 55) 2 17 := ⟨by decide +kernel, rfl⟩
theorem d_X3_fewest_17 : x_dec m_X3_fewest 17 (.invokevirtual 56) 3 20 := ⟨by decide +kernel, rfl⟩
theorem d_X3_fewest_20 : x_dec m_X3_fewest 20 (.ireturn) 1 21 := ⟨by decide +kernel, rfl⟩
theorem d_X3_fewest_21 : x_dec m_X3_fewest 21 (.aload_n 0) 1 22 := ⟨by decide +kernel, rfl⟩
theorem d_X3_fewest_22 : x_dec m_X3_fewest 22 (.invokevirtual 148) 3 25 := ⟨by decide +kernel, rfl⟩
theorem d_X3_fewest_25 : x_dec m_X3_fewest 25 (.istore_n 3) 1 26 := ⟨by decide +kernel, rfl⟩
theorem d_X3_fewest_26 : x_dec m_X3_fewest 26 (.iconst 0) 1 27 := ⟨by decide +kernel, rfl⟩
theorem d_X3_fewest_27 : x_dec m_X3_fewest 27 (.istore 4) 2 29 := ⟨by decide +kernel, rfl⟩
theorem d_X3_fewest_29 : x_dec m_X3_fewest 29 (.iload 4) 2 31 := ⟨by decide +kernel, rfl⟩
theorem d_X3_fewest_31 : x_dec m_X3_fewest 31 (.aload_n 0) 1 32 := ⟨by decide +kernel, rfl⟩
theorem d_X3_fewest_32 : x_dec m_X3_fewest 32 (.getfield 12) 3 35 := ⟨by decide +kernel, rfl⟩
theorem d_X3_fewest_35 : x_dec m_X3_fewest 35 (.getfield 72) 3 38 := ⟨by decide +kernel, rfl⟩
theorem d_X3_fewest_38 : x_dec m_X3_fewest 38 (.if_icmp .gt 51) 3 41 := ⟨by decide +kernel, rfl⟩
theorem d_X3_fewest_41 : x_dec m_X3_fewest 41 (.iconst 0) 1 42 := ⟨by decide +kernel, rfl⟩
theorem d_X3_fewest_42 : x_dec m_X3_fewest 42 (.istore 5) 2 44 := ⟨by decide +kernel, rfl⟩
theorem d_X3_fewest_44 : x_dec m_X3_fewest 44 (.iload 5) 2 46 := ⟨by decide +kernel, rfl⟩
theorem d_X3_fewest_46 : x_dec m_X3_fewest 46 (.iload_n 3) 1 47 := ⟨by decide +kernel, rfl⟩
theorem d_X3_fewest_47 : x_dec m_X3_fewest 47 (.if_icmp .ge 36) 3 50 := ⟨by decide +kernel, rfl⟩
theorem d_X3_fewest_50 : x_dec m_X3_fewest 50 (.iload 5) 2 52 := ⟨by decide +kernel, rfl⟩
theorem d_X3_fewest_52 : x_dec m_X3_fewest 52 (.invokestatic 155) 3 55 := ⟨by decide +kernel, rfl⟩
theorem d_X3_fewest_55 : x_dec m_X3_fewest 55 (.iload 4) 2 57 := ⟨by decide +kernel, rfl⟩
theorem d_X3_fewest_57 : x_dec m_X3_fewest 57 (.if_icmp .ne 20) 3 60 := ⟨by decide +kernel, rfl⟩
theorem d_X3_fewest_60 : x_dec m_X3_fewest 60 (.aload_n 0) 1 61 := ⟨by decide +kernel, rfl⟩
theorem d_X3_fewest_61 : x_dec m_X3_fewest 61 (.iload 5) 2 63 := ⟨by decide +kernel, rfl⟩
theorem d_X3_fewest_63 : x_dec m_X3_fewest 63 (.invokevirtual 151) 3 66 := ⟨by decide +kernel, rfl⟩
theorem d_X3_fewest_66 : x_dec m_X3_fewest 66 (.iload_n 2) 1 67 := ⟨by decide +kernel, rfl⟩
theorem d_X3_fewest_67 : x_dec m_X3_fewest 67 (.invokevirtual 137) 3 70 := ⟨by decide +kernel, rfl⟩
theorem d_X3_fewest_70 : x_dec m_X3_fewest 70 (.iload_n 1) 1 71 := ⟨by decide +kernel, rfl⟩
theorem d_X3_fewest_71 : x_dec m_X3_fewest 71 (.if_icmp .lt 6) 3 74 := ⟨by decide +kernel, rfl⟩
theorem d_X3_fewest_74 : x_dec m_X3_fewest 74 (.iload 5) 2 76 := ⟨by decide +kernel, rfl⟩
theorem d_X3_fewest_76 : x_dec m_X3_fewest 76 (.ireturn) 1 77 := ⟨by decide +kernel, rfl⟩
theorem d_X3_fewest_77 : x_dec m_X3_fewest 77 (.iinc 5 1) 3 80 := ⟨by decide +kernel, rfl⟩
theorem d_X3_fewest_80 : x_dec m_X3_fewest 80 (.goto (-36)) 3 83 := ⟨by decide +kernel, rfl⟩
theorem d_X3_fewest_83 : x_dec m_X3_fewest 83 (.iinc 4 1) 3 86 := ⟨by decide +kernel, rfl⟩
theorem d_X3_fewest_86 : x_dec m_X3_fewest 86 (.goto (-57)) 3 89 := ⟨by decide +kernel, rfl⟩
theorem d_X3_fewest_89 : x_dec m_X3_fewest 89 (.aload_n 0) 1 90 := ⟨by decide +kernel, rfl⟩
theorem d_X3_fewest_90 : x_dec m_X3_fewest 90 (.ldc 144) 2 92 := ⟨by decide +kernel, rfl⟩
theorem d_X3_fewest_92 : x_dec m_X3_fewest 92 (.invokevirtual 56) 3 95 := ⟨by decide +kernel, rfl⟩
theorem d_X3_fewest_95 : x_dec m_X3_fewest 95 (.ireturn) 1 96 := ⟨by decide +kernel, rfl⟩
set_option maxHeartbeats 4000000 in
set_option maxRecDepth 100000 in
theorem c_X3_fewest (l : Launch) (E : x_E) (μ : x_Mem) (g : x_SG) (hS : XS g μ) (hI : Inv g) (y n : Int32) : x_Met l m_X3_fewest E [.ref (E.1 + 0), .int y, .int n] μ (x_I (fun z m => z = (F_fewest g y n).1 ∧ XS (F_fewest g y n).2 m ∧ ∀ id, 41 ≤ id → m id = μ id)) := by
  obtain ⟨hL, hH, hX, hD⟩ := hS
  have hWF := hI.1.1
  have hn7 := hWF.2.1
  have hpn := hWF.1
  have hF : ∀ id, 41 ≤ id → μ id = μ id := fun _ _ => rfl
  have h2p := pow8 hpn
  have h2q := Nat.one_le_two_pow (n := pn (gA g))
  refine x_enter (lv := [(0, .ref (E.1 + 0)), (1, .int y), (2, .int n)]) (by decide +kernel) (Nat.le_of_ble_eq_true rfl) rfl ?_
  refine x_iload_n 1 d_X3_fewest_0 rfl rfl ?_
  refine x_csip (as := [.int y]) (c_X3_isYard l E μ y) v_X3_isYard q248 q247 rfl ⟨Nat.le_of_ble_eq_true rfl, Nat.le_of_ble_eq_true rfl⟩ rfl (Nat.le_of_ble_eq_true rfl) d_X3_fewest_1 ?_
  refine x_ifb_eq 14 d_X3_fewest_4 (by decide) (fun c1 => ?_) (fun c1 => ?_)
  · skip
    refine x_aload_n 0 d_X3_fewest_14 rfl rfl ?_
    refine x_ldc q182 d_X3_fewest_15 ?_
    refine x_cvi (k := 0) (as := [.int (-1000001)]) (c_X3_finding l E μ (i := 0) hD (by decide) (w := (-1000001)) (by decide)) v_X3_finding w_X3_finding q183 o_X rfl ⟨Nat.le_of_ble_eq_true rfl, Nat.le_of_ble_eq_true rfl⟩ rfl (Nat.le_of_ble_eq_true rfl) d_X3_fewest_17 ?_
    rintro _ μ2 ⟨rfl, hD3, hF4⟩
    have hL5 := PR.cg hL (μ' := μ2) (fun id hid => (hF4 _ (by omega)))
    have hLH6 := hH
    rw [← (show μ2 1 = μ 1 from (hF4 _ (by omega)))] at hLH6
    have hX7 := XR.cg hX (μ' := μ2) (fun id hid => (hF4 _ (by omega)))
    have hF8 : ∀ id, 41 ≤ id → μ2 id = μ id := fun id hid => (show μ2 id = μ id from (hF4 _ (by omega))).trans (hF id hid)
    refine x_iret rfl d_X3_fewest_20 ?_
    have e9 : F_fewest g y n = fin g 0 := by simp [F_fewest, x_b_f, x_b_t, c1]
    rw [e9]
    exact ⟨rfl, XS.fin hL5 hLH6 hX7 hD3, hF8⟩
  · skip
    refine x_iload_n 2 d_X3_fewest_7 rfl rfl ?_
    refine x_csip (as := [.int n]) (c_X3_isRide l E μ n) v_X3_isRide q344 q343 rfl ⟨Nat.le_of_ble_eq_true rfl, Nat.le_of_ble_eq_true rfl⟩ rfl (Nat.le_of_ble_eq_true rfl) d_X3_fewest_8 ?_
    refine x_ifb_ne 21 d_X3_fewest_11 (by decide) (fun c9 => ?_) (fun c9 => ?_)
    · skip
      obtain ⟨h, hh, rfl⟩ := inR_nat (n := 60) (by decide) c9
      refine x_aload_n 0 d_X3_fewest_21 rfl rfl ?_
      refine x_cvip (k := 0) (as := []) (c_X3_setsOfPeople l E μ hL hWF) v_X3_setsOfPeople w_X3_setsOfPeople q350 o_X rfl ⟨Nat.le_of_ble_eq_true rfl, Nat.le_of_ble_eq_true rfl⟩ rfl (Nat.le_of_ble_eq_true rfl) d_X3_fewest_22 ?_
      refine x_istore_n [(3, .int (nI (2 ^ pn (gA g)))), (0, .ref (E.1 + 0)), (1, .int y), (2, .int (nI h))] d_X3_fewest_25 rfl (Nat.le_of_ble_eq_true rfl) rfl ?_
      refine x_iconst (x := 0) d_X3_fewest_26 (by decide) ?_
      refine x_istore [(4, .int 0), (3, .int (nI (2 ^ pn (gA g)))), (0, .ref (E.1 + 0)), (1, .int y), (2, .int (nI h))] d_X3_fewest_27 (Nat.le_of_ble_eq_true rfl) rfl ?_
      have L10 : ∀ z : Nat, z ≤ pn (gA g) + 1 → ∀ μ13 : x_Mem, (PR (gA g) 1 μ13) → (μ13 1 11 = gA g 0) → (XR g μ13) → (XD (gF g) μ13) → (∀ id, 41 ≤ id → μ13 id = μ id) → (∀ s, s < 2 ^ pn (gA g) → popN 8 s < z → (fun s => decide (y ≤ rideY (gA g) h s)) s = false) → x_G l E m_X3_fewest (x_mv E m_X3_fewest (x_I (fun z m => z = (F_fewest g y (nI h)).1 ∧ XS (F_fewest g y (nI h)).2 m ∧ ∀ id, 41 ≤ id → m id = μ id))) μ13 29 [(4, .int (nI z)), (3, .int (nI (2 ^ pn (gA g)))), (0, .ref (E.1 + 0)), (1, .int y), (2, .int (nI h))] [] := by
        refine x_down _ (pn (gA g) + 1) (fun z hi12 ih11 => ?_)
        intro μ13 hL1 hH1 hX1 hD1 hF1 ho
        refine x_iload 0 d_X3_fewest_29 rfl ?_
        refine x_aload_n 2 d_X3_fewest_31 rfl rfl ?_
        refine x_getr (j := 0) 1 x_c3 rfl (Nat.le_of_ble_eq_true rfl) q147 rfl d_X3_fewest_32 ?_
        refine x_getiV (j := 5) (z := nI (pn (gA g))) x_c0 (p_kd x_pr1) (Nat.le_of_ble_eq_true rfl) q43 (p_n5 x_pr1) ((PR.f5 hL1).trans hn7) d_X3_fewest_35 ?_
        refine x_icmp_gt 89 d_X3_fewest_38 (by decide) (fun c14 => ?_) (fun c14 => ?_)
        · skip
          have hN := (nI_ltI (a := pn (gA g)) (b := z) (by omega) (by omega)).mp c14
          refine x_aload_n 2 d_X3_fewest_89 rfl rfl ?_
          refine x_ldc q326 d_X3_fewest_90 ?_
          refine x_cvi (k := 0) (as := [.int (-1000004)]) (c_X3_finding l E μ13 (i := 3) hD1 (by decide) (w := (-1000004)) (by decide)) v_X3_finding w_X3_finding q183 o_X rfl ⟨Nat.le_of_ble_eq_true rfl, Nat.le_of_ble_eq_true rfl⟩ rfl (Nat.le_of_ble_eq_true rfl) d_X3_fewest_92 ?_
          rintro _ μ15 ⟨rfl, hD16, hF17⟩
          have hL18 := PR.cg hL1 (μ' := μ15) (fun id hid => (hF17 _ (by omega)))
          have hLH19 := hH1
          rw [← (show μ15 1 = μ13 1 from (hF17 _ (by omega)))] at hLH19
          have hX20 := XR.cg hX1 (μ' := μ15) (fun id hid => (hF17 _ (by omega)))
          have hF21 : ∀ id, 41 ≤ id → μ15 id = μ id := fun id hid => (show μ15 id = μ13 id from (hF17 _ (by omega))).trans (hF1 id hid)
          refine x_iret rfl d_X3_fewest_95 ?_
          have e8 := fewTo_none (f := (fun s => decide (y ≤ rideY (gA g) h s))) (fewest_end hpn hN ho)
          have e9 : F_fewest g y (nI h) = fin g 3 := by simp [F_fewest, x_b_f, x_b_t, c1, c9, nI_clamp (n := h) (by omega), e8, orO]
          rw [e9]
          exact ⟨rfl, XS.fin hL18 hLH19 hX20 hD16, hF21⟩
        · skip
          have hN : ¬ pn (gA g) < z := fun q => c14 (nI_lt q (by omega))
          refine x_iconst (x := 0) d_X3_fewest_41 (by decide) ?_
          refine x_istore [(5, .int 0), (4, .int (nI z)), (3, .int (nI (2 ^ pn (gA g)))), (0, .ref (E.1 + 0)), (1, .int y), (2, .int (nI h))] d_X3_fewest_42 (Nat.le_of_ble_eq_true rfl) rfl ?_
          have L22 : ∀ j : Nat, j ≤ 2 ^ pn (gA g) → ∀ μ25 : x_Mem, (PR (gA g) 1 μ25) → (μ25 1 11 = gA g 0) → (XR g μ25) → (XD (gF g) μ25) → (∀ id, 41 ≤ id → μ25 id = μ id) → (∀ s, s < 2 ^ pn (gA g) → popN 8 s < z → (fun s => decide (y ≤ rideY (gA g) h s)) s = false) → (∀ s, s < j → popN 8 s = z → (fun s => decide (y ≤ rideY (gA g) h s)) s = false) → x_G l E m_X3_fewest (x_mv E m_X3_fewest (x_I (fun z m => z = (F_fewest g y (nI h)).1 ∧ XS (F_fewest g y (nI h)).2 m ∧ ∀ id, 41 ≤ id → m id = μ id))) μ25 44 [(5, .int (nI j)), (4, .int (nI z)), (3, .int (nI (2 ^ pn (gA g)))), (0, .ref (E.1 + 0)), (1, .int y), (2, .int (nI h))] [] := by
            refine x_down _ (2 ^ pn (gA g)) (fun j hi24 ih23 => ?_)
            intro μ25 hL1 hH1 hX1 hD1 hF1 ho hi1
            refine x_iload 0 d_X3_fewest_44 rfl ?_
            refine x_iload_n 2 d_X3_fewest_46 rfl rfl ?_
            refine x_icmp_ge 83 d_X3_fewest_47 (by decide) (fun c26 => ?_) (fun c26 => ?_)
            · skip
              have hN := x_ge (N := 2 ^ pn (gA g)) c26 rfl rfl (by omega) (by omega)
              refine x_iinc [(4, .int (nI (z + 1))), (5, .int (nI j)), (3, .int (nI (2 ^ pn (gA g)))), (0, .ref (E.1 + 0)), (1, .int y), (2, .int (nI h))] 1 d_X3_fewest_83 rfl (x_inc _) (Nat.le_of_ble_eq_true rfl) rfl ?_
              refine x_goto 29 d_X3_fewest_86 (by decide) ?_
              refine x_lv [0, 2, 3, 4, 5] rfl ?_
              exact ih11 (z + 1) (by omega) (by omega) μ25 hL1 hH1 hX1 hD1 hF1 (fewest_out ho hi1 hN)
            · skip
              have hN := x_lt (N := 2 ^ pn (gA g)) c26 rfl rfl (by omega) (by omega)
              refine x_iload 0 d_X3_fewest_50 rfl ?_
              refine x_csip (as := [.int (nI j)]) (c_J_bitCount l E μ25 (s := j) (by omega)) v_J_bitCount q370 q369 rfl ⟨Nat.le_of_ble_eq_true rfl, Nat.le_of_ble_eq_true rfl⟩ rfl (Nat.le_of_ble_eq_true rfl) d_X3_fewest_52 ?_
              refine x_iload 1 d_X3_fewest_55 rfl ?_
              refine x_icmp_ne 77 d_X3_fewest_57 (by decide) (fun c27 => ?_) (fun c27 => ?_)
              · skip
                refine x_iinc [(5, .int (nI (j + 1))), (4, .int (nI z)), (3, .int (nI (2 ^ pn (gA g)))), (0, .ref (E.1 + 0)), (1, .int y), (2, .int (nI h))] 0 d_X3_fewest_77 rfl (x_inc _) (Nat.le_of_ble_eq_true rfl) rfl ?_
                refine x_goto 44 d_X3_fewest_80 (by decide) ?_
                exact ih23 (j + 1) (by omega) (by omega) μ25 hL1 hH1 hX1 hD1 hF1 ho (fewest_step (by omega) hi1 (Or.inl c27))
              · skip
                refine x_aload_n 3 d_X3_fewest_60 rfl rfl ?_
                refine x_iload 0 d_X3_fewest_61 rfl ?_
                refine x_cv (k := 0) (as := [.int (nI j)]) (c_X3_trialWith l E μ25 hL1 hWF hH1 (n := j) (by omega)) v_X3_trialWith w_X3_trialWith q354 o_X rfl ⟨Nat.le_of_ble_eq_true rfl, Nat.le_of_ble_eq_true rfl⟩ rfl (Nat.le_of_ble_eq_true rfl) d_X3_fewest_63 ?_
                rintro _ μ28 ⟨rfl, hT29, hF30⟩
                have hL31 := PR.cg hL1 (μ' := μ28) (fun id hid => (hF30 _ (by omega)))
                have hLH32 := hH1
                rw [← (show μ28 1 = μ25 1 from (hF30 _ (by omega)))] at hLH32
                have hX33 := XR.cg hX1 (μ' := μ28) (fun id hid => (hF30 _ (by omega)))
                have hD34 := XD.cg hD1 (μ' := μ28) (fun id hid => (hF30 _ (by omega)))
                have hF35 : ∀ id, 41 ≤ id → μ28 id = μ id := fun id hid => (show μ28 id = μ25 id from (hF30 _ (by omega))).trans (hF1 id hid)
                refine x_eqst (st' := [.ref (E.1 + 10)]) rfl ?_
                refine x_iload_n 5 d_X3_fewest_66 rfl rfl ?_
                refine x_cvi (k := 10) (as := [.int (nI h)]) (c_X0_yardBehind l E μ28 x_pr10 hT29 (hWF.rideTo _ _ (by omega)) (n := h) (by omega)) v_X0_yardBehind w_X0_yardBehind q313 (p_ob x_pr10) rfl ⟨Nat.le_of_ble_eq_true rfl, Nat.le_of_ble_eq_true rfl⟩ rfl (Nat.le_of_ble_eq_true rfl) d_X3_fewest_67 ?_
                rintro _ μ36 ⟨rfl, hF37⟩
                have hL38 := PR.cg hL31 (μ' := μ36) (fun id hid => (hF37 _ (by omega)))
                have hLH39 := hLH32
                rw [← (show μ36 1 = μ28 1 from (hF37 _ (by omega)))] at hLH39
                have hX40 := XR.cg hX33 (μ' := μ36) (fun id hid => (hF37 _ (by omega)))
                have hD41 := XD.cg hD34 (μ' := μ36) (fun id hid => (hF37 _ (by omega)))
                have hF42 : ∀ id, 41 ≤ id → μ36 id = μ id := fun id hid => (show μ36 id = μ28 id from (hF37 _ (by omega))).trans (hF35 id hid)
                refine x_iload_n 4 d_X3_fewest_70 rfl rfl ?_
                refine x_icmp_lt 77 d_X3_fewest_71 (by decide) (fun c43 => ?_) (fun c43 => ?_)
                · skip
                  refine x_iinc [(5, .int (nI (j + 1))), (4, .int (nI z)), (3, .int (nI (2 ^ pn (gA g)))), (0, .ref (E.1 + 0)), (1, .int y), (2, .int (nI h))] 0 d_X3_fewest_77 rfl (x_inc _) (Nat.le_of_ble_eq_true rfl) rfl ?_
                  refine x_goto 44 d_X3_fewest_80 (by decide) ?_
                  exact ih23 (j + 1) (by omega) (by omega) μ36 hL38 hLH39 hX40 hD41 hF42 ho (fewest_step (by omega) hi1 (Or.inr (decide_eq_false (Int32.not_le.mpr c43))))
                · skip
                  refine x_iload 0 d_X3_fewest_74 rfl ?_
                  refine x_iret rfl d_X3_fewest_76 ?_
                  have e5 := pop_eq (by omega) (by omega) c27
                  have e8 := fewTo_some (f := (fun s => decide (y ≤ rideY (gA g) h s))) (n := 2 ^ pn (gA g)) (j := j) (by omega) (decide_eq_true (Int32.not_lt.mp c43)) (fun s hs hp => ho s hs (by omega)) (fun s hs hp => hi1 s hs (by omega))
                  have e9 : F_fewest g y (nI h) = (nI j, g) := by simp [F_fewest, x_b_f, x_b_t, c1, c9, nI_clamp (n := h) (by omega), e8, orO]
                  rw [e9]
                  exact ⟨rfl, ⟨hL38, hLH39, hX40, hD41⟩, hF42⟩
          exact L22 0 (by omega) μ13 hL1 hH1 hX1 hD1 hF1 ho (fun _ h => absurd h (Nat.not_lt_zero _))
      exact L10 0 (by omega) μ hL hH hX hD hF (fun _ _ h => absurd h (Nat.not_lt_zero _))
    · skip
      refine x_aload_n 0 d_X3_fewest_14 rfl rfl ?_
      refine x_ldc q182 d_X3_fewest_15 ?_
      refine x_cvi (k := 0) (as := [.int (-1000001)]) (c_X3_finding l E μ (i := 0) hD (by decide) (w := (-1000001)) (by decide)) v_X3_finding w_X3_finding q183 o_X rfl ⟨Nat.le_of_ble_eq_true rfl, Nat.le_of_ble_eq_true rfl⟩ rfl (Nat.le_of_ble_eq_true rfl) d_X3_fewest_17 ?_
      rintro _ μ44 ⟨rfl, hD45, hF46⟩
      have hL47 := PR.cg hL (μ' := μ44) (fun id hid => (hF46 _ (by omega)))
      have hLH48 := hH
      rw [← (show μ44 1 = μ 1 from (hF46 _ (by omega)))] at hLH48
      have hX49 := XR.cg hX (μ' := μ44) (fun id hid => (hF46 _ (by omega)))
      have hF50 : ∀ id, 41 ≤ id → μ44 id = μ id := fun id hid => (show μ44 id = μ id from (hF46 _ (by omega))).trans (hF id hid)
      refine x_iret rfl d_X3_fewest_20 ?_
      have e9 : F_fewest g y n = fin g 0 := by simp [F_fewest, x_b_f, x_b_t, c1, c9]
      rw [e9]
      exact ⟨rfl, XS.fin hL47 hLH48 hX49 hD45, hF50⟩
def m_X3_farthest : x_M := (yX3_farthest, prog_1_method_21_code, 7, (some FieldType.int), 6, 141)
theorem v_X3_farthest : x_VM m_X3_farthest 1 := ⟨q378, q1, by decide +kernel, by decide +kernel, by decide +kernel⟩
theorem w_X3_farthest : x_VI m_X3_farthest := ⟨q376, q377⟩
theorem d_X3_farthest_0 : x_dec m_X3_farthest 0 (.iload_n 1) 1 1 := ⟨by decide +kernel, rfl⟩
theorem d_X3_farthest_1 : x_dec m_X3_farthest 1 (.invokestatic 145) 3 4 := ⟨by decide +kernel, rfl⟩
theorem d_X3_farthest_4 : x_dec m_X3_farthest 4 (.ifCond .ne 10) 3 7 := ⟨by decide +kernel, rfl⟩
theorem d_X3_farthest_7 : x_dec m_X3_farthest 7 (.aload_n 0) 1 8 := ⟨by decide +kernel, rfl⟩
theorem d_X3_farthest_8 : x_dec m_X3_farthest 8 (.ldc 55) 2 10 := ⟨by decide +kernel, rfl⟩
theorem d_X3_farthest_10 : x_dec m_X3_farthest 10 (.invokevirtual 56) 3 13 := ⟨by decide +kernel, rfl⟩
theorem d_X3_farthest_13 : x_dec m_X3_farthest 13 (.ireturn) 1 14 := ⟨by decide +kernel, rfl⟩
theorem d_X3_farthest_14 : x_dec m_X3_farthest 14 (.aload_n 0) 1 15 := ⟨by decide +kernel, rfl⟩
theorem d_X3_farthest_15 : x_dec m_X3_farthest 15 (.invokevirtual 148) 3 18 := ⟨by decide +kernel, rfl⟩
theorem d_X3_farthest_18 : x_dec m_X3_farthest 18 (.istore_n 2) 1 19 := ⟨by decide +kernel, rfl⟩
theorem d_X3_farthest_19 : x_dec m_X3_farthest 19 (.iconst 0) 1 20 := ⟨by decide +kernel, rfl⟩
theorem d_X3_farthest_20 : x_dec m_X3_farthest 20 (.istore_n 3) 1 21 := ⟨by decide +kernel, rfl⟩
theorem d_X3_farthest_21 : x_dec m_X3_farthest 21 (.iconst (-1)) 1 22 := ⟨by decide +kernel, rfl⟩
theorem d_X3_farthest_22 : x_dec m_X3_farthest 22 (.istore 4) 2 24 := ⟨by decide +kernel, rfl⟩
theorem d_X3_farthest_24 : x_dec m_X3_farthest 24 (.iconst 0) 1 25 := ⟨by decide +kernel, rfl⟩
theorem d_X3_farthest_25 : x_dec m_X3_farthest 25 (.istore 5) 2 27 := ⟨by decide +kernel, rfl⟩
theorem d_X3_farthest_27 : x_dec m_X3_farthest 27 (.iload 5) 2 29 := ⟨by decide +kernel, rfl⟩
theorem d_X3_farthest_29 : x_dec m_X3_farthest 29 (.iload_n 2) 1 30 := ⟨by decide +kernel, rfl⟩
theorem d_X3_farthest_30 : x_dec m_X3_farthest 30 (.if_icmp .ge 35) 3 33 := ⟨by decide +kernel, rfl⟩
theorem d_X3_farthest_33 : x_dec m_X3_farthest 33 (.aload_n 0) 1 34 := ⟨by decide +kernel, rfl⟩
theorem d_X3_farthest_34 : x_dec m_X3_farthest 34 (.iload 5) 2 36 := ⟨by decide +kernel, rfl⟩
theorem d_X3_farthest_36 : x_dec m_X3_farthest 36 (.invokevirtual 151) 3 39 := ⟨by decide +kernel, rfl⟩
theorem d_X3_farthest_39 : x_dec m_X3_farthest 39 (.iload_n 1) 1 40 := ⟨by decide +kernel, rfl⟩
theorem d_X3_farthest_40 : x_dec m_X3_farthest 40 (.invokevirtual 137) 3 43 := ⟨by decide +kernel, rfl⟩
theorem d_X3_farthest_43 : x_dec m_X3_farthest 43 (.istore 6) 2 45 := ⟨by decide +kernel, rfl⟩
theorem d_X3_farthest_45 : x_dec m_X3_farthest 45 (.iload 6) 2 47 := ⟨by decide +kernel, rfl⟩
theorem d_X3_farthest_47 : x_dec m_X3_farthest 47 (.iload 4) 2 49 := ⟨by decide +kernel, rfl⟩
theorem d_X3_farthest_49 : x_dec m_X3_farthest 49 (.if_icmp .le 10) 3 52 := ⟨by decide +kernel, rfl⟩
theorem d_X3_farthest_52 : x_dec m_X3_farthest 52 (.iload 6) 2 54 := ⟨by decide +kernel, rfl⟩
theorem d_X3_farthest_54 : x_dec m_X3_farthest 54 (.istore 4) 2 56 := ⟨by decide +kernel, rfl⟩
theorem d_X3_farthest_56 : x_dec m_X3_farthest 56 (.iload 5) 2 58 := ⟨by decide +kernel, rfl⟩
theorem d_X3_farthest_58 : x_dec m_X3_farthest 58 (.istore_n 3) 1 59 := ⟨by decide +kernel, rfl⟩
theorem d_X3_farthest_59 : x_dec m_X3_farthest 59 (.iinc 5 1) 3 62 := ⟨by decide +kernel, rfl⟩
theorem d_X3_farthest_62 : x_dec m_X3_farthest 62 (.goto (-35)) 3 65 := ⟨by decide +kernel, rfl⟩
theorem d_X3_farthest_65 : x_dec m_X3_farthest 65 (.iload_n 3) 1 66 := ⟨by decide +kernel, rfl⟩
theorem d_X3_farthest_66 : x_dec m_X3_farthest 66 (.ireturn) 1 67 := ⟨by decide +kernel, rfl⟩
set_option maxHeartbeats 4000000 in
set_option maxRecDepth 100000 in
theorem c_X3_farthest (l : Launch) (E : x_E) (μ : x_Mem) (g : x_SG) (hS : XS g μ) (hI : Inv g) (n : Int32) : x_Met l m_X3_farthest E [.ref (E.1 + 0), .int n] μ (x_I (fun z m => z = (F_farthest g n).1 ∧ XS (F_farthest g n).2 m ∧ ∀ id, 41 ≤ id → m id = μ id)) := by
  obtain ⟨hL, hH, hX, hD⟩ := hS
  have hWF := hI.1.1
  have hn7 := hWF.2.1
  have hpn := hWF.1
  have hF : ∀ id, 41 ≤ id → μ id = μ id := fun _ _ => rfl
  have h2p := pow8 hpn
  have h2q := Nat.one_le_two_pow (n := pn (gA g))
  refine x_enter (lv := [(0, .ref (E.1 + 0)), (1, .int n)]) (by decide +kernel) (Nat.le_of_ble_eq_true rfl) rfl ?_
  refine x_iload_n 1 d_X3_farthest_0 rfl rfl ?_
  refine x_csip (as := [.int n]) (c_X3_isRide l E μ n) v_X3_isRide q344 q343 rfl ⟨Nat.le_of_ble_eq_true rfl, Nat.le_of_ble_eq_true rfl⟩ rfl (Nat.le_of_ble_eq_true rfl) d_X3_farthest_1 ?_
  refine x_ifb_ne 14 d_X3_farthest_4 (by decide) (fun c1 => ?_) (fun c1 => ?_)
  · skip
    obtain ⟨h, hh, rfl⟩ := inR_nat (n := 60) (by decide) c1
    refine x_aload_n 0 d_X3_farthest_14 rfl rfl ?_
    refine x_cvip (k := 0) (as := []) (c_X3_setsOfPeople l E μ hL hWF) v_X3_setsOfPeople w_X3_setsOfPeople q350 o_X rfl ⟨Nat.le_of_ble_eq_true rfl, Nat.le_of_ble_eq_true rfl⟩ rfl (Nat.le_of_ble_eq_true rfl) d_X3_farthest_15 ?_
    refine x_istore_n [(2, .int (nI (2 ^ pn (gA g)))), (0, .ref (E.1 + 0)), (1, .int (nI h))] d_X3_farthest_18 rfl (Nat.le_of_ble_eq_true rfl) rfl ?_
    refine x_iconst (x := 0) d_X3_farthest_19 (by decide) ?_
    refine x_istore_n [(3, .int 0), (2, .int (nI (2 ^ pn (gA g)))), (0, .ref (E.1 + 0)), (1, .int (nI h))] d_X3_farthest_20 rfl (Nat.le_of_ble_eq_true rfl) rfl ?_
    refine x_iconst (x := (-1)) d_X3_farthest_21 (by decide) ?_
    refine x_istore [(4, .int (-1)), (3, .int 0), (2, .int (nI (2 ^ pn (gA g)))), (0, .ref (E.1 + 0)), (1, .int (nI h))] d_X3_farthest_22 (Nat.le_of_ble_eq_true rfl) rfl ?_
    refine x_iconst (x := 0) d_X3_farthest_24 (by decide) ?_
    refine x_istore [(5, .int 0), (4, .int (-1)), (3, .int 0), (2, .int (nI (2 ^ pn (gA g)))), (0, .ref (E.1 + 0)), (1, .int (nI h))] d_X3_farthest_25 (Nat.le_of_ble_eq_true rfl) rfl ?_
    have L2 : ∀ i : Nat, i ≤ 2 ^ pn (gA g) → ∀ b : Int32, ∀ m : Int32, ∀ μ5 : x_Mem, (b = (bestTo (rideY (gA g) h) i).1) → (m = (bestTo (rideY (gA g) h) i).2) → (PR (gA g) 1 μ5) → (μ5 1 11 = gA g 0) → (XR g μ5) → (XD (gF g) μ5) → (∀ id, 41 ≤ id → μ5 id = μ id) → x_G l E m_X3_farthest (x_mv E m_X3_farthest (x_I (fun z m => z = (F_farthest g (nI h)).1 ∧ XS (F_farthest g (nI h)).2 m ∧ ∀ id, 41 ≤ id → m id = μ id))) μ5 27 [(5, .int (nI i)), (4, .int m), (3, .int b), (2, .int (nI (2 ^ pn (gA g)))), (0, .ref (E.1 + 0)), (1, .int (nI h))] [] := by
      refine x_down _ (2 ^ pn (gA g)) (fun i hi4 ih3 => ?_)
      intro b m μ5 hb hm hL1 hH1 hX1 hD1 hF1
      refine x_iload 0 d_X3_farthest_27 rfl ?_
      refine x_iload_n 3 d_X3_farthest_29 rfl rfl ?_
      refine x_icmp_ge 65 d_X3_farthest_30 (by decide) (fun c6 => ?_) (fun c6 => ?_)
      · skip
        have hN := x_ge (N := 2 ^ pn (gA g)) c6 rfl rfl (by omega) (by omega)
        refine x_iload_n 2 d_X3_farthest_65 rfl rfl ?_
        refine x_iret rfl d_X3_farthest_66 ?_
        have e7 : i = 2 ^ pn (gA g) := by omega
        subst e7
        subst hb
        have e9 : F_farthest g (nI h) = ((bestTo (rideY (gA g) h) (2 ^ pn (gA g))).1, g) := by simp [F_farthest, x_b_f, x_b_t, c1, nI_clamp (n := h) (by omega)]
        rw [e9]
        exact ⟨rfl, ⟨hL1, hH1, hX1, hD1⟩, hF1⟩
      · skip
        have hN := x_lt (N := 2 ^ pn (gA g)) c6 rfl rfl (by omega) (by omega)
        refine x_aload_n 4 d_X3_farthest_33 rfl rfl ?_
        refine x_iload 0 d_X3_farthest_34 rfl ?_
        refine x_cv (k := 0) (as := [.int (nI i)]) (c_X3_trialWith l E μ5 hL1 hWF hH1 (n := i) (by omega)) v_X3_trialWith w_X3_trialWith q354 o_X rfl ⟨Nat.le_of_ble_eq_true rfl, Nat.le_of_ble_eq_true rfl⟩ rfl (Nat.le_of_ble_eq_true rfl) d_X3_farthest_36 ?_
        rintro _ μ7 ⟨rfl, hT8, hF9⟩
        have hL10 := PR.cg hL1 (μ' := μ7) (fun id hid => (hF9 _ (by omega)))
        have hLH11 := hH1
        rw [← (show μ7 1 = μ5 1 from (hF9 _ (by omega)))] at hLH11
        have hX12 := XR.cg hX1 (μ' := μ7) (fun id hid => (hF9 _ (by omega)))
        have hD13 := XD.cg hD1 (μ' := μ7) (fun id hid => (hF9 _ (by omega)))
        have hF14 : ∀ id, 41 ≤ id → μ7 id = μ id := fun id hid => (show μ7 id = μ5 id from (hF9 _ (by omega))).trans (hF1 id hid)
        refine x_eqst (st' := [.ref (E.1 + 10)]) rfl ?_
        refine x_iload_n 5 d_X3_farthest_39 rfl rfl ?_
        refine x_cvi (k := 10) (as := [.int (nI h)]) (c_X0_yardBehind l E μ7 x_pr10 hT8 (hWF.rideTo _ _ (by omega)) (n := h) (by omega)) v_X0_yardBehind w_X0_yardBehind q313 (p_ob x_pr10) rfl ⟨Nat.le_of_ble_eq_true rfl, Nat.le_of_ble_eq_true rfl⟩ rfl (Nat.le_of_ble_eq_true rfl) d_X3_farthest_40 ?_
        rintro _ μ15 ⟨rfl, hF16⟩
        have hL17 := PR.cg hL10 (μ' := μ15) (fun id hid => (hF16 _ (by omega)))
        have hLH18 := hLH11
        rw [← (show μ15 1 = μ7 1 from (hF16 _ (by omega)))] at hLH18
        have hX19 := XR.cg hX12 (μ' := μ15) (fun id hid => (hF16 _ (by omega)))
        have hD20 := XD.cg hD13 (μ' := μ15) (fun id hid => (hF16 _ (by omega)))
        have hF21 : ∀ id, 41 ≤ id → μ15 id = μ id := fun id hid => (show μ15 id = μ7 id from (hF16 _ (by omega))).trans (hF14 id hid)
        refine x_istore [(6, .int (hoursF (rideTo (gA g) (i).testBit (pn (gA g))) h 1)), (5, .int (nI i)), (4, .int m), (3, .int b), (2, .int (nI (2 ^ pn (gA g)))), (0, .ref (E.1 + 0)), (1, .int (nI h))] d_X3_farthest_43 (Nat.le_of_ble_eq_true rfl) rfl ?_
        refine x_iload 0 d_X3_farthest_45 rfl ?_
        refine x_iload 2 d_X3_farthest_47 rfl ?_
        refine x_icmp_le 59 d_X3_farthest_49 (by decide) (fun c22 => ?_) (fun c22 => ?_)
        · skip
          refine x_iinc [(5, .int (nI (i + 1))), (6, .int (hoursF (rideTo (gA g) (i).testBit (pn (gA g))) h 1)), (4, .int m), (3, .int b), (2, .int (nI (2 ^ pn (gA g)))), (0, .ref (E.1 + 0)), (1, .int (nI h))] 1 d_X3_farthest_59 rfl (x_inc _) (Nat.le_of_ble_eq_true rfl) rfl ?_
          refine x_goto 27 d_X3_farthest_62 (by decide) ?_
          refine x_lv [0, 2, 3, 4, 5, 6] rfl ?_
          exact ih3 (i + 1) (by omega) (by omega) b m μ15 (by rw [bestTo_f (f := (rideY (gA g) h)) (by rw [← hm]; exact c22)]; exact hb) (by rw [bestTo_f (f := (rideY (gA g) h)) (by rw [← hm]; exact c22)]; exact hm) hL17 hLH18 hX19 hD20 hF21
        · skip
          refine x_iload 0 d_X3_farthest_52 rfl ?_
          refine x_istore [(4, .int (hoursF (rideTo (gA g) (i).testBit (pn (gA g))) h 1)), (6, .int (hoursF (rideTo (gA g) (i).testBit (pn (gA g))) h 1)), (5, .int (nI i)), (3, .int b), (2, .int (nI (2 ^ pn (gA g)))), (0, .ref (E.1 + 0)), (1, .int (nI h))] d_X3_farthest_54 (Nat.le_of_ble_eq_true rfl) rfl ?_
          refine x_iload 2 d_X3_farthest_56 rfl ?_
          refine x_istore_n [(3, .int (nI i)), (4, .int (hoursF (rideTo (gA g) (i).testBit (pn (gA g))) h 1)), (6, .int (hoursF (rideTo (gA g) (i).testBit (pn (gA g))) h 1)), (5, .int (nI i)), (2, .int (nI (2 ^ pn (gA g)))), (0, .ref (E.1 + 0)), (1, .int (nI h))] d_X3_farthest_58 rfl (Nat.le_of_ble_eq_true rfl) rfl ?_
          refine x_iinc [(5, .int (nI (i + 1))), (3, .int (nI i)), (4, .int (hoursF (rideTo (gA g) (i).testBit (pn (gA g))) h 1)), (6, .int (hoursF (rideTo (gA g) (i).testBit (pn (gA g))) h 1)), (2, .int (nI (2 ^ pn (gA g)))), (0, .ref (E.1 + 0)), (1, .int (nI h))] 3 d_X3_farthest_59 rfl (x_inc _) (Nat.le_of_ble_eq_true rfl) rfl ?_
          refine x_goto 27 d_X3_farthest_62 (by decide) ?_
          refine x_lv [0, 2, 1, 4, 5, 6] rfl ?_
          exact ih3 (i + 1) (by omega) (by omega) (nI i) (hoursF (rideTo (gA g) (i).testBit (pn (gA g))) h 1) μ15 (by rw [bestTo_t (f := (rideY (gA g) h)) (by rw [← hm]; exact c22)] <;> rfl) (by rw [bestTo_t (f := (rideY (gA g) h)) (by rw [← hm]; exact c22)] <;> rfl) hL17 hLH18 hX19 hD20 hF21
    exact L2 0 (by omega) 0 (-1) μ (by rfl) (by rfl) hL hH hX hD hF
  · skip
    refine x_aload_n 0 d_X3_farthest_7 rfl rfl ?_
    refine x_ldc q182 d_X3_farthest_8 ?_
    refine x_cvi (k := 0) (as := [.int (-1000001)]) (c_X3_finding l E μ (i := 0) hD (by decide) (w := (-1000001)) (by decide)) v_X3_finding w_X3_finding q183 o_X rfl ⟨Nat.le_of_ble_eq_true rfl, Nat.le_of_ble_eq_true rfl⟩ rfl (Nat.le_of_ble_eq_true rfl) d_X3_farthest_10 ?_
    rintro _ μ23 ⟨rfl, hD24, hF25⟩
    have hL26 := PR.cg hL (μ' := μ23) (fun id hid => (hF25 _ (by omega)))
    have hLH27 := hH
    rw [← (show μ23 1 = μ 1 from (hF25 _ (by omega)))] at hLH27
    have hX28 := XR.cg hX (μ' := μ23) (fun id hid => (hF25 _ (by omega)))
    have hF29 : ∀ id, 41 ≤ id → μ23 id = μ id := fun id hid => (show μ23 id = μ id from (hF25 _ (by omega))).trans (hF id hid)
    refine x_iret rfl d_X3_farthest_13 ?_
    have e9 : F_farthest g n = fin g 0 := by simp [F_farthest, x_b_f, x_b_t, c1]
    rw [e9]
    exact ⟨rfl, XS.fin hL26 hLH27 hX28 hD24, hF29⟩
def m_X3_without : x_M := (yX3_without, prog_1_method_22_code, 6, (some FieldType.int), 6, 141)
theorem v_X3_without : x_VM m_X3_without 1 := ⟨q382, q1, by decide +kernel, by decide +kernel, by decide +kernel⟩
theorem w_X3_without : x_VI m_X3_without := ⟨q380, q381⟩
theorem d_X3_without_0 : x_dec m_X3_without 0 (.iload_n 1) 1 1 := ⟨by decide +kernel, rfl⟩
theorem d_X3_without_1 : x_dec m_X3_without 1 (.invokestatic 145) 3 4 := ⟨by decide +kernel, rfl⟩
theorem d_X3_without_4 : x_dec m_X3_without 4 (.ifCond .ne 10) 3 7 := ⟨by decide +kernel, rfl⟩
theorem d_X3_without_7 : x_dec m_X3_without 7 (.aload_n 0) 1 8 := ⟨by decide +kernel, rfl⟩
theorem d_X3_without_8 : x_dec m_X3_without 8 (.ldc 55) 2 10 := ⟨by decide +kernel, rfl⟩
theorem d_X3_without_10 : x_dec m_X3_without 10 (.invokevirtual 56) 3 13 := ⟨by decide +kernel, rfl⟩
theorem d_X3_without_13 : x_dec m_X3_without 13 (.ireturn) 1 14 := ⟨by decide +kernel, rfl⟩
theorem d_X3_without_14 : x_dec m_X3_without 14 (.iconst (-1)) 1 15 := ⟨by decide +kernel, rfl⟩
theorem d_X3_without_15 : x_dec m_X3_without 15 (.istore_n 2) 1 16 := ⟨by decide +kernel, rfl⟩
theorem d_X3_without_16 : x_dec m_X3_without 16 (.iconst (-1)) 1 17 := ⟨by decide +kernel, rfl⟩
theorem d_X3_without_17 : x_dec m_X3_without 17 (.istore_n 3) 1 18 := ⟨by decide +kernel, rfl⟩
theorem d_X3_without_18 : x_dec m_X3_without 18 (.iconst 0) 1 19 := ⟨by decide +kernel, rfl⟩
theorem d_X3_without_19 : x_dec m_X3_without 19 (.istore 4) 2 21 := ⟨by decide +kernel, rfl⟩
theorem d_X3_without_21 : x_dec m_X3_without 21 (.iload 4) 2 23 := ⟨by decide +kernel, rfl⟩
theorem d_X3_without_23 : x_dec m_X3_without 23 (.aload_n 0) 1 24 := ⟨by decide +kernel, rfl⟩
theorem d_X3_without_24 : x_dec m_X3_without 24 (.getfield 12) 3 27 := ⟨by decide +kernel, rfl⟩
theorem d_X3_without_27 : x_dec m_X3_without 27 (.getfield 72) 3 30 := ⟨by decide +kernel, rfl⟩
theorem d_X3_without_30 : x_dec m_X3_without 30 (.if_icmp .ge 73) 3 33 := ⟨by decide +kernel, rfl⟩
theorem d_X3_without_33 : x_dec m_X3_without 33 (.aload_n 0) 1 34 := ⟨by decide +kernel, rfl⟩
theorem d_X3_without_34 : x_dec m_X3_without 34 (.getfield 12) 3 37 := ⟨by decide +kernel, rfl⟩
theorem d_X3_without_37 : x_dec m_X3_without 37 (.getfield 87) 3 40 := ⟨by decide +kernel, rfl⟩
theorem d_X3_without_40 : x_dec m_X3_without 40 (.iload 4) 2 42 := ⟨by decide +kernel, rfl⟩
theorem d_X3_without_42 : x_dec m_X3_without 42 (.iaload) 1 43 := ⟨by decide +kernel, rfl⟩
theorem d_X3_without_43 : x_dec m_X3_without 43 (.iconst (-1)) 1 44 := ⟨by decide +kernel, rfl⟩
theorem d_X3_without_44 : x_dec m_X3_without 44 (.if_icmp .ne 53) 3 47 := ⟨by decide +kernel, rfl⟩
theorem d_X3_without_47 : x_dec m_X3_without 47 (.aload_n 0) 1 48 := ⟨by decide +kernel, rfl⟩
theorem d_X3_without_48 : x_dec m_X3_without 48 (.getfield 16) 3 51 := ⟨by decide +kernel, rfl⟩
theorem d_X3_without_51 : x_dec m_X3_without 51 (.aload_n 0) 1 52 := ⟨by decide +kernel, rfl⟩
theorem d_X3_without_52 : x_dec m_X3_without 52 (.getfield 12) 3 55 := ⟨by decide +kernel, rfl⟩
theorem d_X3_without_55 : x_dec m_X3_without 55 (.invokevirtual 133) 3 58 := ⟨by decide +kernel, rfl⟩
theorem d_X3_without_58 : x_dec m_X3_without 58 (.aload_n 0) 1 59 := ⟨by decide +kernel, rfl⟩
theorem d_X3_without_59 : x_dec m_X3_without 59 (.getfield 16) 3 62 := ⟨by decide +kernel, rfl⟩
theorem d_X3_without_62 : x_dec m_X3_without 62 (.getfield 87) 3 65 := ⟨by decide +kernel, rfl⟩
theorem d_X3_without_65 : x_dec m_X3_without 65 (.iload 4) 2 67 := ⟨by decide +kernel, rfl⟩
theorem d_X3_without_67 : x_dec m_X3_without 67 (.aload_n 0) 1 68 := ⟨by decide +kernel, rfl⟩
theorem d_X3_without_68 : x_dec m_X3_without 68 (.getfield 12) 3 71 := ⟨by decide +kernel, rfl⟩
theorem d_X3_without_71 : x_dec m_X3_without 71 (.getfield 99) 3 74 := ⟨by decide +kernel, rfl⟩
theorem d_X3_without_74 : x_dec m_X3_without 74 (.iastore) 1 75 := ⟨by decide +kernel, rfl⟩
theorem d_X3_without_75 : x_dec m_X3_without 75 (.aload_n 0) 1 76 := ⟨by decide +kernel, rfl⟩
theorem d_X3_without_76 : x_dec m_X3_without 76 (.getfield 16) 3 79 := ⟨by decide +kernel, rfl⟩
theorem d_X3_without_79 : x_dec m_X3_without 79 (.iload_n 1) 1 80 := ⟨by decide +kernel, rfl⟩
theorem d_X3_without_80 : x_dec m_X3_without 80 (.invokevirtual 137) 3 83 := ⟨by decide +kernel, rfl⟩
theorem d_X3_without_83 : x_dec m_X3_without 83 (.istore 5) 2 85 := ⟨by decide +kernel, rfl⟩
theorem d_X3_without_85 : x_dec m_X3_without 85 (.iload 5) 2 87 := ⟨by decide +kernel, rfl⟩
theorem d_X3_without_87 : x_dec m_X3_without 87 (.iload_n 3) 1 88 := ⟨by decide +kernel, rfl⟩
theorem d_X3_without_88 : x_dec m_X3_without 88 (.if_icmp .le 9) 3 91 := ⟨by decide +kernel, rfl⟩
theorem d_X3_without_91 : x_dec m_X3_without 91 (.iload 5) 2 93 := ⟨by decide +kernel, rfl⟩
theorem d_X3_without_93 : x_dec m_X3_without 93 (.istore_n 3) 1 94 := ⟨by decide +kernel, rfl⟩
theorem d_X3_without_94 : x_dec m_X3_without 94 (.iload 4) 2 96 := ⟨by decide +kernel, rfl⟩
theorem d_X3_without_96 : x_dec m_X3_without 96 (.istore_n 2) 1 97 := ⟨by decide +kernel, rfl⟩
theorem d_X3_without_97 : x_dec m_X3_without 97 (.iinc 4 1) 3 100 := ⟨by decide +kernel, rfl⟩
theorem d_X3_without_100 : x_dec m_X3_without 100 (.goto (-79)) 3 103 := ⟨by decide +kernel, rfl⟩
theorem d_X3_without_103 : x_dec m_X3_without 103 (.iload_n 2) 1 104 := ⟨by decide +kernel, rfl⟩
theorem d_X3_without_104 : x_dec m_X3_without 104 (.iconst (-1)) 1 105 := ⟨by decide +kernel, rfl⟩
theorem d_X3_without_105 : x_dec m_X3_without 105 (.if_icmp .ne 12) 3 108 := ⟨by decide +kernel, rfl⟩
theorem d_X3_without_108 : x_dec m_X3_without 108 (.aload_n 0) 1 109 := ⟨by decide +kernel, rfl⟩
theorem d_X3_without_109 : x_dec m_X3_without 109 (.ldc 144) 2 111 := ⟨by decide +kernel, rfl⟩
theorem d_X3_without_111 : x_dec m_X3_without 111 (.invokevirtual 56) 3 114 := ⟨by decide +kernel, rfl⟩
theorem d_X3_without_114 : x_dec m_X3_without 114 (.goto 4) 3 117 := ⟨by decide +kernel, rfl⟩
theorem d_X3_without_117 : x_dec m_X3_without 117 (.iload_n 2) 1 118 := ⟨by decide +kernel, rfl⟩
theorem d_X3_without_118 : x_dec m_X3_without 118 (.ireturn) 1 119 := ⟨by decide +kernel, rfl⟩
set_option maxHeartbeats 4000000 in
set_option maxRecDepth 100000 in
theorem c_X3_without (l : Launch) (E : x_E) (μ : x_Mem) (g : x_SG) (hS : XS g μ) (hI : Inv g) (n : Int32) : x_Met l m_X3_without E [.ref (E.1 + 0), .int n] μ (x_I (fun z m => z = (F_without g n).1 ∧ XS (F_without g n).2 m ∧ ∀ id, 41 ≤ id → m id = μ id)) := by
  obtain ⟨hL, hH, hX, hD⟩ := hS
  have hWF := hI.1.1
  have hn7 := hWF.2.1
  have hpn := hWF.1
  have hF : ∀ id, 41 ≤ id → μ id = μ id := fun _ _ => rfl
  refine x_enter (lv := [(0, .ref (E.1 + 0)), (1, .int n)]) (by decide +kernel) (Nat.le_of_ble_eq_true rfl) rfl ?_
  refine x_iload_n 1 d_X3_without_0 rfl rfl ?_
  refine x_csip (as := [.int n]) (c_X3_isRide l E μ n) v_X3_isRide q344 q343 rfl ⟨Nat.le_of_ble_eq_true rfl, Nat.le_of_ble_eq_true rfl⟩ rfl (Nat.le_of_ble_eq_true rfl) d_X3_without_1 ?_
  refine x_ifb_ne 14 d_X3_without_4 (by decide) (fun c1 => ?_) (fun c1 => ?_)
  · skip
    obtain ⟨h, hh, rfl⟩ := inR_nat (n := 60) (by decide) c1
    refine x_iconst (x := (-1)) d_X3_without_14 (by decide) ?_
    refine x_istore_n [(2, .int (-1)), (0, .ref (E.1 + 0)), (1, .int (nI h))] d_X3_without_15 rfl (Nat.le_of_ble_eq_true rfl) rfl ?_
    refine x_iconst (x := (-1)) d_X3_without_16 (by decide) ?_
    refine x_istore_n [(3, .int (-1)), (2, .int (-1)), (0, .ref (E.1 + 0)), (1, .int (nI h))] d_X3_without_17 rfl (Nat.le_of_ble_eq_true rfl) rfl ?_
    refine x_iconst (x := 0) d_X3_without_18 (by decide) ?_
    refine x_istore [(4, .int 0), (3, .int (-1)), (2, .int (-1)), (0, .ref (E.1 + 0)), (1, .int (nI h))] d_X3_without_19 (Nat.le_of_ble_eq_true rfl) rfl ?_
    have L2 : ∀ i : Nat, i ≤ pn (gA g) → ∀ b : Int32, ∀ m : Int32, ∀ μ5 : x_Mem, (b = optI (outTo (gA g) h i).1) → (m = (outTo (gA g) h i).2) → (PR (gA g) 1 μ5) → (μ5 1 11 = gA g 0) → (XR g μ5) → (XD (gF g) μ5) → (∀ id, 41 ≤ id → μ5 id = μ id) → x_G l E m_X3_without (x_mv E m_X3_without (x_I (fun z m => z = (F_without g (nI h)).1 ∧ XS (F_without g (nI h)).2 m ∧ ∀ id, 41 ≤ id → m id = μ id))) μ5 21 [(4, .int (nI i)), (3, .int m), (2, .int b), (0, .ref (E.1 + 0)), (1, .int (nI h))] [] := by
      refine x_down _ (pn (gA g)) (fun i hi4 ih3 => ?_)
      intro b m μ5 hb hm hL1 hH1 hX1 hD1 hF1
      refine x_iload 0 d_X3_without_21 rfl ?_
      refine x_aload_n 3 d_X3_without_23 rfl rfl ?_
      refine x_getr (j := 0) 1 x_c3 rfl (Nat.le_of_ble_eq_true rfl) q147 rfl d_X3_without_24 ?_
      refine x_getiV (j := 5) (z := nI (pn (gA g))) x_c0 (p_kd x_pr1) (Nat.le_of_ble_eq_true rfl) q43 (p_n5 x_pr1) ((PR.f5 hL1).trans hn7) d_X3_without_27 ?_
      refine x_icmp_ge 103 d_X3_without_30 (by decide) (fun c6 => ?_) (fun c6 => ?_)
      · skip
        have hN := x_ge (N := pn (gA g)) c6 rfl rfl (by omega) (by omega)
        refine x_iload_n 2 d_X3_without_103 rfl rfl ?_
        refine x_iconst (x := (-1)) d_X3_without_104 (by decide) ?_
        refine x_icmp_ne 117 d_X3_without_105 (by decide) (fun c7 => ?_) (fun c7 => ?_)
        · skip
          refine x_iload_n 2 d_X3_without_117 rfl rfl ?_
          refine x_iret rfl d_X3_without_118 ?_
          have e7 : i = pn (gA g) := by omega
          subst e7
          have e6 : ∀ q, (outTo (gA g) h (pn (gA g))).1 = some q → q < 2 ^ 31 := fun q hq => by have := outTo_lt hq; omega
          obtain ⟨q, hq⟩ : ∃ q, (outTo (gA g) h (pn (gA g))).1 = some q := by
            cases e : (outTo (gA g) h (pn (gA g))).1 with
            | none => exact absurd (by rw [hb, e]; rfl) c7
            | some q => exact ⟨q, rfl⟩
          have e5 : b = nI q := by rw [hb, hq]; rfl
          have e9 : F_without g (nI h) = (b, g) := by simp [F_without, x_b_f, x_b_t, c1, nI_clamp (n := h) (by omega), hq, orO, e5]
          rw [e9]
          exact ⟨rfl, ⟨hL1, hH1, hX1, hD1⟩, hF1⟩
        · skip
          refine x_aload_n 3 d_X3_without_108 rfl rfl ?_
          refine x_ldc q326 d_X3_without_109 ?_
          refine x_cvi (k := 0) (as := [.int (-1000004)]) (c_X3_finding l E μ5 (i := 3) hD1 (by decide) (w := (-1000004)) (by decide)) v_X3_finding w_X3_finding q183 o_X rfl ⟨Nat.le_of_ble_eq_true rfl, Nat.le_of_ble_eq_true rfl⟩ rfl (Nat.le_of_ble_eq_true rfl) d_X3_without_111 ?_
          rintro _ μ8 ⟨rfl, hD9, hF10⟩
          have hL11 := PR.cg hL1 (μ' := μ8) (fun id hid => (hF10 _ (by omega)))
          have hLH12 := hH1
          rw [← (show μ8 1 = μ5 1 from (hF10 _ (by omega)))] at hLH12
          have hX13 := XR.cg hX1 (μ' := μ8) (fun id hid => (hF10 _ (by omega)))
          have hF14 : ∀ id, 41 ≤ id → μ8 id = μ id := fun id hid => (show μ8 id = μ5 id from (hF10 _ (by omega))).trans (hF1 id hid)
          refine x_goto 118 d_X3_without_114 (by decide) ?_
          refine x_iret rfl d_X3_without_118 ?_
          have e7 : i = pn (gA g) := by omega
          subst e7
          have e6 : ∀ q, (outTo (gA g) h (pn (gA g))).1 = some q → q < 2 ^ 31 := fun q hq => by have := outTo_lt hq; omega
          have hq := (optI_neg e6).mp (by rw [← hb]; exact c7)
          have e9 : F_without g (nI h) = fin g 3 := by simp [F_without, x_b_f, x_b_t, c1, nI_clamp (n := h) (by omega), hq, orO]
          rw [e9]
          exact ⟨rfl, XS.fin hL11 hLH12 hX13 hD9, hF14⟩
      · skip
        have hN := x_lt (N := pn (gA g)) c6 rfl rfl (by omega) (by omega)
        refine x_aload_n 3 d_X3_without_33 rfl rfl ?_
        refine x_getr (j := 0) 1 x_c3 rfl (Nat.le_of_ble_eq_true rfl) q147 rfl d_X3_without_34 ?_
        refine x_getr (j := 2) (1 + 3) x_c0 (p_kd x_pr1) (Nat.le_of_ble_eq_true rfl) q37 (p_f2 x_pr1) d_X3_without_37 ?_
        refine x_iload 0 d_X3_without_40 rfl ?_
        refine x_ialdN (z := (gA g) (24 + 3 * i + 1)) 8 i (p_k3 x_pr1) (p_l3 x_pr1) (by omega) (by decide) (PR.wh hL1 i (by omega)) d_X3_without_42 ?_
        refine x_iconst (x := (-1)) d_X3_without_43 (by decide) ?_
        refine x_icmp_ne 97 d_X3_without_44 (by decide) (fun c15 => ?_) (fun c15 => ?_)
        · skip
          refine x_iinc [(4, .int (nI (i + 1))), (3, .int m), (2, .int b), (0, .ref (E.1 + 0)), (1, .int (nI h))] 0 d_X3_without_97 rfl (x_inc _) (Nat.le_of_ble_eq_true rfl) rfl ?_
          refine x_goto 21 d_X3_without_100 (by decide) ?_
          exact ih3 (i + 1) (by omega) (by omega) b m μ5 (by rw [outTo_f hm (Or.inl c15)]; exact hb) (by rw [outTo_f hm (Or.inl c15)]; exact hm) hL1 hH1 hX1 hD1 hF1
        · skip
          refine x_aload_n 3 d_X3_without_47 rfl rfl ?_
          refine x_getr (j := 1) 10 x_c3 rfl (Nat.le_of_ble_eq_true rfl) q148 rfl d_X3_without_48 ?_
          refine x_aload_n 3 d_X3_without_51 rfl rfl ?_
          refine x_getr (j := 0) 1 x_c3 rfl (Nat.le_of_ble_eq_true rfl) q147 rfl d_X3_without_52 ?_
          refine x_cvv (k := 10) (as := [.ref (E.1 + 1)]) (c_X0_becomes l E μ5 x_pr10 x_pr1 (by decide) hL1 hH1) v_X0_becomes w_X0_becomes q309 (p_ob x_pr10) rfl ⟨Nat.le_of_ble_eq_true rfl, Nat.le_of_ble_eq_true rfl⟩ rfl (Nat.le_of_ble_eq_true rfl) d_X3_without_55 ?_
          rintro μ16 ⟨hT17, hTH18, hF19⟩
          have hL20 := PR.cg hL1 (μ' := μ16) (fun id hid => (hF19 _ (by omega)))
          have hLH21 := hH1
          rw [← (show μ16 1 = μ5 1 from (hF19 _ (by omega)))] at hLH21
          have hX22 := XR.cg hX1 (μ' := μ16) (fun id hid => (hF19 _ (by omega)))
          have hD23 := XD.cg hD1 (μ' := μ16) (fun id hid => (hF19 _ (by omega)))
          have hF24 : ∀ id, 41 ≤ id → μ16 id = μ id := fun id hid => (show μ16 id = μ5 id from (hF19 _ (by omega))).trans (hF1 id hid)
          refine x_aload_n 3 d_X3_without_58 rfl rfl ?_
          refine x_getr (j := 1) 10 x_c3 rfl (Nat.le_of_ble_eq_true rfl) q148 rfl d_X3_without_59 ?_
          refine x_getr (j := 2) (10 + 3) x_c0 (p_kd x_pr10) (Nat.le_of_ble_eq_true rfl) q37 (p_f2 x_pr10) d_X3_without_62 ?_
          refine x_iload 0 d_X3_without_65 rfl ?_
          refine x_aload_n 3 d_X3_without_67 rfl rfl ?_
          refine x_getr (j := 0) 1 x_c3 rfl (Nat.le_of_ble_eq_true rfl) q147 rfl d_X3_without_68 ?_
          refine x_getiV (j := 6) (z := (gA g) 1) x_c0 (p_kd x_pr1) (Nat.le_of_ble_eq_true rfl) q47 (p_n6 x_pr1) (PR.f6 hL20) d_X3_without_71 ?_
          refine x_iastNG 8 i (p_k3 x_pr10) (p_l3 x_pr10) (by omega) (by decide) d_X3_without_74 (fun μ25 eμ25 => ?_)
          have hT26 : PR (upd (gA g) (24 + 3 * i + 1) ((gA g) 1)) 10 μ25 := PR.a3 hT17 eμ25 (by omega)
          have hL27 := PR.cg hL20 (μ' := μ25) (fun id hid => (by rw [eμ25, upd2_ne _ _ _ (by omega)]))
          have hLH28 := hLH21
          rw [← (show μ25 1 = μ16 1 from (by rw [eμ25, upd2_ne _ _ _ (by omega)]))] at hLH28
          have hX29 := XR.cg hX22 (μ' := μ25) (fun id hid => (by rw [eμ25, upd2_ne _ _ _ (by omega)]))
          have hD30 := XD.cg hD23 (μ' := μ25) (fun id hid => (by rw [eμ25, upd2_ne _ _ _ (by omega)]))
          have hF31 : ∀ id, 41 ≤ id → μ25 id = μ id := fun id hid => (show μ25 id = μ16 id from (by rw [eμ25, upd2_ne _ _ _ (by omega)])).trans (hF24 id hid)
          have hTH32 := hTH18
          rw [← (show μ25 10 = μ16 10 from (by rw [eμ25, upd2_ne _ _ _ (by omega)]))] at hTH32
          refine x_aload_n 3 d_X3_without_75 rfl rfl ?_
          refine x_getr (j := 1) 10 x_c3 rfl (Nat.le_of_ble_eq_true rfl) q148 rfl d_X3_without_76 ?_
          refine x_iload_n 4 d_X3_without_79 rfl rfl ?_
          refine x_cvi (k := 10) (as := [.int (nI h)]) (c_X0_yardBehind l E μ25 x_pr10 hT26 (hWF.upW (by omega) (WF.tr hWF)) (n := h) (by omega)) v_X0_yardBehind w_X0_yardBehind q313 (p_ob x_pr10) rfl ⟨Nat.le_of_ble_eq_true rfl, Nat.le_of_ble_eq_true rfl⟩ rfl (Nat.le_of_ble_eq_true rfl) d_X3_without_80 ?_
          rintro _ μ33 ⟨rfl, hF34⟩
          have hL35 := PR.cg hL27 (μ' := μ33) (fun id hid => (hF34 _ (by omega)))
          have hLH36 := hLH28
          rw [← (show μ33 1 = μ25 1 from (hF34 _ (by omega)))] at hLH36
          have hX37 := XR.cg hX29 (μ' := μ33) (fun id hid => (hF34 _ (by omega)))
          have hD38 := XD.cg hD30 (μ' := μ33) (fun id hid => (hF34 _ (by omega)))
          have hF39 : ∀ id, 41 ≤ id → μ33 id = μ id := fun id hid => (show μ33 id = μ25 id from (hF34 _ (by omega))).trans (hF31 id hid)
          refine x_istore [(5, .int (hoursF (upd (gA g) (24 + 3 * i + 1) ((gA g) 1)) h 1)), (4, .int (nI i)), (3, .int m), (2, .int b), (0, .ref (E.1 + 0)), (1, .int (nI h))] d_X3_without_83 (Nat.le_of_ble_eq_true rfl) rfl ?_
          refine x_iload 0 d_X3_without_85 rfl ?_
          refine x_iload_n 2 d_X3_without_87 rfl rfl ?_
          refine x_icmp_le 97 d_X3_without_88 (by decide) (fun c40 => ?_) (fun c40 => ?_)
          · skip
            refine x_iinc [(4, .int (nI (i + 1))), (5, .int (hoursF (upd (gA g) (24 + 3 * i + 1) ((gA g) 1)) h 1)), (3, .int m), (2, .int b), (0, .ref (E.1 + 0)), (1, .int (nI h))] 1 d_X3_without_97 rfl (x_inc _) (Nat.le_of_ble_eq_true rfl) rfl ?_
            refine x_goto 21 d_X3_without_100 (by decide) ?_
            refine x_lv [0, 2, 3, 4, 5] rfl ?_
            exact ih3 (i + 1) (by omega) (by omega) b m μ33 (by rw [outTo_f hm (Or.inr c40)]; exact hb) (by rw [outTo_f hm (Or.inr c40)]; exact hm) hL35 hLH36 hX37 hD38 hF39
          · skip
            refine x_iload 0 d_X3_without_91 rfl ?_
            refine x_istore_n [(3, .int (hoursF (upd (gA g) (24 + 3 * i + 1) ((gA g) 1)) h 1)), (5, .int (hoursF (upd (gA g) (24 + 3 * i + 1) ((gA g) 1)) h 1)), (4, .int (nI i)), (2, .int b), (0, .ref (E.1 + 0)), (1, .int (nI h))] d_X3_without_93 rfl (Nat.le_of_ble_eq_true rfl) rfl ?_
            refine x_iload 2 d_X3_without_94 rfl ?_
            refine x_istore_n [(2, .int (nI i)), (3, .int (hoursF (upd (gA g) (24 + 3 * i + 1) ((gA g) 1)) h 1)), (5, .int (hoursF (upd (gA g) (24 + 3 * i + 1) ((gA g) 1)) h 1)), (4, .int (nI i)), (0, .ref (E.1 + 0)), (1, .int (nI h))] d_X3_without_96 rfl (Nat.le_of_ble_eq_true rfl) rfl ?_
            refine x_iinc [(4, .int (nI (i + 1))), (2, .int (nI i)), (3, .int (hoursF (upd (gA g) (24 + 3 * i + 1) ((gA g) 1)) h 1)), (5, .int (hoursF (upd (gA g) (24 + 3 * i + 1) ((gA g) 1)) h 1)), (0, .ref (E.1 + 0)), (1, .int (nI h))] 3 d_X3_without_97 rfl (x_inc _) (Nat.le_of_ble_eq_true rfl) rfl ?_
            refine x_goto 21 d_X3_without_100 (by decide) ?_
            refine x_lv [0, 2, 1, 4, 5] rfl ?_
            exact ih3 (i + 1) (by omega) (by omega) (nI i) (hoursF (upd (gA g) (24 + 3 * i + 1) ((gA g) 1)) h 1) μ33 (by rw [outTo_t c15 hm c40] <;> rfl) (by rw [outTo_t c15 hm c40] <;> rfl) hL35 hLH36 hX37 hD38 hF39
    exact L2 0 (by omega) (-1) (-1) μ (by rfl) (by rfl) hL hH hX hD hF
  · skip
    refine x_aload_n 0 d_X3_without_7 rfl rfl ?_
    refine x_ldc q182 d_X3_without_8 ?_
    refine x_cvi (k := 0) (as := [.int (-1000001)]) (c_X3_finding l E μ (i := 0) hD (by decide) (w := (-1000001)) (by decide)) v_X3_finding w_X3_finding q183 o_X rfl ⟨Nat.le_of_ble_eq_true rfl, Nat.le_of_ble_eq_true rfl⟩ rfl (Nat.le_of_ble_eq_true rfl) d_X3_without_10 ?_
    rintro _ μ41 ⟨rfl, hD42, hF43⟩
    have hL44 := PR.cg hL (μ' := μ41) (fun id hid => (hF43 _ (by omega)))
    have hLH45 := hH
    rw [← (show μ41 1 = μ 1 from (hF43 _ (by omega)))] at hLH45
    have hX46 := XR.cg hX (μ' := μ41) (fun id hid => (hF43 _ (by omega)))
    have hF47 : ∀ id, 41 ≤ id → μ41 id = μ id := fun id hid => (show μ41 id = μ id from (hF43 _ (by omega))).trans (hF id hid)
    refine x_iret rfl d_X3_without_13 ?_
    have e9 : F_without g n = fin g 0 := by simp [F_without, x_b_f, x_b_t, c1]
    rw [e9]
    exact ⟨rfl, XS.fin hL44 hLH45 hX46 hD42, hF47⟩
def m_X3_persuade : x_M := (yX3_persuade, prog_1_method_23_code, 5, (some FieldType.int), 6, 141)
theorem v_X3_persuade : x_VM m_X3_persuade 3 := ⟨q386, q1, by decide +kernel, by decide +kernel, by decide +kernel⟩
theorem w_X3_persuade : x_VI m_X3_persuade := ⟨q384, q385⟩
theorem d_X3_persuade_0 : x_dec m_X3_persuade 0 (.aload_n 0) 1 1 := ⟨by decide +kernel, rfl⟩
theorem d_X3_persuade_1 : x_dec m_X3_persuade 1 (.iload_n 1) 1 2 := ⟨by decide +kernel, rfl⟩
theorem d_X3_persuade_2 : x_dec m_X3_persuade 2 (.invokevirtual 81) 3 5 := ⟨by decide +kernel, rfl⟩
theorem d_X3_persuade_5 : x_dec m_X3_persuade 5 (.ifCond .eq 17) 3 8 := ⟨by decide +kernel, rfl⟩
theorem d_X3_persuade_8 : x_dec m_X3_persuade 8 (.iload_n 2) 1 9 := ⟨by decide +kernel, rfl⟩
theorem d_X3_persuade_9 : x_dec m_X3_persuade 9 (.invokestatic 96) 3 12 := ⟨by decide +kernel, rfl⟩
theorem d_X3_persuade_12 : x_dec m_X3_persuade 12 (.ifCond .eq 10) 3 15 := ⟨by decide +kernel, rfl⟩
theorem d_X3_persuade_15 : x_dec m_X3_persuade 15 (.iload_n 3) 1 16 := ⟨by decide +kernel, rfl⟩
theorem d_X3_persuade_16 : x_dec m_X3_persuade 16 (.invokestatic 145) 3 19 := ⟨by decide +kernel, rfl⟩
theorem d_X3_persuade_19 : x_dec m_X3_persuade 19 (.ifCond .ne 10) 3 22 := ⟨by decide +kernel, rfl⟩
theorem d_X3_persuade_22 : x_dec m_X3_persuade 22 (.aload_n 0) 1 23 := ⟨by decide +kernel, rfl⟩
theorem d_X3_persuade_23 : x_dec m_X3_persuade 23 (.ldc 55) 2 25 := ⟨by decide +kernel, rfl⟩
theorem d_X3_persuade_25 : x_dec m_X3_persuade 25 (.invokevirtual 56) 3 28 := ⟨by decide +kernel, rfl⟩
theorem d_X3_persuade_28 : x_dec m_X3_persuade 28 (.ireturn) 1 29 := ⟨by decide +kernel, rfl⟩
theorem d_X3_persuade_29 : x_dec m_X3_persuade 29 (.iconst 0) 1 30 := ⟨by decide +kernel, rfl⟩
theorem d_X3_persuade_30 : x_dec m_X3_persuade 30 (.istore 4) 2 32 := ⟨by decide +kernel, rfl⟩
theorem d_X3_persuade_32 : x_dec m_X3_persuade 32 (.iload 4) 2 34 := ⟨by decide +kernel, rfl⟩
theorem d_X3_persuade_34 : x_dec m_X3_persuade 34 (.bipush 99) 2 36 := ⟨by decide +kernel, rfl⟩
theorem d_X3_persuade_36 : x_dec m_X3_persuade 36 (.if_icmp .gt 27) 3 39 := ⟨by decide +kernel, rfl⟩
theorem d_X3_persuade_39 : x_dec m_X3_persuade 39 (.aload_n 0) 1 40 := ⟨by decide +kernel, rfl⟩
theorem d_X3_persuade_40 : x_dec m_X3_persuade 40 (.iload_n 1) 1 41 := ⟨by decide +kernel, rfl⟩
theorem d_X3_persuade_41 : x_dec m_X3_persuade 41 (.iload 4) 2 43 := ⟨by decide +kernel, rfl⟩
theorem d_X3_persuade_43 : x_dec m_X3_persuade 43 (.invokevirtual 160) 3 46 := ⟨by decide +kernel, rfl⟩
theorem d_X3_persuade_46 : x_dec m_X3_persuade 46 (.iload_n 3) 1 47 := ⟨by decide +kernel, rfl⟩
theorem d_X3_persuade_47 : x_dec m_X3_persuade 47 (.invokevirtual 137) 3 50 := ⟨by decide +kernel, rfl⟩
theorem d_X3_persuade_50 : x_dec m_X3_persuade 50 (.iload_n 2) 1 51 := ⟨by decide +kernel, rfl⟩
theorem d_X3_persuade_51 : x_dec m_X3_persuade 51 (.if_icmp .lt 6) 3 54 := ⟨by decide +kernel, rfl⟩
theorem d_X3_persuade_54 : x_dec m_X3_persuade 54 (.iload 4) 2 56 := ⟨by decide +kernel, rfl⟩
theorem d_X3_persuade_56 : x_dec m_X3_persuade 56 (.ireturn) 1 57 := ⟨by decide +kernel, rfl⟩
theorem d_X3_persuade_57 : x_dec m_X3_persuade 57 (.iinc 4 1) 3 60 := ⟨by decide +kernel, rfl⟩
theorem d_X3_persuade_60 : x_dec m_X3_persuade 60 (.goto (-28)) 3 63 := ⟨by decide +kernel, rfl⟩
theorem d_X3_persuade_63 : x_dec m_X3_persuade 63 (.aload_n 0) 1 64 := ⟨by decide +kernel, rfl⟩
theorem d_X3_persuade_64 : x_dec m_X3_persuade 64 (.ldc 144) 2 66 := ⟨by decide +kernel, rfl⟩
theorem d_X3_persuade_66 : x_dec m_X3_persuade 66 (.invokevirtual 56) 3 69 := ⟨by decide +kernel, rfl⟩
theorem d_X3_persuade_69 : x_dec m_X3_persuade 69 (.ireturn) 1 70 := ⟨by decide +kernel, rfl⟩
set_option maxHeartbeats 4000000 in
set_option maxRecDepth 100000 in
theorem c_X3_persuade (l : Launch) (E : x_E) (μ : x_Mem) (g : x_SG) (hS : XS g μ) (hI : Inv g) (p y n : Int32) : x_Met l m_X3_persuade E [.ref (E.1 + 0), .int p, .int y, .int n] μ (x_I (fun z m => z = (F_persuade g p y n).1 ∧ XS (F_persuade g p y n).2 m ∧ ∀ id, 41 ≤ id → m id = μ id)) := by
  obtain ⟨hL, hH, hX, hD⟩ := hS
  have hWF := hI.1.1
  have hn7 := hWF.2.1
  have hpn := hWF.1
  have hF : ∀ id, 41 ≤ id → μ id = μ id := fun _ _ => rfl
  refine x_enter (lv := [(0, .ref (E.1 + 0)), (1, .int p), (2, .int y), (3, .int n)]) (by decide +kernel) (Nat.le_of_ble_eq_true rfl) rfl ?_
  refine x_aload_n 0 d_X3_persuade_0 rfl rfl ?_
  refine x_iload_n 1 d_X3_persuade_1 rfl rfl ?_
  refine x_cvip (k := 0) (as := [.int p]) (c_X3_isPerson l E μ hL p) v_X3_isPerson w_X3_isPerson q234 o_X rfl ⟨Nat.le_of_ble_eq_true rfl, Nat.le_of_ble_eq_true rfl⟩ rfl (Nat.le_of_ble_eq_true rfl) d_X3_persuade_2 ?_
  refine x_ifb_eq 22 d_X3_persuade_5 (by decide) (fun c1 => ?_) (fun c1 => ?_)
  · skip
    refine x_aload_n 0 d_X3_persuade_22 rfl rfl ?_
    refine x_ldc q182 d_X3_persuade_23 ?_
    refine x_cvi (k := 0) (as := [.int (-1000001)]) (c_X3_finding l E μ (i := 0) hD (by decide) (w := (-1000001)) (by decide)) v_X3_finding w_X3_finding q183 o_X rfl ⟨Nat.le_of_ble_eq_true rfl, Nat.le_of_ble_eq_true rfl⟩ rfl (Nat.le_of_ble_eq_true rfl) d_X3_persuade_25 ?_
    rintro _ μ2 ⟨rfl, hD3, hF4⟩
    have hL5 := PR.cg hL (μ' := μ2) (fun id hid => (hF4 _ (by omega)))
    have hLH6 := hH
    rw [← (show μ2 1 = μ 1 from (hF4 _ (by omega)))] at hLH6
    have hX7 := XR.cg hX (μ' := μ2) (fun id hid => (hF4 _ (by omega)))
    have hF8 : ∀ id, 41 ≤ id → μ2 id = μ id := fun id hid => (show μ2 id = μ id from (hF4 _ (by omega))).trans (hF id hid)
    refine x_iret rfl d_X3_persuade_28 ?_
    have e9 : F_persuade g p y n = fin g 0 := by simp [F_persuade, x_b_f, x_b_t, c1]
    rw [e9]
    exact ⟨rfl, XS.fin hL5 hLH6 hX7 hD3, hF8⟩
  · skip
    obtain ⟨q, hq, rfl⟩ := isP_nat hWF c1
    refine x_iload_n 2 d_X3_persuade_8 rfl rfl ?_
    refine x_csip (as := [.int y]) (c_X3_isYard l E μ y) v_X3_isYard q248 q247 rfl ⟨Nat.le_of_ble_eq_true rfl, Nat.le_of_ble_eq_true rfl⟩ rfl (Nat.le_of_ble_eq_true rfl) d_X3_persuade_9 ?_
    refine x_ifb_eq 22 d_X3_persuade_12 (by decide) (fun c9 => ?_) (fun c9 => ?_)
    · skip
      refine x_aload_n 0 d_X3_persuade_22 rfl rfl ?_
      refine x_ldc q182 d_X3_persuade_23 ?_
      refine x_cvi (k := 0) (as := [.int (-1000001)]) (c_X3_finding l E μ (i := 0) hD (by decide) (w := (-1000001)) (by decide)) v_X3_finding w_X3_finding q183 o_X rfl ⟨Nat.le_of_ble_eq_true rfl, Nat.le_of_ble_eq_true rfl⟩ rfl (Nat.le_of_ble_eq_true rfl) d_X3_persuade_25 ?_
      rintro _ μ10 ⟨rfl, hD11, hF12⟩
      have hL13 := PR.cg hL (μ' := μ10) (fun id hid => (hF12 _ (by omega)))
      have hLH14 := hH
      rw [← (show μ10 1 = μ 1 from (hF12 _ (by omega)))] at hLH14
      have hX15 := XR.cg hX (μ' := μ10) (fun id hid => (hF12 _ (by omega)))
      have hF16 : ∀ id, 41 ≤ id → μ10 id = μ id := fun id hid => (show μ10 id = μ id from (hF12 _ (by omega))).trans (hF id hid)
      refine x_iret rfl d_X3_persuade_28 ?_
      have e9 : F_persuade g (nI q) y n = fin g 0 := by simp [F_persuade, x_b_f, x_b_t, c1, c9, nI_clamp (n := q) (by omega)]
      rw [e9]
      exact ⟨rfl, XS.fin hL13 hLH14 hX15 hD11, hF16⟩
    · skip
      refine x_iload_n 3 d_X3_persuade_15 rfl rfl ?_
      refine x_csip (as := [.int n]) (c_X3_isRide l E μ n) v_X3_isRide q344 q343 rfl ⟨Nat.le_of_ble_eq_true rfl, Nat.le_of_ble_eq_true rfl⟩ rfl (Nat.le_of_ble_eq_true rfl) d_X3_persuade_16 ?_
      refine x_ifb_ne 29 d_X3_persuade_19 (by decide) (fun c17 => ?_) (fun c17 => ?_)
      · skip
        obtain ⟨h, hh, rfl⟩ := inR_nat (n := 60) (by decide) c17
        refine x_iconst (x := 0) d_X3_persuade_29 (by decide) ?_
        refine x_istore [(4, .int 0), (0, .ref (E.1 + 0)), (1, .int (nI q)), (2, .int y), (3, .int (nI h))] d_X3_persuade_30 (Nat.le_of_ble_eq_true rfl) rfl ?_
        have L18 : ∀ i : Nat, i ≤ 100 → ∀ μ21 : x_Mem, (PR (gA g) 1 μ21) → (μ21 1 11 = gA g 0) → (XR g μ21) → (XD (gF g) μ21) → (∀ id, 41 ≤ id → μ21 id = μ id) → (∀ j, j < i → (fun b => decide (y ≤ hoursF (upd (gA g) (24 + 3 * q + 2) (nI b)) h 1)) j = false) → x_G l E m_X3_persuade (x_mv E m_X3_persuade (x_I (fun z m => z = (F_persuade g (nI q) y (nI h)).1 ∧ XS (F_persuade g (nI q) y (nI h)).2 m ∧ ∀ id, 41 ≤ id → m id = μ id))) μ21 32 [(4, .int (nI i)), (0, .ref (E.1 + 0)), (1, .int (nI q)), (2, .int y), (3, .int (nI h))] [] := by
          refine x_down _ 100 (fun i hi20 ih19 => ?_)
          intro μ21 hL1 hH1 hX1 hD1 hF1 hq1
          refine x_iload 0 d_X3_persuade_32 rfl ?_
          refine x_bipush (x := 99) d_X3_persuade_34 (by decide) ?_
          refine x_icmp_gt 63 d_X3_persuade_36 (by decide) (fun c22 => ?_) (fun c22 => ?_)
          · skip
            have hN := (nI_ltI (a := 99) (b := i) (by omega) (by omega)).mp c22
            refine x_aload_n 1 d_X3_persuade_63 rfl rfl ?_
            refine x_ldc q326 d_X3_persuade_64 ?_
            refine x_cvi (k := 0) (as := [.int (-1000004)]) (c_X3_finding l E μ21 (i := 3) hD1 (by decide) (w := (-1000004)) (by decide)) v_X3_finding w_X3_finding q183 o_X rfl ⟨Nat.le_of_ble_eq_true rfl, Nat.le_of_ble_eq_true rfl⟩ rfl (Nat.le_of_ble_eq_true rfl) d_X3_persuade_66 ?_
            rintro _ μ23 ⟨rfl, hD24, hF25⟩
            have hL26 := PR.cg hL1 (μ' := μ23) (fun id hid => (hF25 _ (by omega)))
            have hLH27 := hH1
            rw [← (show μ23 1 = μ21 1 from (hF25 _ (by omega)))] at hLH27
            have hX28 := XR.cg hX1 (μ' := μ23) (fun id hid => (hF25 _ (by omega)))
            have hF29 : ∀ id, 41 ≤ id → μ23 id = μ id := fun id hid => (show μ23 id = μ21 id from (hF25 _ (by omega))).trans (hF1 id hid)
            refine x_iret rfl d_X3_persuade_69 ?_
            have e7 : i = 100 := by omega
            subst e7
            have e8 := firstN_none hq1
            have e9 : F_persuade g (nI q) y (nI h) = fin g 3 := by simp [F_persuade, x_b_f, x_b_t, c1, c9, c17, nI_clamp (n := q) (by omega), nI_clamp (n := h) (by omega), e8, orN]
            rw [e9]
            exact ⟨rfl, XS.fin hL26 hLH27 hX28 hD24, hF29⟩
          · skip
            have hN : ¬ 99 < i := fun z => c22 (nI_lt z (by omega))
            refine x_aload_n 1 d_X3_persuade_39 rfl rfl ?_
            refine x_iload_n 2 d_X3_persuade_40 rfl rfl ?_
            refine x_iload 0 d_X3_persuade_41 rfl ?_
            refine x_cv (k := 0) (as := [.int (nI q), .int (nI i)]) (c_X3_trialBelieving l E μ21 hL1 hWF hH1 (p := q) (b := i) (by omega) (by omega)) v_X3_trialBelieving w_X3_trialBelieving q387 o_X rfl ⟨Nat.le_of_ble_eq_true rfl, Nat.le_of_ble_eq_true rfl⟩ rfl (Nat.le_of_ble_eq_true rfl) d_X3_persuade_43 ?_
            rintro _ μ30 ⟨rfl, hT31, hF32⟩
            have hL33 := PR.cg hL1 (μ' := μ30) (fun id hid => (hF32 _ (by omega)))
            have hLH34 := hH1
            rw [← (show μ30 1 = μ21 1 from (hF32 _ (by omega)))] at hLH34
            have hX35 := XR.cg hX1 (μ' := μ30) (fun id hid => (hF32 _ (by omega)))
            have hD36 := XD.cg hD1 (μ' := μ30) (fun id hid => (hF32 _ (by omega)))
            have hF37 : ∀ id, 41 ≤ id → μ30 id = μ id := fun id hid => (show μ30 id = μ21 id from (hF32 _ (by omega))).trans (hF1 id hid)
            refine x_eqst (st' := [.ref (E.1 + 10)]) rfl ?_
            refine x_iload_n 4 d_X3_persuade_46 rfl rfl ?_
            refine x_cvi (k := 10) (as := [.int (nI h)]) (c_X0_yardBehind l E μ30 x_pr10 hT31 (hWF.upB (k := i) (by omega) (by omega)) (n := h) (by omega)) v_X0_yardBehind w_X0_yardBehind q313 (p_ob x_pr10) rfl ⟨Nat.le_of_ble_eq_true rfl, Nat.le_of_ble_eq_true rfl⟩ rfl (Nat.le_of_ble_eq_true rfl) d_X3_persuade_47 ?_
            rintro _ μ38 ⟨rfl, hF39⟩
            have hL40 := PR.cg hL33 (μ' := μ38) (fun id hid => (hF39 _ (by omega)))
            have hLH41 := hLH34
            rw [← (show μ38 1 = μ30 1 from (hF39 _ (by omega)))] at hLH41
            have hX42 := XR.cg hX35 (μ' := μ38) (fun id hid => (hF39 _ (by omega)))
            have hD43 := XD.cg hD36 (μ' := μ38) (fun id hid => (hF39 _ (by omega)))
            have hF44 : ∀ id, 41 ≤ id → μ38 id = μ id := fun id hid => (show μ38 id = μ30 id from (hF39 _ (by omega))).trans (hF37 id hid)
            refine x_iload_n 3 d_X3_persuade_50 rfl rfl ?_
            refine x_icmp_lt 57 d_X3_persuade_51 (by decide) (fun c45 => ?_) (fun c45 => ?_)
            · skip
              refine x_iinc [(4, .int (nI (i + 1))), (0, .ref (E.1 + 0)), (1, .int (nI q)), (2, .int y), (3, .int (nI h))] 0 d_X3_persuade_57 rfl (x_inc _) (Nat.le_of_ble_eq_true rfl) rfl ?_
              refine x_goto 32 d_X3_persuade_60 (by decide) ?_
              exact ih19 (i + 1) (by omega) (by omega) μ38 hL40 hLH41 hX42 hD43 hF44 (lt_s hq1 (decide_eq_false (Int32.not_le.mpr c45)))
            · skip
              refine x_iload 0 d_X3_persuade_54 rfl ?_
              refine x_iret rfl d_X3_persuade_56 ?_
              have e8 := firstN_some (n := 100) (i := i) (by omega) (decide_eq_true (Int32.not_lt.mp c45)) hq1
              have e9 : F_persuade g (nI q) y (nI h) = (nI i, g) := by simp [F_persuade, x_b_f, x_b_t, c1, c9, c17, nI_clamp (n := q) (by omega), nI_clamp (n := h) (by omega), e8, orN, show i < 100 by omega]
              rw [e9]
              exact ⟨rfl, ⟨hL40, hLH41, hX42, hD43⟩, hF44⟩
        exact L18 0 (by omega) μ hL hH hX hD hF (fun _ h => absurd h (Nat.not_lt_zero _))
      · skip
        refine x_aload_n 0 d_X3_persuade_22 rfl rfl ?_
        refine x_ldc q182 d_X3_persuade_23 ?_
        refine x_cvi (k := 0) (as := [.int (-1000001)]) (c_X3_finding l E μ (i := 0) hD (by decide) (w := (-1000001)) (by decide)) v_X3_finding w_X3_finding q183 o_X rfl ⟨Nat.le_of_ble_eq_true rfl, Nat.le_of_ble_eq_true rfl⟩ rfl (Nat.le_of_ble_eq_true rfl) d_X3_persuade_25 ?_
        rintro _ μ46 ⟨rfl, hD47, hF48⟩
        have hL49 := PR.cg hL (μ' := μ46) (fun id hid => (hF48 _ (by omega)))
        have hLH50 := hH
        rw [← (show μ46 1 = μ 1 from (hF48 _ (by omega)))] at hLH50
        have hX51 := XR.cg hX (μ' := μ46) (fun id hid => (hF48 _ (by omega)))
        have hF52 : ∀ id, 41 ≤ id → μ46 id = μ id := fun id hid => (show μ46 id = μ id from (hF48 _ (by omega))).trans (hF id hid)
        refine x_iret rfl d_X3_persuade_28 ?_
        have e9 : F_persuade g (nI q) y n = fin g 0 := by simp [F_persuade, x_b_f, x_b_t, c1, c9, c17, nI_clamp (n := q) (by omega)]
        rw [e9]
        exact ⟨rfl, XS.fin hL49 hLH50 hX51 hD47, hF52⟩
def m_X3_greatestSumMet : x_M := (yX3_greatestSumMet, prog_1_method_26_code, 5, (some FieldType.int), 5, 118)
theorem v_X3_greatestSumMet : x_VM m_X3_greatestSumMet 2 := ⟨q398, q1, by decide +kernel, by decide +kernel, by decide +kernel⟩
theorem w_X3_greatestSumMet : x_VI m_X3_greatestSumMet := ⟨q397, qs9⟩
theorem d_X3_greatestSumMet_0 : x_dec m_X3_greatestSumMet 0 (.iconst (-1)) 1 1 := ⟨by decide +kernel, rfl⟩
theorem d_X3_greatestSumMet_1 : x_dec m_X3_greatestSumMet 1 (.istore_n 3) 1 2 := ⟨by decide +kernel, rfl⟩
theorem d_X3_greatestSumMet_2 : x_dec m_X3_greatestSumMet 2 (.aload_n 0) 1 3 := ⟨by decide +kernel, rfl⟩
theorem d_X3_greatestSumMet_3 : x_dec m_X3_greatestSumMet 3 (.getfield 16) 3 6 := ⟨by decide +kernel, rfl⟩
theorem d_X3_greatestSumMet_6 : x_dec m_X3_greatestSumMet 6 (.aload_n 0) 1 7 := ⟨by decide +kernel, rfl⟩
theorem d_X3_greatestSumMet_7 : x_dec m_X3_greatestSumMet 7 (.getfield 12) 3 10 := ⟨by decide +kernel, rfl⟩
theorem d_X3_greatestSumMet_10 : x_dec m_X3_greatestSumMet 10 (.invokevirtual 133) 3 13 := ⟨by decide +kernel, rfl⟩
theorem d_X3_greatestSumMet_13 : x_dec m_X3_greatestSumMet 13 (.aload_n 0) 1 14 := ⟨by decide +kernel, rfl⟩
theorem d_X3_greatestSumMet_14 : x_dec m_X3_greatestSumMet 14 (.getfield 16) 3 17 := ⟨by decide +kernel, rfl⟩
theorem d_X3_greatestSumMet_17 : x_dec m_X3_greatestSumMet 17 (.getfield 60) 3 20 := ⟨by decide +kernel, rfl⟩
theorem d_X3_greatestSumMet_20 : x_dec m_X3_greatestSumMet 20 (.iload_n 1) 1 21 := ⟨by decide +kernel, rfl⟩
theorem d_X3_greatestSumMet_21 : x_dec m_X3_greatestSumMet 21 (.ldc 173) 2 23 := ⟨by decide +kernel, rfl⟩
theorem d_X3_greatestSumMet_23 : x_dec m_X3_greatestSumMet 23 (.iastore) 1 24 := ⟨by decide +kernel, rfl⟩
theorem d_X3_greatestSumMet_24 : x_dec m_X3_greatestSumMet 24 (.iconst 0) 1 25 := ⟨by decide +kernel, rfl⟩
theorem d_X3_greatestSumMet_25 : x_dec m_X3_greatestSumMet 25 (.istore 4) 2 27 := ⟨by decide +kernel, rfl⟩
theorem d_X3_greatestSumMet_27 : x_dec m_X3_greatestSumMet 27 (.iload 4) 2 29 := ⟨by decide +kernel, rfl⟩
theorem d_X3_greatestSumMet_29 : x_dec m_X3_greatestSumMet 29 (.iload_n 2) 1 30 := ⟨by decide +kernel, rfl⟩
theorem d_X3_greatestSumMet_30 : x_dec m_X3_greatestSumMet 30 (.if_icmp .ge 41) 3 33 := ⟨by decide +kernel, rfl⟩
theorem d_X3_greatestSumMet_33 : x_dec m_X3_greatestSumMet 33 (.aload_n 0) 1 34 := ⟨by decide +kernel, rfl⟩
theorem d_X3_greatestSumMet_34 : x_dec m_X3_greatestSumMet 34 (.getfield 16) 3 37 := ⟨by decide +kernel, rfl⟩
theorem d_X3_greatestSumMet_37 : x_dec m_X3_greatestSumMet 37 (.getfield 99) 3 40 := ⟨by decide +kernel, rfl⟩
theorem d_X3_greatestSumMet_40 : x_dec m_X3_greatestSumMet 40 (.iload_n 1) 1 41 := ⟨by decide +kernel, rfl⟩
theorem d_X3_greatestSumMet_41 : x_dec m_X3_greatestSumMet 41 (.if_icmp .ne 16) 3 44 := ⟨by decide +kernel, rfl⟩
theorem d_X3_greatestSumMet_44 : x_dec m_X3_greatestSumMet 44 (.iload_n 3) 1 45 := ⟨by decide +kernel, rfl⟩
theorem d_X3_greatestSumMet_45 : x_dec m_X3_greatestSumMet 45 (.aload_n 0) 1 46 := ⟨by decide +kernel, rfl⟩
theorem d_X3_greatestSumMet_46 : x_dec m_X3_greatestSumMet 46 (.getfield 16) 3 49 := ⟨by decide +kernel, rfl⟩
theorem d_X3_greatestSumMet_49 : x_dec m_X3_greatestSumMet 49 (.iload_n 1) 1 50 := ⟨by decide +kernel, rfl⟩
theorem d_X3_greatestSumMet_50 : x_dec m_X3_greatestSumMet 50 (.invokevirtual 63) 3 53 := ⟨by decide +kernel, rfl⟩
theorem d_X3_greatestSumMet_53 : x_dec m_X3_greatestSumMet 53 (.invokestatic 174) 3 56 := ⟨by decide +kernel, rfl⟩
theorem d_X3_greatestSumMet_56 : x_dec m_X3_greatestSumMet 56 (.istore_n 3) 1 57 := ⟨by decide +kernel, rfl⟩
theorem d_X3_greatestSumMet_57 : x_dec m_X3_greatestSumMet 57 (.aload_n 0) 1 58 := ⟨by decide +kernel, rfl⟩
theorem d_X3_greatestSumMet_58 : x_dec m_X3_greatestSumMet 58 (.getfield 16) 3 61 := ⟨by decide +kernel, rfl⟩
theorem d_X3_greatestSumMet_61 : x_dec m_X3_greatestSumMet 61 (.invokevirtual 140) 3 64 := ⟨by decide +kernel, rfl⟩
theorem d_X3_greatestSumMet_64 : x_dec m_X3_greatestSumMet 64 (.pop) 1 65 := ⟨by decide +kernel, rfl⟩
theorem d_X3_greatestSumMet_65 : x_dec m_X3_greatestSumMet 65 (.iinc 4 1) 3 68 := ⟨by decide +kernel, rfl⟩
theorem d_X3_greatestSumMet_68 : x_dec m_X3_greatestSumMet 68 (.goto (-41)) 3 71 := ⟨by decide +kernel, rfl⟩
theorem d_X3_greatestSumMet_71 : x_dec m_X3_greatestSumMet 71 (.iload_n 3) 1 72 := ⟨by decide +kernel, rfl⟩
theorem d_X3_greatestSumMet_72 : x_dec m_X3_greatestSumMet 72 (.ireturn) 1 73 := ⟨by decide +kernel, rfl⟩
set_option maxHeartbeats 4000000 in
set_option maxRecDepth 100000 in
theorem c_X3_greatestSumMet (l : Launch) (E : x_E) (μ : x_Mem) {a : x_St} (hL : PR a 1 μ) (hWF : WF a) {h0 : Int32} (hH : μ 1 11 = h0) {k n : Nat} (hk : k < 16) (hn : n ≤ 60) : x_Met l m_X3_greatestSumMet E [.ref (E.1 + 0), .int (nI k), .int (nI n)] μ (x_I (fun z m => z = metTo a k n ∧ ∀ id, (id < 10 ∨ 19 ≤ id) → m id = μ id)) := by
  have hpn := hWF.1
  have hF : ∀ id, (id < 10 ∨ 19 ≤ id) → μ id = μ id := fun _ _ => rfl
  refine x_enter (lv := [(0, .ref (E.1 + 0)), (1, .int (nI k)), (2, .int (nI n))]) (by decide +kernel) (Nat.le_of_ble_eq_true rfl) rfl ?_
  refine x_iconst (x := (-1)) d_X3_greatestSumMet_0 (by decide) ?_
  refine x_istore_n [(3, .int (-1)), (0, .ref (E.1 + 0)), (1, .int (nI k)), (2, .int (nI n))] d_X3_greatestSumMet_1 rfl (Nat.le_of_ble_eq_true rfl) rfl ?_
  refine x_aload_n 1 d_X3_greatestSumMet_2 rfl rfl ?_
  refine x_getr (j := 1) 10 x_c3 rfl (Nat.le_of_ble_eq_true rfl) q148 rfl d_X3_greatestSumMet_3 ?_
  refine x_aload_n 1 d_X3_greatestSumMet_6 rfl rfl ?_
  refine x_getr (j := 0) 1 x_c3 rfl (Nat.le_of_ble_eq_true rfl) q147 rfl d_X3_greatestSumMet_7 ?_
  refine x_cvv (k := 10) (as := [.ref (E.1 + 1)]) (c_X0_becomes l E μ x_pr10 x_pr1 (by decide) hL hH) v_X0_becomes w_X0_becomes q309 (p_ob x_pr10) rfl ⟨Nat.le_of_ble_eq_true rfl, Nat.le_of_ble_eq_true rfl⟩ rfl (Nat.le_of_ble_eq_true rfl) d_X3_greatestSumMet_10 ?_
  rintro μ1 ⟨hT2, hTH3, hF4⟩
  have hL5 := PR.cg hL (μ' := μ1) (fun id hid => (hF4 _ (by omega)))
  have hLH6 := hH
  rw [← (show μ1 1 = μ 1 from (hF4 _ (by omega)))] at hLH6
  have hF7 : ∀ id, (id < 10 ∨ 19 ≤ id) → μ1 id = μ id := fun id hid => (show μ1 id = μ id from (hF4 _ (by omega))).trans (hF id hid)
  refine x_aload_n 1 d_X3_greatestSumMet_13 rfl rfl ?_
  refine x_getr (j := 1) 10 x_c3 rfl (Nat.le_of_ble_eq_true rfl) q148 rfl d_X3_greatestSumMet_14 ?_
  refine x_getr (j := 0) (10 + 1) x_c0 (p_kd x_pr10) (Nat.le_of_ble_eq_true rfl) q32 (p_f0 x_pr10) d_X3_greatestSumMet_17 ?_
  refine x_iload_n 2 d_X3_greatestSumMet_20 rfl rfl ?_
  refine x_ldc q399 d_X3_greatestSumMet_21 ?_
  refine x_iastNG 16 k (p_k1 x_pr10) (p_l1 x_pr10) (by omega) (by decide) d_X3_greatestSumMet_23 (fun μ8 eμ8 => ?_)
  have hT9 : PR (upd a (8 + k) 1000000) 10 μ8 := PR.a1 hT2 eμ8 (by omega)
  have hL10 := PR.cg hL5 (μ' := μ8) (fun id hid => (by rw [eμ8, upd2_ne _ _ _ (by omega)]))
  have hLH11 := hLH6
  rw [← (show μ8 1 = μ1 1 from (by rw [eμ8, upd2_ne _ _ _ (by omega)]))] at hLH11
  have hF12 : ∀ id, (id < 10 ∨ 19 ≤ id) → μ8 id = μ id := fun id hid => (show μ8 id = μ1 id from (by rw [eμ8, upd2_ne _ _ _ (by omega)])).trans (hF7 id hid)
  have hTH13 := hTH3
  rw [← (show μ8 10 = μ1 10 from (by rw [eμ8, upd2_ne _ _ _ (by omega)]))] at hTH13
  refine x_iconst (x := 0) d_X3_greatestSumMet_24 (by decide) ?_
  refine x_istore [(4, .int 0), (3, .int (-1)), (0, .ref (E.1 + 0)), (1, .int (nI k)), (2, .int (nI n))] d_X3_greatestSumMet_25 (Nat.le_of_ble_eq_true rfl) rfl ?_
  have L14 : ∀ i : Nat, i ≤ n → ∀ r : Int32, ∀ μ17 : x_Mem, (r = metTo a k i) → (PR (hoursF (farA a k) i) 10 μ17) → (∀ id, (id < 10 ∨ 19 ≤ id) → μ17 id = μ id) → x_G l E m_X3_greatestSumMet (x_mv E m_X3_greatestSumMet (x_I (fun z m => z = metTo a k n ∧ ∀ id, (id < 10 ∨ 19 ≤ id) → m id = μ id))) μ17 27 [(4, .int (nI i)), (3, .int r), (0, .ref (E.1 + 0)), (1, .int (nI k)), (2, .int (nI n))] [] := by
    refine x_down _ n (fun i hi16 ih15 => ?_)
    intro r μ17 hr hT1 hF1
    refine x_iload 0 d_X3_greatestSumMet_27 rfl ?_
    refine x_iload_n 4 d_X3_greatestSumMet_29 rfl rfl ?_
    refine x_icmp_ge 71 d_X3_greatestSumMet_30 (by decide) (fun c18 => ?_) (fun c18 => ?_)
    · skip
      have hN := x_ge (N := n) c18 rfl rfl (by omega) (by omega)
      refine x_iload_n 1 d_X3_greatestSumMet_71 rfl rfl ?_
      refine x_iret rfl d_X3_greatestSumMet_72 ?_
      have e7 : i = n := by omega
      subst e7
      exact ⟨hr, hF1⟩
    · skip
      have hN := x_lt (N := n) c18 rfl rfl (by omega) (by omega)
      refine x_aload_n 2 d_X3_greatestSumMet_33 rfl rfl ?_
      refine x_getr (j := 1) 10 x_c3 rfl (Nat.le_of_ble_eq_true rfl) q148 rfl d_X3_greatestSumMet_34 ?_
      refine x_getiV (j := 6) (z := (hoursF (farA a k) i) 1) x_c0 (p_kd x_pr10) (Nat.le_of_ble_eq_true rfl) q47 (p_n6 x_pr10) (PR.f6 hT1) d_X3_greatestSumMet_37 ?_
      refine x_iload_n 3 d_X3_greatestSumMet_40 rfl rfl ?_
      refine x_icmp_ne 57 d_X3_greatestSumMet_41 (by decide) (fun c19 => ?_) (fun c19 => ?_)
      · skip
        refine x_aload_n 2 d_X3_greatestSumMet_57 rfl rfl ?_
        refine x_getr (j := 1) 10 x_c3 rfl (Nat.le_of_ble_eq_true rfl) q148 rfl d_X3_greatestSumMet_58 ?_
        refine x_cvi (k := 10) (as := []) (c_X0_passHour l E μ17 x_pr10 hT1 (WF.hours (WF.upN hWF (Or.inr (Or.inr (Or.inl (by omega)))) _) i) rfl) v_X0_passHour w_X0_passHour q325 (p_ob x_pr10) rfl ⟨Nat.le_of_ble_eq_true rfl, Nat.le_of_ble_eq_true rfl⟩ rfl (Nat.le_of_ble_eq_true rfl) d_X3_greatestSumMet_61 ?_
        rintro _ μ20 ⟨rfl, hR21, x23, hF22⟩
        have hF24 : ∀ id, (id < 10 ∨ 19 ≤ id) → μ20 id = μ id := fun id hid => (show μ20 id = μ17 id from (hF22 _ (by omega))).trans (hF1 id hid)
        refine x_pop d_X3_greatestSumMet_64 rfl ?_
        refine x_iinc [(4, .int (nI (i + 1))), (3, .int r), (0, .ref (E.1 + 0)), (1, .int (nI k)), (2, .int (nI n))] 0 d_X3_greatestSumMet_65 rfl (x_inc _) (Nat.le_of_ble_eq_true rfl) rfl ?_
        refine x_goto 27 d_X3_greatestSumMet_68 (by decide) ?_
        exact ih15 (i + 1) (by omega) (by omega) r μ20 (by rw [metTo, if_neg c19]; exact hr) hR21 hF24
      · skip
        refine x_iload_n 1 d_X3_greatestSumMet_44 rfl rfl ?_
        refine x_aload_n 2 d_X3_greatestSumMet_45 rfl rfl ?_
        refine x_getr (j := 1) 10 x_c3 rfl (Nat.le_of_ble_eq_true rfl) q148 rfl d_X3_greatestSumMet_46 ?_
        refine x_iload_n 3 d_X3_greatestSumMet_49 rfl rfl ?_
        refine x_cvip (k := 10) (as := [.int (nI k)]) (c_X0_sumAt l E μ17 x_pr10 hT1 (WF.hours (WF.upN hWF (Or.inr (Or.inr (Or.inl (by omega)))) _) i) (nI k)) v_X0_sumAt w_X0_sumAt q191 (p_ob x_pr10) rfl ⟨Nat.le_of_ble_eq_true rfl, Nat.le_of_ble_eq_true rfl⟩ rfl (Nat.le_of_ble_eq_true rfl) d_X3_greatestSumMet_50 ?_
        refine x_max q400 q211 q212 q7 (Nat.le_of_ble_eq_true rfl) (Nat.le_of_ble_eq_true rfl) d_X3_greatestSumMet_53 ?_
        refine x_istore_n [(3, .int (maxI r (sumF (hoursF (farA a k) i) (nI k)))), (4, .int (nI i)), (0, .ref (E.1 + 0)), (1, .int (nI k)), (2, .int (nI n))] d_X3_greatestSumMet_56 rfl (Nat.le_of_ble_eq_true rfl) rfl ?_
        refine x_aload_n 2 d_X3_greatestSumMet_57 rfl rfl ?_
        refine x_getr (j := 1) 10 x_c3 rfl (Nat.le_of_ble_eq_true rfl) q148 rfl d_X3_greatestSumMet_58 ?_
        refine x_cvi (k := 10) (as := []) (c_X0_passHour l E μ17 x_pr10 hT1 (WF.hours (WF.upN hWF (Or.inr (Or.inr (Or.inl (by omega)))) _) i) rfl) v_X0_passHour w_X0_passHour q325 (p_ob x_pr10) rfl ⟨Nat.le_of_ble_eq_true rfl, Nat.le_of_ble_eq_true rfl⟩ rfl (Nat.le_of_ble_eq_true rfl) d_X3_greatestSumMet_61 ?_
        rintro _ μ25 ⟨rfl, hR26, x28, hF27⟩
        have hF29 : ∀ id, (id < 10 ∨ 19 ≤ id) → μ25 id = μ id := fun id hid => (show μ25 id = μ17 id from (hF27 _ (by omega))).trans (hF1 id hid)
        refine x_pop d_X3_greatestSumMet_64 rfl ?_
        refine x_iinc [(4, .int (nI (i + 1))), (3, .int (maxI r (sumF (hoursF (farA a k) i) (nI k)))), (0, .ref (E.1 + 0)), (1, .int (nI k)), (2, .int (nI n))] 1 d_X3_greatestSumMet_65 rfl (x_inc _) (Nat.le_of_ble_eq_true rfl) rfl ?_
        refine x_goto 27 d_X3_greatestSumMet_68 (by decide) ?_
        exact ih15 (i + 1) (by omega) (by omega) (maxI r (sumF (hoursF (farA a k) i) (nI k))) μ25 (by rw [metTo, if_pos c19, ← hr]) hR26 hF29
  exact L14 0 (by omega) (-1) μ8 (by rfl) hT9 hF12
def m_X3_bears : x_M := (yX3_bears, prog_1_method_24_code, 4, (some FieldType.int), 6, 142)
theorem v_X3_bears : x_VM m_X3_bears 2 := ⟨q394, q1, by decide +kernel, by decide +kernel, by decide +kernel⟩
theorem w_X3_bears : x_VI m_X3_bears := ⟨q392, q393⟩
theorem d_X3_bears_0 : x_dec m_X3_bears 0 (.iload_n 1) 1 1 := ⟨by decide +kernel, rfl⟩
theorem d_X3_bears_1 : x_dec m_X3_bears 1 (.invokestatic 47) 3 4 := ⟨by decide +kernel, rfl⟩
theorem d_X3_bears_4 : x_dec m_X3_bears 4 (.ifCond .eq 10) 3 7 := ⟨by decide +kernel, rfl⟩
theorem d_X3_bears_7 : x_dec m_X3_bears 7 (.iload_n 2) 1 8 := ⟨by decide +kernel, rfl⟩
theorem d_X3_bears_8 : x_dec m_X3_bears 8 (.invokestatic 145) 3 11 := ⟨by decide +kernel, rfl⟩
theorem d_X3_bears_11 : x_dec m_X3_bears 11 (.ifCond .ne 10) 3 14 := ⟨by decide +kernel, rfl⟩
theorem d_X3_bears_14 : x_dec m_X3_bears 14 (.aload_n 0) 1 15 := ⟨by decide +kernel, rfl⟩
theorem d_X3_bears_15 : x_dec m_X3_bears 15 (.ldc 55) 2 17 := ⟨by decide +kernel, rfl⟩
theorem d_X3_bears_17 : x_dec m_X3_bears 17 (.invokevirtual 56) 3 20 := ⟨by decide +kernel, rfl⟩
theorem d_X3_bears_20 : x_dec m_X3_bears 20 (.ireturn) 1 21 := ⟨by decide +kernel, rfl⟩
theorem d_X3_bears_21 : x_dec m_X3_bears 21 (.aload_n 0) 1 22 := ⟨by decide +kernel, rfl⟩
theorem d_X3_bears_22 : x_dec m_X3_bears 22 (.getfield 12) 3 25 := ⟨by decide +kernel, rfl⟩
theorem d_X3_bears_25 : x_dec m_X3_bears 25 (.getfield 99) 3 28 := ⟨by decide +kernel, rfl⟩
theorem d_X3_bears_28 : x_dec m_X3_bears 28 (.iload_n 1) 1 29 := ⟨by decide +kernel, rfl⟩
theorem d_X3_bears_29 : x_dec m_X3_bears 29 (.if_icmp .le 7) 3 32 := ⟨by decide +kernel, rfl⟩
theorem d_X3_bears_32 : x_dec m_X3_bears 32 (.sipush 999) 3 35 := ⟨by decide +kernel, rfl⟩
theorem d_X3_bears_35 : x_dec m_X3_bears 35 (.ireturn) 1 36 := ⟨by decide +kernel, rfl⟩
theorem d_X3_bears_36 : x_dec m_X3_bears 36 (.aload_n 0) 1 37 := ⟨by decide +kernel, rfl⟩
theorem d_X3_bears_37 : x_dec m_X3_bears 37 (.iload_n 1) 1 38 := ⟨by decide +kernel, rfl⟩
theorem d_X3_bears_38 : x_dec m_X3_bears 38 (.iload_n 2) 1 39 := ⟨by decide +kernel, rfl⟩
theorem d_X3_bears_39 : x_dec m_X3_bears 39 (.invokevirtual 164) 3 42 := ⟨by decide +kernel, rfl⟩
theorem d_X3_bears_42 : x_dec m_X3_bears 42 (.istore_n 3) 1 43 := ⟨by decide +kernel, rfl⟩
theorem d_X3_bears_43 : x_dec m_X3_bears 43 (.iload_n 3) 1 44 := ⟨by decide +kernel, rfl⟩
theorem d_X3_bears_44 : x_dec m_X3_bears 44 (.ifCond .ge 12) 3 47 := ⟨by decide +kernel, rfl⟩
theorem d_X3_bears_47 : x_dec m_X3_bears 47 (.aload_n 0) 1 48 := ⟨by decide +kernel, rfl⟩
theorem d_X3_bears_48 : x_dec m_X3_bears 48 (.ldc 144) 2 50 := ⟨by decide +kernel, rfl⟩
theorem d_X3_bears_50 : x_dec m_X3_bears 50 (.invokevirtual 56) 3 53 := ⟨by decide +kernel, rfl⟩
theorem d_X3_bears_53 : x_dec m_X3_bears 53 (.goto 10) 3 56 := ⟨by decide +kernel, rfl⟩
theorem d_X3_bears_56 : x_dec m_X3_bears 56 (.iload_n 3) 1 57 := ⟨by decide +kernel, rfl⟩
theorem d_X3_bears_57 : x_dec m_X3_bears 57 (.sipush 999) 3 60 := ⟨by decide +kernel, rfl⟩
theorem d_X3_bears_60 : x_dec m_X3_bears 60 (.invokestatic 168) 3 63 := ⟨by decide +kernel, rfl⟩
theorem d_X3_bears_63 : x_dec m_X3_bears 63 (.ireturn) 1 64 := ⟨by decide +kernel, rfl⟩
set_option maxHeartbeats 4000000 in
set_option maxRecDepth 100000 in
theorem c_X3_bears (l : Launch) (E : x_E) (μ : x_Mem) (g : x_SG) (hS : XS g μ) (hI : Inv g) (k n : Int32) : x_Met l m_X3_bears E [.ref (E.1 + 0), .int k, .int n] μ (x_I (fun z m => z = (F_bears g k n).1 ∧ XS (F_bears g k n).2 m ∧ ∀ id, 41 ≤ id → m id = μ id)) := by
  obtain ⟨hL, hH, hX, hD⟩ := hS
  have hWF := hI.1.1
  have hn7 := hWF.2.1
  have hpn := hWF.1
  have hF : ∀ id, 41 ≤ id → μ id = μ id := fun _ _ => rfl
  refine x_enter (lv := [(0, .ref (E.1 + 0)), (1, .int k), (2, .int n)]) (by decide +kernel) (Nat.le_of_ble_eq_true rfl) rfl ?_
  refine x_iload_n 1 d_X3_bears_0 rfl rfl ?_
  refine x_csip (as := [.int k]) (c_X3_isStretch l E μ k) v_X3_isStretch q177 q176 rfl ⟨Nat.le_of_ble_eq_true rfl, Nat.le_of_ble_eq_true rfl⟩ rfl (Nat.le_of_ble_eq_true rfl) d_X3_bears_1 ?_
  refine x_ifb_eq 14 d_X3_bears_4 (by decide) (fun c1 => ?_) (fun c1 => ?_)
  · skip
    refine x_aload_n 0 d_X3_bears_14 rfl rfl ?_
    refine x_ldc q182 d_X3_bears_15 ?_
    refine x_cvi (k := 0) (as := [.int (-1000001)]) (c_X3_finding l E μ (i := 0) hD (by decide) (w := (-1000001)) (by decide)) v_X3_finding w_X3_finding q183 o_X rfl ⟨Nat.le_of_ble_eq_true rfl, Nat.le_of_ble_eq_true rfl⟩ rfl (Nat.le_of_ble_eq_true rfl) d_X3_bears_17 ?_
    rintro _ μ2 ⟨rfl, hD3, hF4⟩
    have hL5 := PR.cg hL (μ' := μ2) (fun id hid => (hF4 _ (by omega)))
    have hLH6 := hH
    rw [← (show μ2 1 = μ 1 from (hF4 _ (by omega)))] at hLH6
    have hX7 := XR.cg hX (μ' := μ2) (fun id hid => (hF4 _ (by omega)))
    have hF8 : ∀ id, 41 ≤ id → μ2 id = μ id := fun id hid => (show μ2 id = μ id from (hF4 _ (by omega))).trans (hF id hid)
    refine x_iret rfl d_X3_bears_20 ?_
    have e9 : F_bears g k n = fin g 0 := by simp [F_bears, x_b_f, x_b_t, c1]
    rw [e9]
    exact ⟨rfl, XS.fin hL5 hLH6 hX7 hD3, hF8⟩
  · skip
    obtain ⟨kk, hkk, rfl⟩ := inR_nat (n := 15) (by decide) c1
    refine x_iload_n 2 d_X3_bears_7 rfl rfl ?_
    refine x_csip (as := [.int n]) (c_X3_isRide l E μ n) v_X3_isRide q344 q343 rfl ⟨Nat.le_of_ble_eq_true rfl, Nat.le_of_ble_eq_true rfl⟩ rfl (Nat.le_of_ble_eq_true rfl) d_X3_bears_8 ?_
    refine x_ifb_ne 21 d_X3_bears_11 (by decide) (fun c9 => ?_) (fun c9 => ?_)
    · skip
      obtain ⟨h, hh, rfl⟩ := inR_nat (n := 60) (by decide) c9
      refine x_aload_n 0 d_X3_bears_21 rfl rfl ?_
      refine x_getr (j := 0) 1 x_c3 rfl (Nat.le_of_ble_eq_true rfl) q147 rfl d_X3_bears_22 ?_
      refine x_getiV (j := 6) (z := (gA g) 1) x_c0 (p_kd x_pr1) (Nat.le_of_ble_eq_true rfl) q47 (p_n6 x_pr1) (PR.f6 hL) d_X3_bears_25 ?_
      refine x_iload_n 1 d_X3_bears_28 rfl rfl ?_
      refine x_icmp_le 36 d_X3_bears_29 (by decide) (fun c10 => ?_) (fun c10 => ?_)
      · skip
        refine x_aload_n 0 d_X3_bears_36 rfl rfl ?_
        refine x_iload_n 1 d_X3_bears_37 rfl rfl ?_
        refine x_iload_n 2 d_X3_bears_38 rfl rfl ?_
        refine x_cvi (k := 0) (as := [.int (nI kk), .int (nI h)]) (c_X3_greatestSumMet l E μ hL hWF hH (k := kk) (n := h) (by omega) (by omega)) v_X3_greatestSumMet w_X3_greatestSumMet q395 o_X rfl ⟨Nat.le_of_ble_eq_true rfl, Nat.le_of_ble_eq_true rfl⟩ rfl (Nat.le_of_ble_eq_true rfl) d_X3_bears_39 ?_
        rintro _ μ11 ⟨rfl, hF12⟩
        have hL13 := PR.cg hL (μ' := μ11) (fun id hid => (hF12 _ (by omega)))
        have hLH14 := hH
        rw [← (show μ11 1 = μ 1 from (hF12 _ (by omega)))] at hLH14
        have hX15 := XR.cg hX (μ' := μ11) (fun id hid => (hF12 _ (by omega)))
        have hD16 := XD.cg hD (μ' := μ11) (fun id hid => (hF12 _ (by omega)))
        have hF17 : ∀ id, 41 ≤ id → μ11 id = μ id := fun id hid => (show μ11 id = μ id from (hF12 _ (by omega))).trans (hF id hid)
        refine x_istore_n [(3, .int (metTo (gA g) kk h)), (0, .ref (E.1 + 0)), (1, .int (nI kk)), (2, .int (nI h))] d_X3_bears_42 rfl (Nat.le_of_ble_eq_true rfl) rfl ?_
        refine x_iload_n 0 d_X3_bears_43 rfl rfl ?_
        refine x_if_ge 56 d_X3_bears_44 (by decide) (fun c18 => ?_) (fun c18 => ?_)
        · skip
          refine x_iload_n 0 d_X3_bears_56 rfl rfl ?_
          refine x_sipush (x := 999) d_X3_bears_57 (by decide) ?_
          refine x_min q401 q204 q205 q7 (Nat.le_of_ble_eq_true rfl) (Nat.le_of_ble_eq_true rfl) d_X3_bears_60 ?_
          refine x_iret rfl d_X3_bears_63 ?_
          obtain ⟨v, e8, e7⟩ := bears_met hWF (k := kk) (n := h) (by omega) (Int32.not_lt.mpr c10) c18
          have e9 : F_bears g (nI kk) (nI h) = (minI (metTo (gA g) kk h) 999, g) := by simp [F_bears, x_b_f, x_b_t, c1, c9, nI_clamp (n := kk) (by omega), nI_clamp (n := h) (by omega), e8, orO, e7]
          rw [e9]
          exact ⟨rfl, ⟨hL13, hLH14, hX15, hD16⟩, hF17⟩
        · skip
          refine x_aload_n 1 d_X3_bears_47 rfl rfl ?_
          refine x_ldc q326 d_X3_bears_48 ?_
          refine x_cvi (k := 0) (as := [.int (-1000004)]) (c_X3_finding l E μ11 (i := 3) hD16 (by decide) (w := (-1000004)) (by decide)) v_X3_finding w_X3_finding q183 o_X rfl ⟨Nat.le_of_ble_eq_true rfl, Nat.le_of_ble_eq_true rfl⟩ rfl (Nat.le_of_ble_eq_true rfl) d_X3_bears_50 ?_
          rintro _ μ19 ⟨rfl, hD20, hF21⟩
          have hL22 := PR.cg hL13 (μ' := μ19) (fun id hid => (hF21 _ (by omega)))
          have hLH23 := hLH14
          rw [← (show μ19 1 = μ11 1 from (hF21 _ (by omega)))] at hLH23
          have hX24 := XR.cg hX15 (μ' := μ19) (fun id hid => (hF21 _ (by omega)))
          have hF25 : ∀ id, 41 ≤ id → μ19 id = μ id := fun id hid => (show μ19 id = μ11 id from (hF21 _ (by omega))).trans (hF17 id hid)
          refine x_goto 63 d_X3_bears_53 (by decide) ?_
          refine x_iret rfl d_X3_bears_63 ?_
          have e8 := bears_none hWF (k := kk) (n := h) (by omega) (Int32.not_lt.mpr c10) (Int32.not_le.mp c18)
          have e9 : F_bears g (nI kk) (nI h) = fin g 3 := by simp [F_bears, x_b_f, x_b_t, c1, c9, nI_clamp (n := kk) (by omega), nI_clamp (n := h) (by omega), e8, orO]
          rw [e9]
          exact ⟨rfl, XS.fin hL22 hLH23 hX24 hD20, hF25⟩
      · skip
        refine x_sipush (x := 999) d_X3_bears_32 (by decide) ?_
        refine x_iret rfl d_X3_bears_35 ?_
        have e8 := bears_go hWF (k := kk) (n := h) (by omega) (Int32.not_le.mp c10)
        have e9 : F_bears g (nI kk) (nI h) = (nI 999, g) := by simp [F_bears, x_b_f, x_b_t, c1, c9, nI_clamp (n := kk) (by omega), nI_clamp (n := h) (by omega), e8, orO]
        rw [e9]
        exact ⟨rfl, ⟨hL, hH, hX, hD⟩, hF⟩
    · skip
      refine x_aload_n 0 d_X3_bears_14 rfl rfl ?_
      refine x_ldc q182 d_X3_bears_15 ?_
      refine x_cvi (k := 0) (as := [.int (-1000001)]) (c_X3_finding l E μ (i := 0) hD (by decide) (w := (-1000001)) (by decide)) v_X3_finding w_X3_finding q183 o_X rfl ⟨Nat.le_of_ble_eq_true rfl, Nat.le_of_ble_eq_true rfl⟩ rfl (Nat.le_of_ble_eq_true rfl) d_X3_bears_17 ?_
      rintro _ μ26 ⟨rfl, hD27, hF28⟩
      have hL29 := PR.cg hL (μ' := μ26) (fun id hid => (hF28 _ (by omega)))
      have hLH30 := hH
      rw [← (show μ26 1 = μ 1 from (hF28 _ (by omega)))] at hLH30
      have hX31 := XR.cg hX (μ' := μ26) (fun id hid => (hF28 _ (by omega)))
      have hF32 : ∀ id, 41 ≤ id → μ26 id = μ id := fun id hid => (show μ26 id = μ id from (hF28 _ (by omega))).trans (hF id hid)
      refine x_iret rfl d_X3_bears_20 ?_
      have e9 : F_bears g (nI kk) n = fin g 0 := by simp [F_bears, x_b_f, x_b_t, c1, c9, nI_clamp (n := kk) (by omega)]
      rw [e9]
      exact ⟨rfl, XS.fin hL29 hLH30 hX31 hD27, hF32⟩
def m_X3_worth : x_M := (yX3_worth, prog_1_method_33_code, 3, (some FieldType.int), 5, 118)
theorem v_X3_worth : x_VM m_X3_worth 0 := ⟨q429, q1, by decide +kernel, by decide +kernel, by decide +kernel⟩
theorem w_X3_worth : x_VI m_X3_worth := ⟨q427, q428⟩
theorem d_X3_worth_0 : x_dec m_X3_worth 0 (.iconst 0) 1 1 := ⟨by decide +kernel, rfl⟩
theorem d_X3_worth_1 : x_dec m_X3_worth 1 (.istore_n 1) 1 2 := ⟨by decide +kernel, rfl⟩
theorem d_X3_worth_2 : x_dec m_X3_worth 2 (.iconst 0) 1 3 := ⟨by decide +kernel, rfl⟩
theorem d_X3_worth_3 : x_dec m_X3_worth 3 (.istore_n 2) 1 4 := ⟨by decide +kernel, rfl⟩
theorem d_X3_worth_4 : x_dec m_X3_worth 4 (.iload_n 2) 1 5 := ⟨by decide +kernel, rfl⟩
theorem d_X3_worth_5 : x_dec m_X3_worth 5 (.bipush 16) 2 7 := ⟨by decide +kernel, rfl⟩
theorem d_X3_worth_7 : x_dec m_X3_worth 7 (.if_icmp .ge 32) 3 10 := ⟨by decide +kernel, rfl⟩
theorem d_X3_worth_10 : x_dec m_X3_worth 10 (.aload_n 0) 1 11 := ⟨by decide +kernel, rfl⟩
theorem d_X3_worth_11 : x_dec m_X3_worth 11 (.getfield 12) 3 14 := ⟨by decide +kernel, rfl⟩
theorem d_X3_worth_14 : x_dec m_X3_worth 14 (.iload_n 2) 1 15 := ⟨by decide +kernel, rfl⟩
theorem d_X3_worth_15 : x_dec m_X3_worth 15 (.invokevirtual 66) 3 18 := ⟨by decide +kernel, rfl⟩
theorem d_X3_worth_18 : x_dec m_X3_worth 18 (.ifCond .eq 15) 3 21 := ⟨by decide +kernel, rfl⟩
theorem d_X3_worth_21 : x_dec m_X3_worth 21 (.iload_n 1) 1 22 := ⟨by decide +kernel, rfl⟩
theorem d_X3_worth_22 : x_dec m_X3_worth 22 (.aload_n 0) 1 23 := ⟨by decide +kernel, rfl⟩
theorem d_X3_worth_23 : x_dec m_X3_worth 23 (.getfield 12) 3 26 := ⟨by decide +kernel, rfl⟩
theorem d_X3_worth_26 : x_dec m_X3_worth 26 (.getfield 60) 3 29 := ⟨by decide +kernel, rfl⟩
theorem d_X3_worth_29 : x_dec m_X3_worth 29 (.iload_n 2) 1 30 := ⟨by decide +kernel, rfl⟩
theorem d_X3_worth_30 : x_dec m_X3_worth 30 (.iaload) 1 31 := ⟨by decide +kernel, rfl⟩
theorem d_X3_worth_31 : x_dec m_X3_worth 31 (.iadd) 1 32 := ⟨by decide +kernel, rfl⟩
theorem d_X3_worth_32 : x_dec m_X3_worth 32 (.istore_n 1) 1 33 := ⟨by decide +kernel, rfl⟩
theorem d_X3_worth_33 : x_dec m_X3_worth 33 (.iinc 2 1) 3 36 := ⟨by decide +kernel, rfl⟩
theorem d_X3_worth_36 : x_dec m_X3_worth 36 (.goto (-32)) 3 39 := ⟨by decide +kernel, rfl⟩
theorem d_X3_worth_39 : x_dec m_X3_worth 39 (.iload_n 1) 1 40 := ⟨by decide +kernel, rfl⟩
theorem d_X3_worth_40 : x_dec m_X3_worth 40 (.ireturn) 1 41 := ⟨by decide +kernel, rfl⟩
set_option maxHeartbeats 4000000 in
set_option maxRecDepth 100000 in
theorem c_X3_worth (l : Launch) (E : x_E) (μ : x_Mem) (g : x_SG) (hS : XS g μ) (hI : Inv g) : x_Met l m_X3_worth E [.ref (E.1 + 0)] μ (x_I (fun z m => z = (F_worth g).1 ∧ XS (F_worth g).2 m ∧ ∀ id, 41 ≤ id → m id = μ id)) := by
  obtain ⟨hL, hH, hX, hD⟩ := hS
  have hWF := hI.1.1
  have hn7 := hWF.2.1
  have hpn := hWF.1
  have hF : ∀ id, 41 ≤ id → μ id = μ id := fun _ _ => rfl
  refine x_enter (lv := [(0, .ref (E.1 + 0))]) (by decide +kernel) (Nat.le_of_ble_eq_true rfl) rfl ?_
  refine x_iconst (x := 0) d_X3_worth_0 (by decide) ?_
  refine x_istore_n [(1, .int 0), (0, .ref (E.1 + 0))] d_X3_worth_1 rfl (Nat.le_of_ble_eq_true rfl) rfl ?_
  refine x_iconst (x := 0) d_X3_worth_2 (by decide) ?_
  refine x_istore_n [(2, .int 0), (1, .int 0), (0, .ref (E.1 + 0))] d_X3_worth_3 rfl (Nat.le_of_ble_eq_true rfl) rfl ?_
  have L1 : ∀ i : Nat, i ≤ 16 → ∀ r : Int32, ∀ μ4 : x_Mem, (r = sumTo (fun k => if thereB (gA g) k = true then gA g (8 + k) else 0) i) → (PR (gA g) 1 μ4) → (μ4 1 11 = gA g 0) → (XR g μ4) → (XD (gF g) μ4) → (∀ id, 41 ≤ id → μ4 id = μ id) → x_G l E m_X3_worth (x_mv E m_X3_worth (x_I (fun z m => z = (F_worth g).1 ∧ XS (F_worth g).2 m ∧ ∀ id, 41 ≤ id → m id = μ id))) μ4 4 [(2, .int (nI i)), (1, .int r), (0, .ref (E.1 + 0))] [] := by
    refine x_down _ 16 (fun i hi3 ih2 => ?_)
    intro r μ4 hr hL1 hH1 hX1 hD1 hF1
    refine x_iload_n 0 d_X3_worth_4 rfl rfl ?_
    refine x_bipush (x := 16) d_X3_worth_5 (by decide) ?_
    refine x_icmp_ge 39 d_X3_worth_7 (by decide) (fun c5 => ?_) (fun c5 => ?_)
    · skip
      have hN := x_ge (N := 16) c5 rfl rfl (by omega) (by omega)
      refine x_iload_n 1 d_X3_worth_39 rfl rfl ?_
      refine x_iret rfl d_X3_worth_40 ?_
      have e7 : i = 16 := by omega
      subst e7
      exact ⟨hr, ⟨hL1, hH1, hX1, hD1⟩, hF1⟩
    · skip
      have hN := x_lt (N := 16) c5 rfl rfl (by omega) (by omega)
      refine x_aload_n 2 d_X3_worth_10 rfl rfl ?_
      refine x_getr (j := 0) 1 x_c3 rfl (Nat.le_of_ble_eq_true rfl) q147 rfl d_X3_worth_11 ?_
      refine x_iload_n 0 d_X3_worth_14 rfl rfl ?_
      refine x_cvip (k := 1) (as := [.int (nI i)]) (c_X0_isThere l E μ4 x_pr1 hL1 hWF (k := i) (by omega)) v_X0_isThere w_X0_isThere q213 (p_ob x_pr1) rfl ⟨Nat.le_of_ble_eq_true rfl, Nat.le_of_ble_eq_true rfl⟩ rfl (Nat.le_of_ble_eq_true rfl) d_X3_worth_15 ?_
      refine x_ifb_eq 33 d_X3_worth_18 (by decide) (fun c6 => ?_) (fun c6 => ?_)
      · skip
        refine x_iinc [(2, .int (nI (i + 1))), (1, .int r), (0, .ref (E.1 + 0))] 0 d_X3_worth_33 rfl (x_inc _) (Nat.le_of_ble_eq_true rfl) rfl ?_
        refine x_goto 4 d_X3_worth_36 (by decide) ?_
        exact ih2 (i + 1) (by omega) (by omega) r μ4 (by rw [hr, sumTo]; simp [c6]) hL1 hH1 hX1 hD1 hF1
      · skip
        refine x_iload_n 1 d_X3_worth_21 rfl rfl ?_
        refine x_aload_n 2 d_X3_worth_22 rfl rfl ?_
        refine x_getr (j := 0) 1 x_c3 rfl (Nat.le_of_ble_eq_true rfl) q147 rfl d_X3_worth_23 ?_
        refine x_getr (j := 0) (1 + 1) x_c0 (p_kd x_pr1) (Nat.le_of_ble_eq_true rfl) q32 (p_f0 x_pr1) d_X3_worth_26 ?_
        refine x_iload_n 0 d_X3_worth_29 rfl rfl ?_
        refine x_ialdN (z := (gA g) (8 + i)) 16 i (p_k1 x_pr1) (p_l1 x_pr1) (by omega) (by decide) (PR.need hL1 i (by omega)) d_X3_worth_30 ?_
        refine x_iadd d_X3_worth_31 ?_
        refine x_istore_n [(1, .int (r + ((gA g) (8 + i)))), (2, .int (nI i)), (0, .ref (E.1 + 0))] d_X3_worth_32 rfl (Nat.le_of_ble_eq_true rfl) rfl ?_
        refine x_iinc [(2, .int (nI (i + 1))), (1, .int (r + ((gA g) (8 + i)))), (0, .ref (E.1 + 0))] 1 d_X3_worth_33 rfl (x_inc _) (Nat.le_of_ble_eq_true rfl) rfl ?_
        refine x_goto 4 d_X3_worth_36 (by decide) ?_
        exact ih2 (i + 1) (by omega) (by omega) (r + ((gA g) (8 + i))) μ4 (by rw [hr, sumTo]; simp [c6]) hL1 hH1 hX1 hD1 hF1
  exact L1 0 (by omega) 0 μ (by rfl) hL hH hX hD hF
def m_X3_hangs : x_M := (yX3_hangs, prog_1_method_34_code, 6, (some FieldType.int), 4, 97)
theorem v_X3_hangs : x_VM m_X3_hangs 1 := ⟨q433, q1, by decide +kernel, by decide +kernel, by decide +kernel⟩
theorem w_X3_hangs : x_VI m_X3_hangs := ⟨q431, q432⟩
theorem d_X3_hangs_0 : x_dec m_X3_hangs 0 (.aload_n 0) 1 1 := ⟨by decide +kernel, rfl⟩
theorem d_X3_hangs_1 : x_dec m_X3_hangs 1 (.iload_n 1) 1 2 := ⟨by decide +kernel, rfl⟩
theorem d_X3_hangs_2 : x_dec m_X3_hangs 2 (.invokevirtual 81) 3 5 := ⟨by decide +kernel, rfl⟩
theorem d_X3_hangs_5 : x_dec m_X3_hangs 5 (.ifCond .ne 10) 3 8 := ⟨by decide +kernel, rfl⟩
theorem d_X3_hangs_8 : x_dec m_X3_hangs 8 (.aload_n 0) 1 9 := ⟨by decide +kernel, rfl⟩
theorem d_X3_hangs_9 : x_dec m_X3_hangs 9 (.ldc 55) 2 11 := ⟨by decide +kernel, rfl⟩
theorem d_X3_hangs_11 : x_dec m_X3_hangs 11 (.invokevirtual 56) 3 14 := ⟨by decide +kernel, rfl⟩
theorem d_X3_hangs_14 : x_dec m_X3_hangs 14 (.ireturn) 1 15 := ⟨by decide +kernel, rfl⟩
theorem d_X3_hangs_15 : x_dec m_X3_hangs 15 (.iconst 0) 1 16 := ⟨by decide +kernel, rfl⟩
theorem d_X3_hangs_16 : x_dec m_X3_hangs 16 (.istore_n 2) 1 17 := ⟨by decide +kernel, rfl⟩
theorem d_X3_hangs_17 : x_dec m_X3_hangs 17 (.iconst 0) 1 18 := ⟨by decide +kernel, rfl⟩
theorem d_X3_hangs_18 : x_dec m_X3_hangs 18 (.istore_n 3) 1 19 := ⟨by decide +kernel, rfl⟩
theorem d_X3_hangs_19 : x_dec m_X3_hangs 19 (.iload_n 3) 1 20 := ⟨by decide +kernel, rfl⟩
theorem d_X3_hangs_20 : x_dec m_X3_hangs 20 (.bipush 16) 2 22 := ⟨by decide +kernel, rfl⟩
theorem d_X3_hangs_22 : x_dec m_X3_hangs 22 (.if_icmp .ge 57) 3 25 := ⟨by decide +kernel, rfl⟩
theorem d_X3_hangs_25 : x_dec m_X3_hangs 25 (.aload_n 0) 1 26 := ⟨by decide +kernel, rfl⟩
theorem d_X3_hangs_26 : x_dec m_X3_hangs 26 (.getfield 12) 3 29 := ⟨by decide +kernel, rfl⟩
theorem d_X3_hangs_29 : x_dec m_X3_hangs 29 (.iload_n 3) 1 30 := ⟨by decide +kernel, rfl⟩
theorem d_X3_hangs_30 : x_dec m_X3_hangs 30 (.invokevirtual 63) 3 33 := ⟨by decide +kernel, rfl⟩
theorem d_X3_hangs_33 : x_dec m_X3_hangs 33 (.istore 4) 2 35 := ⟨by decide +kernel, rfl⟩
theorem d_X3_hangs_35 : x_dec m_X3_hangs 35 (.aload_n 0) 1 36 := ⟨by decide +kernel, rfl⟩
theorem d_X3_hangs_36 : x_dec m_X3_hangs 36 (.getfield 12) 3 39 := ⟨by decide +kernel, rfl⟩
theorem d_X3_hangs_39 : x_dec m_X3_hangs 39 (.getfield 60) 3 42 := ⟨by decide +kernel, rfl⟩
theorem d_X3_hangs_42 : x_dec m_X3_hangs 42 (.iload_n 3) 1 43 := ⟨by decide +kernel, rfl⟩
theorem d_X3_hangs_43 : x_dec m_X3_hangs 43 (.iaload) 1 44 := ⟨by decide +kernel, rfl⟩
theorem d_X3_hangs_44 : x_dec m_X3_hangs 44 (.istore 5) 2 46 := ⟨by decide +kernel, rfl⟩
theorem d_X3_hangs_46 : x_dec m_X3_hangs 46 (.iload 4) 2 48 := ⟨by decide +kernel, rfl⟩
theorem d_X3_hangs_48 : x_dec m_X3_hangs 48 (.iload 5) 2 50 := ⟨by decide +kernel, rfl⟩
theorem d_X3_hangs_50 : x_dec m_X3_hangs 50 (.if_icmp .lt 23) 3 53 := ⟨by decide +kernel, rfl⟩
theorem d_X3_hangs_53 : x_dec m_X3_hangs 53 (.iload 4) 2 55 := ⟨by decide +kernel, rfl⟩
theorem d_X3_hangs_55 : x_dec m_X3_hangs 55 (.aload_n 0) 1 56 := ⟨by decide +kernel, rfl⟩
theorem d_X3_hangs_56 : x_dec m_X3_hangs 56 (.getfield 12) 3 59 := ⟨by decide +kernel, rfl⟩
theorem d_X3_hangs_59 : x_dec m_X3_hangs 59 (.iload_n 1) 1 60 := ⟨by decide +kernel, rfl⟩
theorem d_X3_hangs_60 : x_dec m_X3_hangs 60 (.iload_n 3) 1 61 := ⟨by decide +kernel, rfl⟩
theorem d_X3_hangs_61 : x_dec m_X3_hangs 61 (.invokevirtual 198) 3 64 := ⟨by decide +kernel, rfl⟩
theorem d_X3_hangs_64 : x_dec m_X3_hangs 64 (.isub) 1 65 := ⟨by decide +kernel, rfl⟩
theorem d_X3_hangs_65 : x_dec m_X3_hangs 65 (.iload 5) 2 67 := ⟨by decide +kernel, rfl⟩
theorem d_X3_hangs_67 : x_dec m_X3_hangs 67 (.if_icmp .ge 6) 3 70 := ⟨by decide +kernel, rfl⟩
theorem d_X3_hangs_70 : x_dec m_X3_hangs 70 (.iinc 2 1) 3 73 := ⟨by decide +kernel, rfl⟩
theorem d_X3_hangs_73 : x_dec m_X3_hangs 73 (.iinc 3 1) 3 76 := ⟨by decide +kernel, rfl⟩
theorem d_X3_hangs_76 : x_dec m_X3_hangs 76 (.goto (-57)) 3 79 := ⟨by decide +kernel, rfl⟩
theorem d_X3_hangs_79 : x_dec m_X3_hangs 79 (.iload_n 2) 1 80 := ⟨by decide +kernel, rfl⟩
theorem d_X3_hangs_80 : x_dec m_X3_hangs 80 (.ireturn) 1 81 := ⟨by decide +kernel, rfl⟩
set_option maxHeartbeats 4000000 in
set_option maxRecDepth 100000 in
theorem c_X3_hangs (l : Launch) (E : x_E) (μ : x_Mem) (g : x_SG) (hS : XS g μ) (hI : Inv g) (p : Int32) : x_Met l m_X3_hangs E [.ref (E.1 + 0), .int p] μ (x_I (fun z m => z = (F_hangs g p).1 ∧ XS (F_hangs g p).2 m ∧ ∀ id, 41 ≤ id → m id = μ id)) := by
  obtain ⟨hL, hH, hX, hD⟩ := hS
  have hWF := hI.1.1
  have hn7 := hWF.2.1
  have hpn := hWF.1
  have hF : ∀ id, 41 ≤ id → μ id = μ id := fun _ _ => rfl
  refine x_enter (lv := [(0, .ref (E.1 + 0)), (1, .int p)]) (by decide +kernel) (Nat.le_of_ble_eq_true rfl) rfl ?_
  refine x_aload_n 0 d_X3_hangs_0 rfl rfl ?_
  refine x_iload_n 1 d_X3_hangs_1 rfl rfl ?_
  refine x_cvip (k := 0) (as := [.int p]) (c_X3_isPerson l E μ hL p) v_X3_isPerson w_X3_isPerson q234 o_X rfl ⟨Nat.le_of_ble_eq_true rfl, Nat.le_of_ble_eq_true rfl⟩ rfl (Nat.le_of_ble_eq_true rfl) d_X3_hangs_2 ?_
  refine x_ifb_ne 15 d_X3_hangs_5 (by decide) (fun c1 => ?_) (fun c1 => ?_)
  · skip
    obtain ⟨q, hq, rfl⟩ := isP_nat hWF c1
    refine x_iconst (x := 0) d_X3_hangs_15 (by decide) ?_
    refine x_istore_n [(2, .int 0), (0, .ref (E.1 + 0)), (1, .int (nI q))] d_X3_hangs_16 rfl (Nat.le_of_ble_eq_true rfl) rfl ?_
    refine x_iconst (x := 0) d_X3_hangs_17 (by decide) ?_
    refine x_istore_n [(3, .int 0), (2, .int 0), (0, .ref (E.1 + 0)), (1, .int (nI q))] d_X3_hangs_18 rfl (Nat.le_of_ble_eq_true rfl) rfl ?_
    have L2 : ∀ i : Nat, i ≤ 16 → ∀ r : Int32, ∀ μ5 : x_Mem, (r = cntTo 0 (fun k => thereB (gA g) k && decide (sumF (gA g) (nI k) - bringsF (gA g) q (nI k) < gA g (8 + k))) i) → (PR (gA g) 1 μ5) → (μ5 1 11 = gA g 0) → (XR g μ5) → (XD (gF g) μ5) → (∀ id, 41 ≤ id → μ5 id = μ id) → x_G l E m_X3_hangs (x_mv E m_X3_hangs (x_I (fun z m => z = (F_hangs g (nI q)).1 ∧ XS (F_hangs g (nI q)).2 m ∧ ∀ id, 41 ≤ id → m id = μ id))) μ5 19 [(3, .int (nI i)), (2, .int r), (0, .ref (E.1 + 0)), (1, .int (nI q))] [] := by
      refine x_down _ 16 (fun i hi4 ih3 => ?_)
      intro r μ5 hr hL1 hH1 hX1 hD1 hF1
      refine x_iload_n 0 d_X3_hangs_19 rfl rfl ?_
      refine x_bipush (x := 16) d_X3_hangs_20 (by decide) ?_
      refine x_icmp_ge 79 d_X3_hangs_22 (by decide) (fun c6 => ?_) (fun c6 => ?_)
      · skip
        have hN := x_ge (N := 16) c6 rfl rfl (by omega) (by omega)
        refine x_iload_n 1 d_X3_hangs_79 rfl rfl ?_
        refine x_iret rfl d_X3_hangs_80 ?_
        have e7 : i = 16 := by omega
        subst e7
        subst hr
        have e9 : F_hangs g (nI q) = (cntTo 0 (fun k => thereB (gA g) k && decide (sumF (gA g) (nI k) - bringsF (gA g) q (nI k) < gA g (8 + k))) 16, g) := by simp [F_hangs, x_b_f, x_b_t, c1, nI_clamp (n := q) (by omega)]
        rw [e9]
        exact ⟨rfl, ⟨hL1, hH1, hX1, hD1⟩, hF1⟩
      · skip
        have hN := x_lt (N := 16) c6 rfl rfl (by omega) (by omega)
        refine x_aload_n 2 d_X3_hangs_25 rfl rfl ?_
        refine x_getr (j := 0) 1 x_c3 rfl (Nat.le_of_ble_eq_true rfl) q147 rfl d_X3_hangs_26 ?_
        refine x_iload_n 0 d_X3_hangs_29 rfl rfl ?_
        refine x_cvip (k := 1) (as := [.int (nI i)]) (c_X0_sumAt l E μ5 x_pr1 hL1 hWF (nI i)) v_X0_sumAt w_X0_sumAt q191 (p_ob x_pr1) rfl ⟨Nat.le_of_ble_eq_true rfl, Nat.le_of_ble_eq_true rfl⟩ rfl (Nat.le_of_ble_eq_true rfl) d_X3_hangs_30 ?_
        refine x_istore [(4, .int (sumF (gA g) (nI i))), (3, .int (nI i)), (2, .int r), (0, .ref (E.1 + 0)), (1, .int (nI q))] d_X3_hangs_33 (Nat.le_of_ble_eq_true rfl) rfl ?_
        refine x_aload_n 3 d_X3_hangs_35 rfl rfl ?_
        refine x_getr (j := 0) 1 x_c3 rfl (Nat.le_of_ble_eq_true rfl) q147 rfl d_X3_hangs_36 ?_
        refine x_getr (j := 0) (1 + 1) x_c0 (p_kd x_pr1) (Nat.le_of_ble_eq_true rfl) q32 (p_f0 x_pr1) d_X3_hangs_39 ?_
        refine x_iload_n 1 d_X3_hangs_42 rfl rfl ?_
        refine x_ialdN (z := (gA g) (8 + i)) 16 i (p_k1 x_pr1) (p_l1 x_pr1) (by omega) (by decide) (PR.need hL1 i (by omega)) d_X3_hangs_43 ?_
        refine x_istore [(5, .int ((gA g) (8 + i))), (4, .int (sumF (gA g) (nI i))), (3, .int (nI i)), (2, .int r), (0, .ref (E.1 + 0)), (1, .int (nI q))] d_X3_hangs_44 (Nat.le_of_ble_eq_true rfl) rfl ?_
        refine x_iload 1 d_X3_hangs_46 rfl ?_
        refine x_iload 0 d_X3_hangs_48 rfl ?_
        refine x_icmp_lt 73 d_X3_hangs_50 (by decide) (fun c7 => ?_) (fun c7 => ?_)
        · skip
          refine x_iinc [(3, .int (nI (i + 1))), (5, .int ((gA g) (8 + i))), (4, .int (sumF (gA g) (nI i))), (2, .int r), (0, .ref (E.1 + 0)), (1, .int (nI q))] 2 d_X3_hangs_73 rfl (x_inc _) (Nat.le_of_ble_eq_true rfl) rfl ?_
          refine x_goto 19 d_X3_hangs_76 (by decide) ?_
          refine x_lv [0, 3, 4, 5] rfl ?_
          exact ih3 (i + 1) (by omega) (by omega) r μ5 (by rw [hr, cntTo, if_neg (by rw [thereB, decide_eq_false (Int32.not_le.mpr c7)]; simp)]) hL1 hH1 hX1 hD1 hF1
        · skip
          refine x_iload 1 d_X3_hangs_53 rfl ?_
          refine x_aload_n 4 d_X3_hangs_55 rfl rfl ?_
          refine x_getr (j := 0) 1 x_c3 rfl (Nat.le_of_ble_eq_true rfl) q147 rfl d_X3_hangs_56 ?_
          refine x_iload_n 5 d_X3_hangs_59 rfl rfl ?_
          refine x_iload_n 2 d_X3_hangs_60 rfl rfl ?_
          refine x_cvip (k := 1) (as := [.int (nI q), .int (nI i)]) (c_X0_brings l E μ5 x_pr1 hL1 hWF (p := q) (by omega) (nI i)) v_X0_brings w_X0_brings q434 (p_ob x_pr1) rfl ⟨Nat.le_of_ble_eq_true rfl, Nat.le_of_ble_eq_true rfl⟩ rfl (Nat.le_of_ble_eq_true rfl) d_X3_hangs_61 ?_
          refine x_isub d_X3_hangs_64 ?_
          refine x_iload 0 d_X3_hangs_65 rfl ?_
          refine x_icmp_ge 73 d_X3_hangs_67 (by decide) (fun c8 => ?_) (fun c8 => ?_)
          · skip
            refine x_iinc [(3, .int (nI (i + 1))), (5, .int ((gA g) (8 + i))), (4, .int (sumF (gA g) (nI i))), (2, .int r), (0, .ref (E.1 + 0)), (1, .int (nI q))] 2 d_X3_hangs_73 rfl (x_inc _) (Nat.le_of_ble_eq_true rfl) rfl ?_
            refine x_goto 19 d_X3_hangs_76 (by decide) ?_
            refine x_lv [0, 3, 4, 5] rfl ?_
            exact ih3 (i + 1) (by omega) (by omega) r μ5 (by rw [hr, cntTo, if_neg (by rw [decide_eq_false (Int32.not_lt.mpr c8)]; simp)]) hL1 hH1 hX1 hD1 hF1
          · skip
            refine x_iinc [(2, .int (r + 1)), (5, .int ((gA g) (8 + i))), (4, .int (sumF (gA g) (nI i))), (3, .int (nI i)), (0, .ref (E.1 + 0)), (1, .int (nI q))] 3 d_X3_hangs_70 rfl rfl (Nat.le_of_ble_eq_true rfl) rfl ?_
            refine x_iinc [(3, .int (nI (i + 1))), (2, .int (r + 1)), (5, .int ((gA g) (8 + i))), (4, .int (sumF (gA g) (nI i))), (0, .ref (E.1 + 0)), (1, .int (nI q))] 3 d_X3_hangs_73 rfl (x_inc _) (Nat.le_of_ble_eq_true rfl) rfl ?_
            refine x_goto 19 d_X3_hangs_76 (by decide) ?_
            refine x_lv [0, 1, 4, 5] rfl ?_
            exact ih3 (i + 1) (by omega) (by omega) (r + 1) μ5 (by rw [hr, cntTo, if_pos (by rw [thereB, decide_eq_true (Int32.not_lt.mp c7), decide_eq_true (Int32.not_le.mp c8)]; rfl)]) hL1 hH1 hX1 hD1 hF1
    exact L2 0 (by omega) 0 μ (by rfl) hL hH hX hD hF
  · skip
    refine x_aload_n 0 d_X3_hangs_8 rfl rfl ?_
    refine x_ldc q182 d_X3_hangs_9 ?_
    refine x_cvi (k := 0) (as := [.int (-1000001)]) (c_X3_finding l E μ (i := 0) hD (by decide) (w := (-1000001)) (by decide)) v_X3_finding w_X3_finding q183 o_X rfl ⟨Nat.le_of_ble_eq_true rfl, Nat.le_of_ble_eq_true rfl⟩ rfl (Nat.le_of_ble_eq_true rfl) d_X3_hangs_11 ?_
    rintro _ μ9 ⟨rfl, hD10, hF11⟩
    have hL12 := PR.cg hL (μ' := μ9) (fun id hid => (hF11 _ (by omega)))
    have hLH13 := hH
    rw [← (show μ9 1 = μ 1 from (hF11 _ (by omega)))] at hLH13
    have hX14 := XR.cg hX (μ' := μ9) (fun id hid => (hF11 _ (by omega)))
    have hF15 : ∀ id, 41 ≤ id → μ9 id = μ id := fun id hid => (show μ9 id = μ id from (hF11 _ (by omega))).trans (hF id hid)
    refine x_iret rfl d_X3_hangs_14 ?_
    have e9 : F_hangs g p = fin g 0 := by simp [F_hangs, x_b_f, x_b_t, c1]
    rw [e9]
    exact ⟨rfl, XS.fin hL12 hLH13 hX14 hD10, hF15⟩
