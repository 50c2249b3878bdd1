/-! CONSTRUCTORS (by program) -/
theorem upV_s {ω : x_Om} {k j : Nat} {z : Value} : upV ω k j z k j = z := by
  show (if k = k then updV (ω k) j z else ω k) j = z
  rw [if_pos rfl]
  exact if_pos rfl
theorem upV_o {ω : x_Om} {k j j1 : Nat} {z : Value} (h : j1 ≠ j) : upV ω k j z k j1 = ω k j1 := by
  show (if k = k then updV (ω k) j z else ω k) j1 = ω k j1
  rw [if_pos rfl]
  exact if_neg h
theorem upW_s {ω : x_Om} {n : Nat} {d : Nat → Value} : upW ω n d n = d := if_pos rfl
/-- fields as they are at first -/
def dvP (j : Nat) : Value := if j < 5 then .null else if j < 13 then .int 0 else .null
def dvS (j : Nat) : Value := if j < 2 then .int 0 else .null
def dvT (j : Nat) : Value := if j = 0 then .null else .int 0
def dvX (j : Nat) : Value := if j = 3 then .int 0 else .null
def dvM (j : Nat) : Value := if j = 3 then .int 0 else if j < 11 then .null else .int 0
theorem dvP_ok : ∀ j, j < 16 → defaultValue (tyX0 j) = dvP j := by decide +kernel
theorem dvS_ok : ∀ j, j < 3 → defaultValue (tyX1 j) = dvS j := by decide +kernel
theorem dvT_ok : ∀ j, j < 6 → defaultValue (tyX2 j) = dvT j := by decide +kernel
theorem dvX_ok : ∀ j, j < 8 → defaultValue (tyX3 j) = dvX j := by decide +kernel
theorem dvM_ok : ∀ j, j < 17 → defaultValue (tyX4 j) = dvM j := by decide +kernel
/-- the memory as it is when both are made -/
def iniP (j : Nat) : Int32 := if j = 8 then 3 else if j = 9 then 5 else if j = 12 then 1 else 0
def iniM (j : Nat) : Int32 := if j = 3 then 3 else if j = 4 then 5 else if j = 6 then 1 else if j < 8 then 0 else if j < 24 then 50 else if j < 48 then 0 else -1
def x_ini : x_Mem := fun k j => if k = 1 then iniP j else if k = 10 then iniP j else if k = 19 then iniP j else if k = 2 then 50 else if k = 11 then 50 else if k = 20 then 50 else if k = 6 then -1 else if k = 15 then -1 else if k = 24 then -1 else if k = 42 then iniM j else 0
def x_bds : List Nat := [8, 16, 16, 8, 8, 8, 10, 8, 18, 18, 16, 16, 8, 8, 8, 10, 8, 18, 18, 16, 16, 8, 8, 8, 10, 8, 18, 18, 6, 120, 4, 128, 7, 3, 40, 3, 40, 3, 40, 3, 40, 17, 58, 58, 58, 7, 8, 58, 4, 4, 160, 120]
def x_bd (k : Nat) : Nat := x_bds.getD k 0
def okC (E : x_E) (ω : x_Om) (c : Nat) : Prop := ∀ j, j < x_bd c → ω c j = x_val E x_ini c j
-- Arrays.fill in the making
set_option maxHeartbeats 4000000 in
set_option maxRecDepth 100000 in
theorem n_fill (l : Launch) (E : x_E) (ω : x_Om) {n k N : Nat} {v : Int32} (hkn : k < n) (hk : x_kd k = 0) (hln : x_ln k = N) (hb : N < 2 ^ 31) : x_NM l m_J_fill E [.ref (E.1 + k), .int v] ω n (fun ω' n' => n' = n ∧ (∀ j, j < N → ω' k j = .int v) ∧ ∀ c, c ≠ k → ω' c = ω c) 0 0 := by
  refine n_enter (lv := [(0, .ref (E.1 + k)), (1, .int v)]) false (fun h => Bool.noConfusion h) (by decide +kernel) (Nat.le_of_ble_eq_true rfl) rfl ?_
  refine n_iconst (x := 0) d_J_fill_0 (by decide) ?_
  refine n_istore_n [(2, .int 0), (0, .ref (E.1 + k)), (1, .int v)] d_J_fill_1 rfl (Nat.le_of_ble_eq_true rfl) rfl ?_
  refine n_aload_n 1 d_J_fill_2 rfl rfl ?_
  refine n_alen N hkn hk hln d_J_fill_3 ?_
  refine n_istore_n [(3, .int (nI N)), (2, .int 0), (0, .ref (E.1 + k)), (1, .int v)] d_J_fill_4 rfl (Nat.le_of_ble_eq_true rfl) rfl ?_
  have L1 : ∀ i : Nat, i ≤ N → ∀ ω4 : x_Om, (∀ j, j < i → ω4 k j = .int v) → (∀ c, c ≠ k → ω4 c = ω c) → x_N l E m_J_fill (x_nv E m_J_fill (fun ω' n' => n' = n ∧ (∀ j, j < N → ω' k j = .int v) ∧ ∀ c, c ≠ k → ω' c = ω c) 0 0) false ω4 n 0 0 5 [(3, .int (nI N)), (2, .int (nI i)), (0, .ref (E.1 + k)), (1, .int v)] [] := by
    refine x_down _ N (fun i hi ih => ?_)
    intro ω4 h1 h2
    refine n_iload_n 1 d_J_fill_5 rfl rfl ?_
    refine n_iload_n 0 d_J_fill_6 rfl rfl ?_
    refine n_icmp_ge 20 d_J_fill_7 (by decide) (fun c5 => ?_) (fun c5 => ?_)
    · have hN := x_ge (N := N) c5 rfl rfl (by omega) (by omega)
      refine n_ret rfl d_J_fill_20 ?_
      exact ⟨rfl, fun j hj => h1 j (by omega), h2⟩
    · have hN := x_lt (N := N) c5 rfl rfl (by omega) (by omega)
      refine n_aload_n 2 d_J_fill_10 rfl rfl ?_
      refine n_iload_n 1 d_J_fill_11 rfl rfl ?_
      refine n_iload_n 3 d_J_fill_12 rfl rfl ?_
      refine n_iast N hkn hk hln (by omega) (by omega) d_J_fill_13 (fun ω6 e6 => ?_)
      have h1' : ∀ j, j < i + 1 → ω6 k j = .int v := fun j hj => by
        by_cases q : j = i
        · subst q; rw [e6, upV_s]
        · rw [e6, upV_o q]; exact h1 j (by omega)
      have h2' : ∀ c, c ≠ k → ω6 c = ω c := fun c hc => by rw [e6, upV_ne hc]; exact h2 c hc
      refine n_iinc [(2, .int (nI (i + 1))), (3, .int (nI N)), (0, .ref (E.1 + k)), (1, .int v)] 1 d_J_fill_14 rfl (x_inc _) (Nat.le_of_ble_eq_true rfl) rfl ?_
      refine n_goto 5 d_J_fill_17 (by decide) ?_
      refine n_lv [1, 0, 2, 3] rfl ?_
      exact ih (i + 1) (by omega) (by omega) ω6 h1' h2'
  exact L1 0 (Nat.zero_le N) ω (fun _ h => absurd h (Nat.not_lt_zero _)) (fun _ _ => rfl)

def m_X0_init : x_M := (yX0_init, prog_2_method_1_code, 1, none, 1, 26)
theorem v_X0_init : x_VM m_X0_init 0 := ⟨q26, q2, by decide +kernel, by decide +kernel, by decide +kernel⟩
theorem d_X0_init_0 : x_dec m_X0_init 0 (.aload_n 0) 1 1 := ⟨by decide +kernel, rfl⟩
theorem d_X0_init_1 : x_dec m_X0_init 1 (.invokespecial 3) 3 4 := ⟨by decide +kernel, rfl⟩
theorem d_X0_init_4 : x_dec m_X0_init 4 (.aload_n 0) 1 5 := ⟨by decide +kernel, rfl⟩
theorem d_X0_init_5 : x_dec m_X0_init 5 (.bipush 16) 2 7 := ⟨by decide +kernel, rfl⟩
theorem d_X0_init_7 : x_dec m_X0_init 7 (.newarray .int) 2 9 := ⟨by decide +kernel, rfl⟩
theorem d_X0_init_9 : x_dec m_X0_init 9 (.putfield 9) 3 12 := ⟨by decide +kernel, rfl⟩
theorem d_X0_init_12 : x_dec m_X0_init 12 (.aload_n 0) 1 13 := ⟨by decide +kernel, rfl⟩
theorem d_X0_init_13 : x_dec m_X0_init 13 (.bipush 8) 2 15 := ⟨by decide +kernel, rfl⟩
theorem d_X0_init_15 : x_dec m_X0_init 15 (.newarray .int) 2 17 := ⟨by decide +kernel, rfl⟩
theorem d_X0_init_17 : x_dec m_X0_init 17 (.putfield 15) 3 20 := ⟨by decide +kernel, rfl⟩
theorem d_X0_init_20 : x_dec m_X0_init 20 (.aload_n 0) 1 21 := ⟨by decide +kernel, rfl⟩
theorem d_X0_init_21 : x_dec m_X0_init 21 (.bipush 8) 2 23 := ⟨by decide +kernel, rfl⟩
theorem d_X0_init_23 : x_dec m_X0_init 23 (.newarray .int) 2 25 := ⟨by decide +kernel, rfl⟩
theorem d_X0_init_25 : x_dec m_X0_init 25 (.putfield 18) 3 28 := ⟨by decide +kernel, rfl⟩
theorem d_X0_init_28 : x_dec m_X0_init 28 (.aload_n 0) 1 29 := ⟨by decide +kernel, rfl⟩
theorem d_X0_init_29 : x_dec m_X0_init 29 (.bipush 8) 2 31 := ⟨by decide +kernel, rfl⟩
theorem d_X0_init_31 : x_dec m_X0_init 31 (.newarray .int) 2 33 := ⟨by decide +kernel, rfl⟩
theorem d_X0_init_33 : x_dec m_X0_init 33 (.putfield 21) 3 36 := ⟨by decide +kernel, rfl⟩
theorem d_X0_init_36 : x_dec m_X0_init 36 (.aload_n 0) 1 37 := ⟨by decide +kernel, rfl⟩
theorem d_X0_init_37 : x_dec m_X0_init 37 (.bipush 10) 2 39 := ⟨by decide +kernel, rfl⟩
theorem d_X0_init_39 : x_dec m_X0_init 39 (.newarray .int) 2 41 := ⟨by decide +kernel, rfl⟩
theorem d_X0_init_41 : x_dec m_X0_init 41 (.putfield 24) 3 44 := ⟨by decide +kernel, rfl⟩
theorem d_X0_init_44 : x_dec m_X0_init 44 (.aload_n 0) 1 45 := ⟨by decide +kernel, rfl⟩
theorem d_X0_init_45 : x_dec m_X0_init 45 (.iconst 0) 1 46 := ⟨by decide +kernel, rfl⟩
theorem d_X0_init_46 : x_dec m_X0_init 46 (.putfield 27) 3 49 := ⟨by decide +kernel, rfl⟩
theorem d_X0_init_49 : x_dec m_X0_init 49 (.aload_n 0) 1 50 := ⟨by decide +kernel, rfl⟩
theorem d_X0_init_50 : x_dec m_X0_init 50 (.iconst 0) 1 51 := ⟨by decide +kernel, rfl⟩
theorem d_X0_init_51 : x_dec m_X0_init 51 (.putfield 31) 3 54 := ⟨by decide +kernel, rfl⟩
theorem d_X0_init_54 : x_dec m_X0_init 54 (.aload_n 0) 1 55 := ⟨by decide +kernel, rfl⟩
theorem d_X0_init_55 : x_dec m_X0_init 55 (.iconst 0) 1 56 := ⟨by decide +kernel, rfl⟩
theorem d_X0_init_56 : x_dec m_X0_init 56 (.putfield 34) 3 59 := ⟨by decide +kernel, rfl⟩
theorem d_X0_init_59 : x_dec m_X0_init 59 (.aload_n 0) 1 60 := ⟨by decide +kernel, rfl⟩
theorem d_X0_init_60 : x_dec m_X0_init 60 (.iconst 3) 1 61 := ⟨by decide +kernel, rfl⟩
theorem d_X0_init_61 : x_dec m_X0_init 61 (.putfield 37) 3 64 := ⟨by decide +kernel, rfl⟩
theorem d_X0_init_64 : x_dec m_X0_init 64 (.aload_n 0) 1 65 := ⟨by decide +kernel, rfl⟩
theorem d_X0_init_65 : x_dec m_X0_init 65 (.iconst 5) 1 66 := ⟨by decide +kernel, rfl⟩
theorem d_X0_init_66 : x_dec m_X0_init 66 (.putfield 40) 3 69 := ⟨by decide +kernel, rfl⟩
theorem d_X0_init_69 : x_dec m_X0_init 69 (.aload_n 0) 1 70 := ⟨by decide +kernel, rfl⟩
theorem d_X0_init_70 : x_dec m_X0_init 70 (.iconst 0) 1 71 := ⟨by decide +kernel, rfl⟩
theorem d_X0_init_71 : x_dec m_X0_init 71 (.putfield 43) 3 74 := ⟨by decide +kernel, rfl⟩
theorem d_X0_init_74 : x_dec m_X0_init 74 (.aload_n 0) 1 75 := ⟨by decide +kernel, rfl⟩
theorem d_X0_init_75 : x_dec m_X0_init 75 (.iconst 0) 1 76 := ⟨by decide +kernel, rfl⟩
theorem d_X0_init_76 : x_dec m_X0_init 76 (.putfield 46) 3 79 := ⟨by decide +kernel, rfl⟩
theorem d_X0_init_79 : x_dec m_X0_init 79 (.aload_n 0) 1 80 := ⟨by decide +kernel, rfl⟩
theorem d_X0_init_80 : x_dec m_X0_init 80 (.iconst 1) 1 81 := ⟨by decide +kernel, rfl⟩
theorem d_X0_init_81 : x_dec m_X0_init 81 (.putfield 49) 3 84 := ⟨by decide +kernel, rfl⟩
theorem d_X0_init_84 : x_dec m_X0_init 84 (.aload_n 0) 1 85 := ⟨by decide +kernel, rfl⟩
theorem d_X0_init_85 : x_dec m_X0_init 85 (.bipush 8) 2 87 := ⟨by decide +kernel, rfl⟩
theorem d_X0_init_87 : x_dec m_X0_init 87 (.newarray .int) 2 89 := ⟨by decide +kernel, rfl⟩
theorem d_X0_init_89 : x_dec m_X0_init 89 (.putfield 52) 3 92 := ⟨by decide +kernel, rfl⟩
theorem d_X0_init_92 : x_dec m_X0_init 92 (.aload_n 0) 1 93 := ⟨by decide +kernel, rfl⟩
theorem d_X0_init_93 : x_dec m_X0_init 93 (.bipush 18) 2 95 := ⟨by decide +kernel, rfl⟩
theorem d_X0_init_95 : x_dec m_X0_init 95 (.newarray .int) 2 97 := ⟨by decide +kernel, rfl⟩
theorem d_X0_init_97 : x_dec m_X0_init 97 (.putfield 55) 3 100 := ⟨by decide +kernel, rfl⟩
theorem d_X0_init_100 : x_dec m_X0_init 100 (.aload_n 0) 1 101 := ⟨by decide +kernel, rfl⟩
theorem d_X0_init_101 : x_dec m_X0_init 101 (.bipush 18) 2 103 := ⟨by decide +kernel, rfl⟩
theorem d_X0_init_103 : x_dec m_X0_init 103 (.newarray .int) 2 105 := ⟨by decide +kernel, rfl⟩
theorem d_X0_init_105 : x_dec m_X0_init 105 (.putfield 58) 3 108 := ⟨by decide +kernel, rfl⟩
theorem d_X0_init_108 : x_dec m_X0_init 108 (.aload_n 0) 1 109 := ⟨by decide +kernel, rfl⟩
theorem d_X0_init_109 : x_dec m_X0_init 109 (.getfield 9) 3 112 := ⟨by decide +kernel, rfl⟩
theorem d_X0_init_112 : x_dec m_X0_init 112 (.bipush 50) 2 114 := ⟨by decide +kernel, rfl⟩
theorem d_X0_init_114 : x_dec m_X0_init 114 (.invokestatic 61) 3 117 := ⟨by decide +kernel, rfl⟩
theorem d_X0_init_117 : x_dec m_X0_init 117 (.aload_n 0) 1 118 := ⟨by decide +kernel, rfl⟩
theorem d_X0_init_118 : x_dec m_X0_init 118 (.getfield 24) 3 121 := ⟨by decide +kernel, rfl⟩
theorem d_X0_init_121 : x_dec m_X0_init 121 (.iconst (-1)) 1 122 := ⟨by decide +kernel, rfl⟩
theorem d_X0_init_122 : x_dec m_X0_init 122 (.invokestatic 61) 3 125 := ⟨by decide +kernel, rfl⟩
theorem d_X0_init_125 : x_dec m_X0_init 125 (.return_) 1 126 := ⟨by decide +kernel, rfl⟩
def m_X1_init : x_M := (yX1_init, prog_3_method_1_code, 1, none, 1, 26)
theorem v_X1_init : x_VM m_X1_init 0 := ⟨q132, q5, by decide +kernel, by decide +kernel, by decide +kernel⟩
theorem d_X1_init_0 : x_dec m_X1_init 0 (.aload_n 0) 1 1 := ⟨by decide +kernel, rfl⟩
theorem d_X1_init_1 : x_dec m_X1_init 1 (.invokespecial 3) 3 4 := ⟨by decide +kernel, rfl⟩
theorem d_X1_init_4 : x_dec m_X1_init 4 (.aload_n 0) 1 5 := ⟨by decide +kernel, rfl⟩
theorem d_X1_init_5 : x_dec m_X1_init 5 (.iconst 0) 1 6 := ⟨by decide +kernel, rfl⟩
theorem d_X1_init_6 : x_dec m_X1_init 6 (.putfield 9) 3 9 := ⟨by decide +kernel, rfl⟩
theorem d_X1_init_9 : x_dec m_X1_init 9 (.aload_n 0) 1 10 := ⟨by decide +kernel, rfl⟩
theorem d_X1_init_10 : x_dec m_X1_init 10 (.iconst 0) 1 11 := ⟨by decide +kernel, rfl⟩
theorem d_X1_init_11 : x_dec m_X1_init 11 (.putfield 15) 3 14 := ⟨by decide +kernel, rfl⟩
theorem d_X1_init_14 : x_dec m_X1_init 14 (.aload_n 0) 1 15 := ⟨by decide +kernel, rfl⟩
theorem d_X1_init_15 : x_dec m_X1_init 15 (.bipush 40) 2 17 := ⟨by decide +kernel, rfl⟩
theorem d_X1_init_17 : x_dec m_X1_init 17 (.newarray .int) 2 19 := ⟨by decide +kernel, rfl⟩
theorem d_X1_init_19 : x_dec m_X1_init 19 (.putfield 18) 3 22 := ⟨by decide +kernel, rfl⟩
theorem d_X1_init_22 : x_dec m_X1_init 22 (.return_) 1 23 := ⟨by decide +kernel, rfl⟩
def m_X2_init : x_M := (yX2_init, prog_4_method_1_code, 1, none, 1, 26)
theorem v_X2_init : x_VM m_X2_init 0 := ⟨q104, q4, by decide +kernel, by decide +kernel, by decide +kernel⟩
theorem d_X2_init_0 : x_dec m_X2_init 0 (.aload_n 0) 1 1 := ⟨by decide +kernel, rfl⟩
theorem d_X2_init_1 : x_dec m_X2_init 1 (.invokespecial 3) 3 4 := ⟨by decide +kernel, rfl⟩
theorem d_X2_init_4 : x_dec m_X2_init 4 (.aload_n 0) 1 5 := ⟨by decide +kernel, rfl⟩
theorem d_X2_init_5 : x_dec m_X2_init 5 (.bipush 120) 2 7 := ⟨by decide +kernel, rfl⟩
theorem d_X2_init_7 : x_dec m_X2_init 7 (.newarray .byte) 2 9 := ⟨by decide +kernel, rfl⟩
theorem d_X2_init_9 : x_dec m_X2_init 9 (.putfield 9) 3 12 := ⟨by decide +kernel, rfl⟩
theorem d_X2_init_12 : x_dec m_X2_init 12 (.aload_n 0) 1 13 := ⟨by decide +kernel, rfl⟩
theorem d_X2_init_13 : x_dec m_X2_init 13 (.iconst 0) 1 14 := ⟨by decide +kernel, rfl⟩
theorem d_X2_init_14 : x_dec m_X2_init 14 (.putfield 15) 3 17 := ⟨by decide +kernel, rfl⟩
theorem d_X2_init_17 : x_dec m_X2_init 17 (.aload_n 0) 1 18 := ⟨by decide +kernel, rfl⟩
theorem d_X2_init_18 : x_dec m_X2_init 18 (.iconst 0) 1 19 := ⟨by decide +kernel, rfl⟩
theorem d_X2_init_19 : x_dec m_X2_init 19 (.putfield 19) 3 22 := ⟨by decide +kernel, rfl⟩
theorem d_X2_init_22 : x_dec m_X2_init 22 (.aload_n 0) 1 23 := ⟨by decide +kernel, rfl⟩
theorem d_X2_init_23 : x_dec m_X2_init 23 (.iconst 0) 1 24 := ⟨by decide +kernel, rfl⟩
theorem d_X2_init_24 : x_dec m_X2_init 24 (.putfield 22) 3 27 := ⟨by decide +kernel, rfl⟩
theorem d_X2_init_27 : x_dec m_X2_init 27 (.aload_n 0) 1 28 := ⟨by decide +kernel, rfl⟩
theorem d_X2_init_28 : x_dec m_X2_init 28 (.iconst 0) 1 29 := ⟨by decide +kernel, rfl⟩
theorem d_X2_init_29 : x_dec m_X2_init 29 (.putfield 25) 3 32 := ⟨by decide +kernel, rfl⟩
theorem d_X2_init_32 : x_dec m_X2_init 32 (.aload_n 0) 1 33 := ⟨by decide +kernel, rfl⟩
theorem d_X2_init_33 : x_dec m_X2_init 33 (.iconst 0) 1 34 := ⟨by decide +kernel, rfl⟩
theorem d_X2_init_34 : x_dec m_X2_init 34 (.putfield 28) 3 37 := ⟨by decide +kernel, rfl⟩
theorem d_X2_init_37 : x_dec m_X2_init 37 (.return_) 1 38 := ⟨by decide +kernel, rfl⟩
def m_X3_init : x_M := (yX3_init, prog_1_method_1_code, 2, none, 2, 46)
theorem v_X3_init : x_VM m_X3_init 0 := ⟨q18, q1, by decide +kernel, by decide +kernel, by decide +kernel⟩
theorem d_X3_init_0 : x_dec m_X3_init 0 (.aload_n 0) 1 1 := ⟨by decide +kernel, rfl⟩
theorem d_X3_init_1 : x_dec m_X3_init 1 (.invokespecial 3) 3 4 := ⟨by decide +kernel, rfl⟩
theorem d_X3_init_4 : x_dec m_X3_init 4 (.aload_n 0) 1 5 := ⟨by decide +kernel, rfl⟩
theorem d_X3_init_5 : x_dec m_X3_init 5 (.new 9) 3 8 := ⟨by decide +kernel, rfl⟩
theorem d_X3_init_8 : x_dec m_X3_init 8 (.dup) 1 9 := ⟨by decide +kernel, rfl⟩
theorem d_X3_init_9 : x_dec m_X3_init 9 (.invokespecial 11) 3 12 := ⟨by decide +kernel, rfl⟩
theorem d_X3_init_12 : x_dec m_X3_init 12 (.putfield 12) 3 15 := ⟨by decide +kernel, rfl⟩
theorem d_X3_init_15 : x_dec m_X3_init 15 (.aload_n 0) 1 16 := ⟨by decide +kernel, rfl⟩
theorem d_X3_init_16 : x_dec m_X3_init 16 (.new 9) 3 19 := ⟨by decide +kernel, rfl⟩
theorem d_X3_init_19 : x_dec m_X3_init 19 (.dup) 1 20 := ⟨by decide +kernel, rfl⟩
theorem d_X3_init_20 : x_dec m_X3_init 20 (.invokespecial 11) 3 23 := ⟨by decide +kernel, rfl⟩
theorem d_X3_init_23 : x_dec m_X3_init 23 (.putfield 16) 3 26 := ⟨by decide +kernel, rfl⟩
theorem d_X3_init_26 : x_dec m_X3_init 26 (.aload_n 0) 1 27 := ⟨by decide +kernel, rfl⟩
theorem d_X3_init_27 : x_dec m_X3_init 27 (.new 9) 3 30 := ⟨by decide +kernel, rfl⟩
theorem d_X3_init_30 : x_dec m_X3_init 30 (.dup) 1 31 := ⟨by decide +kernel, rfl⟩
theorem d_X3_init_31 : x_dec m_X3_init 31 (.invokespecial 11) 3 34 := ⟨by decide +kernel, rfl⟩
theorem d_X3_init_34 : x_dec m_X3_init 34 (.putfield 19) 3 37 := ⟨by decide +kernel, rfl⟩
theorem d_X3_init_37 : x_dec m_X3_init 37 (.aload_n 0) 1 38 := ⟨by decide +kernel, rfl⟩
theorem d_X3_init_38 : x_dec m_X3_init 38 (.iconst 0) 1 39 := ⟨by decide +kernel, rfl⟩
theorem d_X3_init_39 : x_dec m_X3_init 39 (.putfield 22) 3 42 := ⟨by decide +kernel, rfl⟩
theorem d_X3_init_42 : x_dec m_X3_init 42 (.aload_n 0) 1 43 := ⟨by decide +kernel, rfl⟩
theorem d_X3_init_43 : x_dec m_X3_init 43 (.new 26) 3 46 := ⟨by decide +kernel, rfl⟩
theorem d_X3_init_46 : x_dec m_X3_init 46 (.dup) 1 47 := ⟨by decide +kernel, rfl⟩
theorem d_X3_init_47 : x_dec m_X3_init 47 (.invokespecial 28) 3 50 := ⟨by decide +kernel, rfl⟩
theorem d_X3_init_50 : x_dec m_X3_init 50 (.putfield 29) 3 53 := ⟨by decide +kernel, rfl⟩
theorem d_X3_init_53 : x_dec m_X3_init 53 (.aload_n 0) 1 54 := ⟨by decide +kernel, rfl⟩
theorem d_X3_init_54 : x_dec m_X3_init 54 (.iconst 4) 1 55 := ⟨by decide +kernel, rfl⟩
theorem d_X3_init_55 : x_dec m_X3_init 55 (.anewarray 33) 3 58 := ⟨by decide +kernel, rfl⟩
theorem d_X3_init_58 : x_dec m_X3_init 58 (.putfield 35) 3 61 := ⟨by decide +kernel, rfl⟩
theorem d_X3_init_61 : x_dec m_X3_init 61 (.aload_n 0) 1 62 := ⟨by decide +kernel, rfl⟩
theorem d_X3_init_62 : x_dec m_X3_init 62 (.sipush 128) 3 65 := ⟨by decide +kernel, rfl⟩
theorem d_X3_init_65 : x_dec m_X3_init 65 (.newarray .int) 2 67 := ⟨by decide +kernel, rfl⟩
theorem d_X3_init_67 : x_dec m_X3_init 67 (.putfield 39) 3 70 := ⟨by decide +kernel, rfl⟩
theorem d_X3_init_70 : x_dec m_X3_init 70 (.aload_n 0) 1 71 := ⟨by decide +kernel, rfl⟩
theorem d_X3_init_71 : x_dec m_X3_init 71 (.bipush 7) 2 73 := ⟨by decide +kernel, rfl⟩
theorem d_X3_init_73 : x_dec m_X3_init 73 (.newarray .int) 2 75 := ⟨by decide +kernel, rfl⟩
theorem d_X3_init_75 : x_dec m_X3_init 75 (.putfield 43) 3 78 := ⟨by decide +kernel, rfl⟩
theorem d_X3_init_78 : x_dec m_X3_init 78 (.iconst 0) 1 79 := ⟨by decide +kernel, rfl⟩
theorem d_X3_init_79 : x_dec m_X3_init 79 (.istore_n 1) 1 80 := ⟨by decide +kernel, rfl⟩
theorem d_X3_init_80 : x_dec m_X3_init 80 (.iload_n 1) 1 81 := ⟨by decide +kernel, rfl⟩
theorem d_X3_init_81 : x_dec m_X3_init 81 (.iconst 4) 1 82 := ⟨by decide +kernel, rfl⟩
theorem d_X3_init_82 : x_dec m_X3_init 82 (.if_icmp .ge 22) 3 85 := ⟨by decide +kernel, rfl⟩
theorem d_X3_init_85 : x_dec m_X3_init 85 (.aload_n 0) 1 86 := ⟨by decide +kernel, rfl⟩
theorem d_X3_init_86 : x_dec m_X3_init 86 (.getfield 35) 3 89 := ⟨by decide +kernel, rfl⟩
theorem d_X3_init_89 : x_dec m_X3_init 89 (.iload_n 1) 1 90 := ⟨by decide +kernel, rfl⟩
theorem d_X3_init_90 : x_dec m_X3_init 90 (.new 33) 3 93 := ⟨by decide +kernel, rfl⟩
theorem d_X3_init_93 : x_dec m_X3_init 93 (.dup) 1 94 := ⟨by decide +kernel, rfl⟩
theorem d_X3_init_94 : x_dec m_X3_init 94 (.invokespecial 46) 3 97 := ⟨by decide +kernel, rfl⟩
theorem d_X3_init_97 : x_dec m_X3_init 97 (.aastore) 1 98 := ⟨by decide +kernel, rfl⟩
theorem d_X3_init_98 : x_dec m_X3_init 98 (.iinc 1 1) 3 101 := ⟨by decide +kernel, rfl⟩
theorem d_X3_init_101 : x_dec m_X3_init 101 (.goto (-21)) 3 104 := ⟨by decide +kernel, rfl⟩
theorem d_X3_init_104 : x_dec m_X3_init 104 (.return_) 1 105 := ⟨by decide +kernel, rfl⟩
def m_X4_init : x_M := (yX4_init, prog_6_method_1_code, 2, none, 1, 26)
theorem v_X4_init : x_VM m_X4_init 0 := ⟨q666, q6, by decide +kernel, by decide +kernel, by decide +kernel⟩
theorem d_X4_init_0 : x_dec m_X4_init 0 (.aload_n 0) 1 1 := ⟨by decide +kernel, rfl⟩
theorem d_X4_init_1 : x_dec m_X4_init 1 (.invokespecial 3) 3 4 := ⟨by decide +kernel, rfl⟩
theorem d_X4_init_4 : x_dec m_X4_init 4 (.aload_n 0) 1 5 := ⟨by decide +kernel, rfl⟩
theorem d_X4_init_5 : x_dec m_X4_init 5 (.bipush 58) 2 7 := ⟨by decide +kernel, rfl⟩
theorem d_X4_init_7 : x_dec m_X4_init 7 (.newarray .int) 2 9 := ⟨by decide +kernel, rfl⟩
theorem d_X4_init_9 : x_dec m_X4_init 9 (.putfield 9) 3 12 := ⟨by decide +kernel, rfl⟩
theorem d_X4_init_12 : x_dec m_X4_init 12 (.aload_n 0) 1 13 := ⟨by decide +kernel, rfl⟩
theorem d_X4_init_13 : x_dec m_X4_init 13 (.bipush 58) 2 15 := ⟨by decide +kernel, rfl⟩
theorem d_X4_init_15 : x_dec m_X4_init 15 (.newarray .int) 2 17 := ⟨by decide +kernel, rfl⟩
theorem d_X4_init_17 : x_dec m_X4_init 17 (.putfield 13) 3 20 := ⟨by decide +kernel, rfl⟩
theorem d_X4_init_20 : x_dec m_X4_init 20 (.aload_n 0) 1 21 := ⟨by decide +kernel, rfl⟩
theorem d_X4_init_21 : x_dec m_X4_init 21 (.bipush 58) 2 23 := ⟨by decide +kernel, rfl⟩
theorem d_X4_init_23 : x_dec m_X4_init 23 (.newarray .int) 2 25 := ⟨by decide +kernel, rfl⟩
theorem d_X4_init_25 : x_dec m_X4_init 25 (.putfield 16) 3 28 := ⟨by decide +kernel, rfl⟩
theorem d_X4_init_28 : x_dec m_X4_init 28 (.aload_n 0) 1 29 := ⟨by decide +kernel, rfl⟩
theorem d_X4_init_29 : x_dec m_X4_init 29 (.bipush 7) 2 31 := ⟨by decide +kernel, rfl⟩
theorem d_X4_init_31 : x_dec m_X4_init 31 (.newarray .int) 2 33 := ⟨by decide +kernel, rfl⟩
theorem d_X4_init_33 : x_dec m_X4_init 33 (.putfield 19) 3 36 := ⟨by decide +kernel, rfl⟩
theorem d_X4_init_36 : x_dec m_X4_init 36 (.aload_n 0) 1 37 := ⟨by decide +kernel, rfl⟩
theorem d_X4_init_37 : x_dec m_X4_init 37 (.bipush 8) 2 39 := ⟨by decide +kernel, rfl⟩
theorem d_X4_init_39 : x_dec m_X4_init 39 (.newarray .int) 2 41 := ⟨by decide +kernel, rfl⟩
theorem d_X4_init_41 : x_dec m_X4_init 41 (.putfield 22) 3 44 := ⟨by decide +kernel, rfl⟩
theorem d_X4_init_44 : x_dec m_X4_init 44 (.aload_n 0) 1 45 := ⟨by decide +kernel, rfl⟩
theorem d_X4_init_45 : x_dec m_X4_init 45 (.bipush 58) 2 47 := ⟨by decide +kernel, rfl⟩
theorem d_X4_init_47 : x_dec m_X4_init 47 (.newarray .int) 2 49 := ⟨by decide +kernel, rfl⟩
theorem d_X4_init_49 : x_dec m_X4_init 49 (.putfield 25) 3 52 := ⟨by decide +kernel, rfl⟩
theorem d_X4_init_52 : x_dec m_X4_init 52 (.aload_n 0) 1 53 := ⟨by decide +kernel, rfl⟩
theorem d_X4_init_53 : x_dec m_X4_init 53 (.iconst 4) 1 54 := ⟨by decide +kernel, rfl⟩
theorem d_X4_init_54 : x_dec m_X4_init 54 (.newarray .int) 2 56 := ⟨by decide +kernel, rfl⟩
theorem d_X4_init_56 : x_dec m_X4_init 56 (.putfield 28) 3 59 := ⟨by decide +kernel, rfl⟩
theorem d_X4_init_59 : x_dec m_X4_init 59 (.aload_n 0) 1 60 := ⟨by decide +kernel, rfl⟩
theorem d_X4_init_60 : x_dec m_X4_init 60 (.iconst 4) 1 61 := ⟨by decide +kernel, rfl⟩
theorem d_X4_init_61 : x_dec m_X4_init 61 (.newarray .int) 2 63 := ⟨by decide +kernel, rfl⟩
theorem d_X4_init_63 : x_dec m_X4_init 63 (.putfield 31) 3 66 := ⟨by decide +kernel, rfl⟩
theorem d_X4_init_66 : x_dec m_X4_init 66 (.aload_n 0) 1 67 := ⟨by decide +kernel, rfl⟩
theorem d_X4_init_67 : x_dec m_X4_init 67 (.sipush 160) 3 70 := ⟨by decide +kernel, rfl⟩
theorem d_X4_init_70 : x_dec m_X4_init 70 (.newarray .int) 2 72 := ⟨by decide +kernel, rfl⟩
theorem d_X4_init_72 : x_dec m_X4_init 72 (.putfield 34) 3 75 := ⟨by decide +kernel, rfl⟩
theorem d_X4_init_75 : x_dec m_X4_init 75 (.aload_n 0) 1 76 := ⟨by decide +kernel, rfl⟩
theorem d_X4_init_76 : x_dec m_X4_init 76 (.bipush 120) 2 78 := ⟨by decide +kernel, rfl⟩
theorem d_X4_init_78 : x_dec m_X4_init 78 (.newarray .int) 2 80 := ⟨by decide +kernel, rfl⟩
theorem d_X4_init_80 : x_dec m_X4_init 80 (.putfield 37) 3 83 := ⟨by decide +kernel, rfl⟩
theorem d_X4_init_83 : x_dec m_X4_init 83 (.aload_n 0) 1 84 := ⟨by decide +kernel, rfl⟩
theorem d_X4_init_84 : x_dec m_X4_init 84 (.getfield 9) 3 87 := ⟨by decide +kernel, rfl⟩
theorem d_X4_init_87 : x_dec m_X4_init 87 (.iconst 3) 1 88 := ⟨by decide +kernel, rfl⟩
theorem d_X4_init_88 : x_dec m_X4_init 88 (.iconst 3) 1 89 := ⟨by decide +kernel, rfl⟩
theorem d_X4_init_89 : x_dec m_X4_init 89 (.iastore) 1 90 := ⟨by decide +kernel, rfl⟩
theorem d_X4_init_90 : x_dec m_X4_init 90 (.aload_n 0) 1 91 := ⟨by decide +kernel, rfl⟩
theorem d_X4_init_91 : x_dec m_X4_init 91 (.getfield 9) 3 94 := ⟨by decide +kernel, rfl⟩
theorem d_X4_init_94 : x_dec m_X4_init 94 (.iconst 4) 1 95 := ⟨by decide +kernel, rfl⟩
theorem d_X4_init_95 : x_dec m_X4_init 95 (.iconst 5) 1 96 := ⟨by decide +kernel, rfl⟩
theorem d_X4_init_96 : x_dec m_X4_init 96 (.iastore) 1 97 := ⟨by decide +kernel, rfl⟩
theorem d_X4_init_97 : x_dec m_X4_init 97 (.aload_n 0) 1 98 := ⟨by decide +kernel, rfl⟩
theorem d_X4_init_98 : x_dec m_X4_init 98 (.getfield 9) 3 101 := ⟨by decide +kernel, rfl⟩
theorem d_X4_init_101 : x_dec m_X4_init 101 (.bipush 6) 2 103 := ⟨by decide +kernel, rfl⟩
theorem d_X4_init_103 : x_dec m_X4_init 103 (.iconst 1) 1 104 := ⟨by decide +kernel, rfl⟩
theorem d_X4_init_104 : x_dec m_X4_init 104 (.iastore) 1 105 := ⟨by decide +kernel, rfl⟩
theorem d_X4_init_105 : x_dec m_X4_init 105 (.iconst 0) 1 106 := ⟨by decide +kernel, rfl⟩
theorem d_X4_init_106 : x_dec m_X4_init 106 (.istore_n 1) 1 107 := ⟨by decide +kernel, rfl⟩
theorem d_X4_init_107 : x_dec m_X4_init 107 (.iload_n 1) 1 108 := ⟨by decide +kernel, rfl⟩
theorem d_X4_init_108 : x_dec m_X4_init 108 (.bipush 16) 2 110 := ⟨by decide +kernel, rfl⟩
theorem d_X4_init_110 : x_dec m_X4_init 110 (.if_icmp .ge 20) 3 113 := ⟨by decide +kernel, rfl⟩
theorem d_X4_init_113 : x_dec m_X4_init 113 (.aload_n 0) 1 114 := ⟨by decide +kernel, rfl⟩
theorem d_X4_init_114 : x_dec m_X4_init 114 (.getfield 9) 3 117 := ⟨by decide +kernel, rfl⟩
theorem d_X4_init_117 : x_dec m_X4_init 117 (.bipush 8) 2 119 := ⟨by decide +kernel, rfl⟩
theorem d_X4_init_119 : x_dec m_X4_init 119 (.iload_n 1) 1 120 := ⟨by decide +kernel, rfl⟩
theorem d_X4_init_120 : x_dec m_X4_init 120 (.iadd) 1 121 := ⟨by decide +kernel, rfl⟩
theorem d_X4_init_121 : x_dec m_X4_init 121 (.bipush 50) 2 123 := ⟨by decide +kernel, rfl⟩
theorem d_X4_init_123 : x_dec m_X4_init 123 (.iastore) 1 124 := ⟨by decide +kernel, rfl⟩
theorem d_X4_init_124 : x_dec m_X4_init 124 (.iinc 1 1) 3 127 := ⟨by decide +kernel, rfl⟩
theorem d_X4_init_127 : x_dec m_X4_init 127 (.goto (-20)) 3 130 := ⟨by decide +kernel, rfl⟩
theorem d_X4_init_130 : x_dec m_X4_init 130 (.bipush 48) 2 132 := ⟨by decide +kernel, rfl⟩
theorem d_X4_init_132 : x_dec m_X4_init 132 (.istore_n 1) 1 133 := ⟨by decide +kernel, rfl⟩
theorem d_X4_init_133 : x_dec m_X4_init 133 (.iload_n 1) 1 134 := ⟨by decide +kernel, rfl⟩
theorem d_X4_init_134 : x_dec m_X4_init 134 (.bipush 58) 2 136 := ⟨by decide +kernel, rfl⟩
theorem d_X4_init_136 : x_dec m_X4_init 136 (.if_icmp .ge 16) 3 139 := ⟨by decide +kernel, rfl⟩
theorem d_X4_init_139 : x_dec m_X4_init 139 (.aload_n 0) 1 140 := ⟨by decide +kernel, rfl⟩
theorem d_X4_init_140 : x_dec m_X4_init 140 (.getfield 9) 3 143 := ⟨by decide +kernel, rfl⟩
theorem d_X4_init_143 : x_dec m_X4_init 143 (.iload_n 1) 1 144 := ⟨by decide +kernel, rfl⟩
theorem d_X4_init_144 : x_dec m_X4_init 144 (.iconst (-1)) 1 145 := ⟨by decide +kernel, rfl⟩
theorem d_X4_init_145 : x_dec m_X4_init 145 (.iastore) 1 146 := ⟨by decide +kernel, rfl⟩
theorem d_X4_init_146 : x_dec m_X4_init 146 (.iinc 1 1) 3 149 := ⟨by decide +kernel, rfl⟩
theorem d_X4_init_149 : x_dec m_X4_init 149 (.goto (-16)) 3 152 := ⟨by decide +kernel, rfl⟩
theorem d_X4_init_152 : x_dec m_X4_init 152 (.return_) 1 153 := ⟨by decide +kernel, rfl⟩
set_option maxHeartbeats 4000000 in
set_option maxRecDepth 100000 in
theorem n_X0_init_1 (l : Launch) (E : x_E) (ω : x_Om) : x_NM l m_X0_init E [.ref (E.1 + 1)] ω 2 (fun ω' n' => n' = 10 ∧ (∀ c, 1 ≤ c → c < 10 → okC E ω' c) ∧ ∀ c, c < 1 → ω' c = ω c) 8 94 := by
  refine n_enter (lv := [(0, .ref (E.1 + 1))]) true (fun _ => rfl) (by decide +kernel) (Nat.le_of_ble_eq_true rfl) rfl ?_
  refine n_aload_n 0 d_X0_init_0 rfl rfl ?_
  refine n_obj q27 (Nat.le_of_ble_eq_true rfl) (Nat.le_of_ble_eq_true rfl) d_X0_init_1 ?_
  refine n_aload_n 0 d_X0_init_4 rfl rfl ?_
  refine n_bipush (x := 16) d_X0_init_5 (by decide) ?_
  refine n_newp (tn := 0) rfl (by decide) rfl ra_int rfl rfl (by decide) rfl (by decide) (Nat.le_of_ble_eq_true rfl) (Nat.le_of_ble_eq_true rfl) q99 d_X0_init_7 (fun ω1 e1 => ?_)
  refine n_putF (k := 1) (j := 0) rfl x_c0 rfl (by decide) (by decide) q31 rfl rfl rfl rfl rfl d_X0_init_9 (fun ω2 e2 => ?_)
  refine n_aload_n 0 d_X0_init_12 rfl rfl ?_
  refine n_bipush (x := 8) d_X0_init_13 (by decide) ?_
  refine n_newp (tn := 0) rfl (by decide) rfl ra_int rfl rfl (by decide) rfl (by decide) (Nat.le_of_ble_eq_true rfl) (Nat.le_of_ble_eq_true rfl) q99 d_X0_init_15 (fun ω3 e3 => ?_)
  refine n_putF (k := 1) (j := 1) rfl x_c0 rfl (by decide) (by decide) q34 rfl rfl rfl rfl rfl d_X0_init_17 (fun ω4 e4 => ?_)
  refine n_aload_n 0 d_X0_init_20 rfl rfl ?_
  refine n_bipush (x := 8) d_X0_init_21 (by decide) ?_
  refine n_newp (tn := 0) rfl (by decide) rfl ra_int rfl rfl (by decide) rfl (by decide) (Nat.le_of_ble_eq_true rfl) (Nat.le_of_ble_eq_true rfl) q99 d_X0_init_23 (fun ω5 e5 => ?_)
  refine n_putF (k := 1) (j := 2) rfl x_c0 rfl (by decide) (by decide) q36 rfl rfl rfl rfl rfl d_X0_init_25 (fun ω6 e6 => ?_)
  refine n_aload_n 0 d_X0_init_28 rfl rfl ?_
  refine n_bipush (x := 8) d_X0_init_29 (by decide) ?_
  refine n_newp (tn := 0) rfl (by decide) rfl ra_int rfl rfl (by decide) rfl (by decide) (Nat.le_of_ble_eq_true rfl) (Nat.le_of_ble_eq_true rfl) q99 d_X0_init_31 (fun ω7 e7 => ?_)
  refine n_putF (k := 1) (j := 3) rfl x_c0 rfl (by decide) (by decide) q38 rfl rfl rfl rfl rfl d_X0_init_33 (fun ω8 e8 => ?_)
  refine n_aload_n 0 d_X0_init_36 rfl rfl ?_
  refine n_bipush (x := 10) d_X0_init_37 (by decide) ?_
  refine n_newp (tn := 0) rfl (by decide) rfl ra_int rfl rfl (by decide) rfl (by decide) (Nat.le_of_ble_eq_true rfl) (Nat.le_of_ble_eq_true rfl) q99 d_X0_init_39 (fun ω9 e9 => ?_)
  refine n_putF (k := 1) (j := 4) rfl x_c0 rfl (by decide) (by decide) q40 rfl rfl rfl rfl rfl d_X0_init_41 (fun ω10 e10 => ?_)
  refine n_aload_n 0 d_X0_init_44 rfl rfl ?_
  refine n_iconst (x := 0) d_X0_init_45 (by decide) ?_
  refine n_put (k := 1) (j := 5) x_c0 rfl (by decide) (by decide) q42 rfl rfl rfl rfl d_X0_init_46 (fun ω11 e11 => ?_)
  refine n_aload_n 0 d_X0_init_49 rfl rfl ?_
  refine n_iconst (x := 0) d_X0_init_50 (by decide) ?_
  refine n_put (k := 1) (j := 6) x_c0 rfl (by decide) (by decide) q45 rfl rfl rfl rfl d_X0_init_51 (fun ω12 e12 => ?_)
  refine n_aload_n 0 d_X0_init_54 rfl rfl ?_
  refine n_iconst (x := 0) d_X0_init_55 (by decide) ?_
  refine n_put (k := 1) (j := 7) x_c0 rfl (by decide) (by decide) q48 rfl rfl rfl rfl d_X0_init_56 (fun ω13 e13 => ?_)
  refine n_aload_n 0 d_X0_init_59 rfl rfl ?_
  refine n_iconst (x := 3) d_X0_init_60 (by decide) ?_
  refine n_put (k := 1) (j := 8) x_c0 rfl (by decide) (by decide) q51 rfl rfl rfl rfl d_X0_init_61 (fun ω14 e14 => ?_)
  refine n_aload_n 0 d_X0_init_64 rfl rfl ?_
  refine n_iconst (x := 5) d_X0_init_65 (by decide) ?_
  refine n_put (k := 1) (j := 9) x_c0 rfl (by decide) (by decide) q54 rfl rfl rfl rfl d_X0_init_66 (fun ω15 e15 => ?_)
  refine n_aload_n 0 d_X0_init_69 rfl rfl ?_
  refine n_iconst (x := 0) d_X0_init_70 (by decide) ?_
  refine n_put (k := 1) (j := 10) x_c0 rfl (by decide) (by decide) q57 rfl rfl rfl rfl d_X0_init_71 (fun ω16 e16 => ?_)
  refine n_aload_n 0 d_X0_init_74 rfl rfl ?_
  refine n_iconst (x := 0) d_X0_init_75 (by decide) ?_
  refine n_put (k := 1) (j := 11) x_c0 rfl (by decide) (by decide) q59 rfl rfl rfl rfl d_X0_init_76 (fun ω17 e17 => ?_)
  refine n_aload_n 0 d_X0_init_79 rfl rfl ?_
  refine n_iconst (x := 1) d_X0_init_80 (by decide) ?_
  refine n_put (k := 1) (j := 12) x_c0 rfl (by decide) (by decide) q61 rfl rfl rfl rfl d_X0_init_81 (fun ω18 e18 => ?_)
  refine n_aload_n 0 d_X0_init_84 rfl rfl ?_
  refine n_bipush (x := 8) d_X0_init_85 (by decide) ?_
  refine n_newp (tn := 0) rfl (by decide) rfl ra_int rfl rfl (by decide) rfl (by decide) (Nat.le_of_ble_eq_true rfl) (Nat.le_of_ble_eq_true rfl) q99 d_X0_init_87 (fun ω19 e19 => ?_)
  refine n_putF (k := 1) (j := 13) rfl x_c0 rfl (by decide) (by decide) q63 rfl rfl rfl rfl rfl d_X0_init_89 (fun ω20 e20 => ?_)
  refine n_aload_n 0 d_X0_init_92 rfl rfl ?_
  refine n_bipush (x := 18) d_X0_init_93 (by decide) ?_
  refine n_newp (tn := 0) rfl (by decide) rfl ra_int rfl rfl (by decide) rfl (by decide) (Nat.le_of_ble_eq_true rfl) (Nat.le_of_ble_eq_true rfl) q99 d_X0_init_95 (fun ω21 e21 => ?_)
  refine n_putF (k := 1) (j := 14) rfl x_c0 rfl (by decide) (by decide) q64 rfl rfl rfl rfl rfl d_X0_init_97 (fun ω22 e22 => ?_)
  refine n_aload_n 0 d_X0_init_100 rfl rfl ?_
  refine n_bipush (x := 18) d_X0_init_101 (by decide) ?_
  refine n_newp (tn := 0) rfl (by decide) rfl ra_int rfl rfl (by decide) rfl (by decide) (Nat.le_of_ble_eq_true rfl) (Nat.le_of_ble_eq_true rfl) q99 d_X0_init_103 (fun ω23 e23 => ?_)
  refine n_putF (k := 1) (j := 15) rfl x_c0 rfl (by decide) (by decide) q65 rfl rfl rfl rfl rfl d_X0_init_105 (fun ω24 e24 => ?_)
  refine n_aload_n 0 d_X0_init_108 rfl rfl ?_
  refine n_get (k := 1) (j := 0) (z := .ref (E.1 + 2)) x_c0 rfl (by decide) (by decide) q31 (by rw [e24, upV_o (by decide)]; rw [e23, upW_ne (by decide)]; rw [e22, upV_o (by decide)]; rw [e21, upW_ne (by decide)]; rw [e20, upV_o (by decide)]; rw [e19, upW_ne (by decide)]; rw [e18, upV_o (by decide)]; rw [e17, upV_o (by decide)]; rw [e16, upV_o (by decide)]; rw [e15, upV_o (by decide)]; rw [e14, upV_o (by decide)]; rw [e13, upV_o (by decide)]; rw [e12, upV_o (by decide)]; rw [e11, upV_o (by decide)]; rw [e10, upV_o (by decide)]; rw [e9, upW_ne (by decide)]; rw [e8, upV_o (by decide)]; rw [e7, upW_ne (by decide)]; rw [e6, upV_o (by decide)]; rw [e5, upW_ne (by decide)]; rw [e4, upV_o (by decide)]; rw [e3, upW_ne (by decide)]; rw [e2, upV_s]; try rfl) d_X0_init_109 ?_
  refine n_bipush (x := 50) d_X0_init_112 (by decide) ?_
  refine n_csv (as := [.ref (E.1 + 2), .int 50]) (n_fill l E ω24 (k := 2) (N := 16) (v := 50) (by decide) rfl rfl (by decide)) v_J_fill q29 q28 rfl ⟨Nat.le_of_ble_eq_true rfl, Nat.le_of_ble_eq_true rfl⟩ (Nat.le_of_ble_eq_true rfl) (Nat.le_of_ble_eq_true rfl) rfl (by decide) d_X0_init_114 ?_
  rintro ω25 _ ⟨rfl, f25, g25⟩
  refine n_aload_n 0 d_X0_init_117 rfl rfl ?_
  refine n_get (k := 1) (j := 4) (z := .ref (E.1 + 6)) x_c0 rfl (by decide) (by decide) q40 (by rw [g25 1 (by decide)]; rw [e24, upV_o (by decide)]; rw [e23, upW_ne (by decide)]; rw [e22, upV_o (by decide)]; rw [e21, upW_ne (by decide)]; rw [e20, upV_o (by decide)]; rw [e19, upW_ne (by decide)]; rw [e18, upV_o (by decide)]; rw [e17, upV_o (by decide)]; rw [e16, upV_o (by decide)]; rw [e15, upV_o (by decide)]; rw [e14, upV_o (by decide)]; rw [e13, upV_o (by decide)]; rw [e12, upV_o (by decide)]; rw [e11, upV_o (by decide)]; rw [e10, upV_s]; try rfl) d_X0_init_118 ?_
  refine n_iconst (x := (-1)) d_X0_init_121 (by decide) ?_
  refine n_csv (as := [.ref (E.1 + 6), .int (-1)]) (n_fill l E ω25 (k := 6) (N := 10) (v := (-1)) (by decide) rfl rfl (by decide)) v_J_fill q29 q28 rfl ⟨Nat.le_of_ble_eq_true rfl, Nat.le_of_ble_eq_true rfl⟩ (Nat.le_of_ble_eq_true rfl) (Nat.le_of_ble_eq_true rfl) rfl (by decide) d_X0_init_122 ?_
  rintro ω26 _ ⟨rfl, f26, g26⟩
  refine n_ret rfl d_X0_init_125 ?_
  refine ⟨rfl, fun c h1 h2 => ?_, fun c h => ?_⟩
  · obtain rfl | rfl | rfl | rfl | rfl | rfl | rfl | rfl | rfl : c = 1 ∨ c = 2 ∨ c = 3 ∨ c = 4 ∨ c = 5 ∨ c = 6 ∨ c = 7 ∨ c = 8 ∨ c = 9 := by omega
    · intro j hj
      have hj : j < 16 := hj
      rcases Nat.eq_or_lt_of_le (show j ≤ 15 by omega) with hq | hq
      · subst hq; rw [g26 1 (by decide)]; rw [g25 1 (by decide)]; rw [e24, upV_s]; try rfl
      replace hj : j < 15 := hq
      rcases Nat.eq_or_lt_of_le (show j ≤ 14 by omega) with hq | hq
      · subst hq; rw [g26 1 (by decide)]; rw [g25 1 (by decide)]; rw [e24, upV_o (by decide)]; rw [e23, upW_ne (by decide)]; rw [e22, upV_s]; try rfl
      replace hj : j < 14 := hq
      rcases Nat.eq_or_lt_of_le (show j ≤ 13 by omega) with hq | hq
      · subst hq; rw [g26 1 (by decide)]; rw [g25 1 (by decide)]; rw [e24, upV_o (by decide)]; rw [e23, upW_ne (by decide)]; rw [e22, upV_o (by decide)]; rw [e21, upW_ne (by decide)]; rw [e20, upV_s]; try rfl
      replace hj : j < 13 := hq
      rcases Nat.eq_or_lt_of_le (show j ≤ 12 by omega) with hq | hq
      · subst hq; rw [g26 1 (by decide)]; rw [g25 1 (by decide)]; rw [e24, upV_o (by decide)]; rw [e23, upW_ne (by decide)]; rw [e22, upV_o (by decide)]; rw [e21, upW_ne (by decide)]; rw [e20, upV_o (by decide)]; rw [e19, upW_ne (by decide)]; rw [e18, upV_s]; try rfl
      replace hj : j < 12 := hq
      rcases Nat.eq_or_lt_of_le (show j ≤ 11 by omega) with hq | hq
      · subst hq; rw [g26 1 (by decide)]; rw [g25 1 (by decide)]; rw [e24, upV_o (by decide)]; rw [e23, upW_ne (by decide)]; rw [e22, upV_o (by decide)]; rw [e21, upW_ne (by decide)]; rw [e20, upV_o (by decide)]; rw [e19, upW_ne (by decide)]; rw [e18, upV_o (by decide)]; rw [e17, upV_s]; try rfl
      replace hj : j < 11 := hq
      rcases Nat.eq_or_lt_of_le (show j ≤ 10 by omega) with hq | hq
      · subst hq; rw [g26 1 (by decide)]; rw [g25 1 (by decide)]; rw [e24, upV_o (by decide)]; rw [e23, upW_ne (by decide)]; rw [e22, upV_o (by decide)]; rw [e21, upW_ne (by decide)]; rw [e20, upV_o (by decide)]; rw [e19, upW_ne (by decide)]; rw [e18, upV_o (by decide)]; rw [e17, upV_o (by decide)]; rw [e16, upV_s]; try rfl
      replace hj : j < 10 := hq
      rcases Nat.eq_or_lt_of_le (show j ≤ 9 by omega) with hq | hq
      · subst hq; rw [g26 1 (by decide)]; rw [g25 1 (by decide)]; rw [e24, upV_o (by decide)]; rw [e23, upW_ne (by decide)]; rw [e22, upV_o (by decide)]; rw [e21, upW_ne (by decide)]; rw [e20, upV_o (by decide)]; rw [e19, upW_ne (by decide)]; rw [e18, upV_o (by decide)]; rw [e17, upV_o (by decide)]; rw [e16, upV_o (by decide)]; rw [e15, upV_s]; try rfl
      replace hj : j < 9 := hq
      rcases Nat.eq_or_lt_of_le (show j ≤ 8 by omega) with hq | hq
      · subst hq; rw [g26 1 (by decide)]; rw [g25 1 (by decide)]; rw [e24, upV_o (by decide)]; rw [e23, upW_ne (by decide)]; rw [e22, upV_o (by decide)]; rw [e21, upW_ne (by decide)]; rw [e20, upV_o (by decide)]; rw [e19, upW_ne (by decide)]; rw [e18, upV_o (by decide)]; rw [e17, upV_o (by decide)]; rw [e16, upV_o (by decide)]; rw [e15, upV_o (by decide)]; rw [e14, upV_s]; try rfl
      replace hj : j < 8 := hq
      rcases Nat.eq_or_lt_of_le (show j ≤ 7 by omega) with hq | hq
      · subst hq; rw [g26 1 (by decide)]; rw [g25 1 (by decide)]; rw [e24, upV_o (by decide)]; rw [e23, upW_ne (by decide)]; rw [e22, upV_o (by decide)]; rw [e21, upW_ne (by decide)]; rw [e20, upV_o (by decide)]; rw [e19, upW_ne (by decide)]; rw [e18, upV_o (by decide)]; rw [e17, upV_o (by decide)]; rw [e16, upV_o (by decide)]; rw [e15, upV_o (by decide)]; rw [e14, upV_o (by decide)]; rw [e13, upV_s]; try rfl
      replace hj : j < 7 := hq
      rcases Nat.eq_or_lt_of_le (show j ≤ 6 by omega) with hq | hq
      · subst hq; rw [g26 1 (by decide)]; rw [g25 1 (by decide)]; rw [e24, upV_o (by decide)]; rw [e23, upW_ne (by decide)]; rw [e22, upV_o (by decide)]; rw [e21, upW_ne (by decide)]; rw [e20, upV_o (by decide)]; rw [e19, upW_ne (by decide)]; rw [e18, upV_o (by decide)]; rw [e17, upV_o (by decide)]; rw [e16, upV_o (by decide)]; rw [e15, upV_o (by decide)]; rw [e14, upV_o (by decide)]; rw [e13, upV_o (by decide)]; rw [e12, upV_s]; try rfl
      replace hj : j < 6 := hq
      rcases Nat.eq_or_lt_of_le (show j ≤ 5 by omega) with hq | hq
      · subst hq; rw [g26 1 (by decide)]; rw [g25 1 (by decide)]; rw [e24, upV_o (by decide)]; rw [e23, upW_ne (by decide)]; rw [e22, upV_o (by decide)]; rw [e21, upW_ne (by decide)]; rw [e20, upV_o (by decide)]; rw [e19, upW_ne (by decide)]; rw [e18, upV_o (by decide)]; rw [e17, upV_o (by decide)]; rw [e16, upV_o (by decide)]; rw [e15, upV_o (by decide)]; rw [e14, upV_o (by decide)]; rw [e13, upV_o (by decide)]; rw [e12, upV_o (by decide)]; rw [e11, upV_s]; try rfl
      replace hj : j < 5 := hq
      rcases Nat.eq_or_lt_of_le (show j ≤ 4 by omega) with hq | hq
      · subst hq; rw [g26 1 (by decide)]; rw [g25 1 (by decide)]; rw [e24, upV_o (by decide)]; rw [e23, upW_ne (by decide)]; rw [e22, upV_o (by decide)]; rw [e21, upW_ne (by decide)]; rw [e20, upV_o (by decide)]; rw [e19, upW_ne (by decide)]; rw [e18, upV_o (by decide)]; rw [e17, upV_o (by decide)]; rw [e16, upV_o (by decide)]; rw [e15, upV_o (by decide)]; rw [e14, upV_o (by decide)]; rw [e13, upV_o (by decide)]; rw [e12, upV_o (by decide)]; rw [e11, upV_o (by decide)]; rw [e10, upV_s]; try rfl
      replace hj : j < 4 := hq
      rcases Nat.eq_or_lt_of_le (show j ≤ 3 by omega) with hq | hq
      · subst hq; rw [g26 1 (by decide)]; rw [g25 1 (by decide)]; rw [e24, upV_o (by decide)]; rw [e23, upW_ne (by decide)]; rw [e22, upV_o (by decide)]; rw [e21, upW_ne (by decide)]; rw [e20, upV_o (by decide)]; rw [e19, upW_ne (by decide)]; rw [e18, upV_o (by decide)]; rw [e17, upV_o (by decide)]; rw [e16, upV_o (by decide)]; rw [e15, upV_o (by decide)]; rw [e14, upV_o (by decide)]; rw [e13, upV_o (by decide)]; rw [e12, upV_o (by decide)]; rw [e11, upV_o (by decide)]; rw [e10, upV_o (by decide)]; rw [e9, upW_ne (by decide)]; rw [e8, upV_s]; try rfl
      replace hj : j < 3 := hq
      rcases Nat.eq_or_lt_of_le (show j ≤ 2 by omega) with hq | hq
      · subst hq; rw [g26 1 (by decide)]; rw [g25 1 (by decide)]; rw [e24, upV_o (by decide)]; rw [e23, upW_ne (by decide)]; rw [e22, upV_o (by decide)]; rw [e21, upW_ne (by decide)]; rw [e20, upV_o (by decide)]; rw [e19, upW_ne (by decide)]; rw [e18, upV_o (by decide)]; rw [e17, upV_o (by decide)]; rw [e16, upV_o (by decide)]; rw [e15, upV_o (by decide)]; rw [e14, upV_o (by decide)]; rw [e13, upV_o (by decide)]; rw [e12, upV_o (by decide)]; rw [e11, upV_o (by decide)]; rw [e10, upV_o (by decide)]; rw [e9, upW_ne (by decide)]; rw [e8, upV_o (by decide)]; rw [e7, upW_ne (by decide)]; rw [e6, upV_s]; try rfl
      replace hj : j < 2 := hq
      rcases Nat.eq_or_lt_of_le (show j ≤ 1 by omega) with hq | hq
      · subst hq; rw [g26 1 (by decide)]; rw [g25 1 (by decide)]; rw [e24, upV_o (by decide)]; rw [e23, upW_ne (by decide)]; rw [e22, upV_o (by decide)]; rw [e21, upW_ne (by decide)]; rw [e20, upV_o (by decide)]; rw [e19, upW_ne (by decide)]; rw [e18, upV_o (by decide)]; rw [e17, upV_o (by decide)]; rw [e16, upV_o (by decide)]; rw [e15, upV_o (by decide)]; rw [e14, upV_o (by decide)]; rw [e13, upV_o (by decide)]; rw [e12, upV_o (by decide)]; rw [e11, upV_o (by decide)]; rw [e10, upV_o (by decide)]; rw [e9, upW_ne (by decide)]; rw [e8, upV_o (by decide)]; rw [e7, upW_ne (by decide)]; rw [e6, upV_o (by decide)]; rw [e5, upW_ne (by decide)]; rw [e4, upV_s]; try rfl
      replace hj : j < 1 := hq
      obtain rfl : j = 0 := by omega
      rw [g26 1 (by decide)]
      rw [g25 1 (by decide)]
      rw [e24, upV_o (by decide)]
      rw [e23, upW_ne (by decide)]
      rw [e22, upV_o (by decide)]
      rw [e21, upW_ne (by decide)]
      rw [e20, upV_o (by decide)]
      rw [e19, upW_ne (by decide)]
      rw [e18, upV_o (by decide)]
      rw [e17, upV_o (by decide)]
      rw [e16, upV_o (by decide)]
      rw [e15, upV_o (by decide)]
      rw [e14, upV_o (by decide)]
      rw [e13, upV_o (by decide)]
      rw [e12, upV_o (by decide)]
      rw [e11, upV_o (by decide)]
      rw [e10, upV_o (by decide)]
      rw [e9, upW_ne (by decide)]
      rw [e8, upV_o (by decide)]
      rw [e7, upW_ne (by decide)]
      rw [e6, upV_o (by decide)]
      rw [e5, upW_ne (by decide)]
      rw [e4, upV_o (by decide)]
      rw [e3, upW_ne (by decide)]
      rw [e2, upV_s]
      try rfl
    · intro j hj
      rw [g26 2 (by decide)]
      refine (f25 j hj).trans ?_
      try rfl
    · intro j hj
      rw [g26 3 (by decide)]
      rw [g25 3 (by decide)]
      rw [e24, upV_ne (by decide)]
      rw [e23, upW_ne (by decide)]
      rw [e22, upV_ne (by decide)]
      rw [e21, upW_ne (by decide)]
      rw [e20, upV_ne (by decide)]
      rw [e19, upW_ne (by decide)]
      rw [e18, upV_ne (by decide)]
      rw [e17, upV_ne (by decide)]
      rw [e16, upV_ne (by decide)]
      rw [e15, upV_ne (by decide)]
      rw [e14, upV_ne (by decide)]
      rw [e13, upV_ne (by decide)]
      rw [e12, upV_ne (by decide)]
      rw [e11, upV_ne (by decide)]
      rw [e10, upV_ne (by decide)]
      rw [e9, upW_ne (by decide)]
      rw [e8, upV_ne (by decide)]
      rw [e7, upW_ne (by decide)]
      rw [e6, upV_ne (by decide)]
      rw [e5, upW_ne (by decide)]
      rw [e4, upV_ne (by decide)]
      rw [e3, upW_s]
      try rfl
    · intro j hj
      rw [g26 4 (by decide)]
      rw [g25 4 (by decide)]
      rw [e24, upV_ne (by decide)]
      rw [e23, upW_ne (by decide)]
      rw [e22, upV_ne (by decide)]
      rw [e21, upW_ne (by decide)]
      rw [e20, upV_ne (by decide)]
      rw [e19, upW_ne (by decide)]
      rw [e18, upV_ne (by decide)]
      rw [e17, upV_ne (by decide)]
      rw [e16, upV_ne (by decide)]
      rw [e15, upV_ne (by decide)]
      rw [e14, upV_ne (by decide)]
      rw [e13, upV_ne (by decide)]
      rw [e12, upV_ne (by decide)]
      rw [e11, upV_ne (by decide)]
      rw [e10, upV_ne (by decide)]
      rw [e9, upW_ne (by decide)]
      rw [e8, upV_ne (by decide)]
      rw [e7, upW_ne (by decide)]
      rw [e6, upV_ne (by decide)]
      rw [e5, upW_s]
      try rfl
    · intro j hj
      rw [g26 5 (by decide)]
      rw [g25 5 (by decide)]
      rw [e24, upV_ne (by decide)]
      rw [e23, upW_ne (by decide)]
      rw [e22, upV_ne (by decide)]
      rw [e21, upW_ne (by decide)]
      rw [e20, upV_ne (by decide)]
      rw [e19, upW_ne (by decide)]
      rw [e18, upV_ne (by decide)]
      rw [e17, upV_ne (by decide)]
      rw [e16, upV_ne (by decide)]
      rw [e15, upV_ne (by decide)]
      rw [e14, upV_ne (by decide)]
      rw [e13, upV_ne (by decide)]
      rw [e12, upV_ne (by decide)]
      rw [e11, upV_ne (by decide)]
      rw [e10, upV_ne (by decide)]
      rw [e9, upW_ne (by decide)]
      rw [e8, upV_ne (by decide)]
      rw [e7, upW_s]
      try rfl
    · intro j hj
      refine (f26 j hj).trans ?_
      try rfl
    · intro j hj
      rw [g26 7 (by decide)]
      rw [g25 7 (by decide)]
      rw [e24, upV_ne (by decide)]
      rw [e23, upW_ne (by decide)]
      rw [e22, upV_ne (by decide)]
      rw [e21, upW_ne (by decide)]
      rw [e20, upV_ne (by decide)]
      rw [e19, upW_s]
      try rfl
    · intro j hj
      rw [g26 8 (by decide)]
      rw [g25 8 (by decide)]
      rw [e24, upV_ne (by decide)]
      rw [e23, upW_ne (by decide)]
      rw [e22, upV_ne (by decide)]
      rw [e21, upW_s]
      try rfl
    · intro j hj
      rw [g26 9 (by decide)]
      rw [g25 9 (by decide)]
      rw [e24, upV_ne (by decide)]
      rw [e23, upW_s]
      try rfl
  · skip
    rw [g26 c (by omega)]
    rw [g25 c (by omega)]
    rw [e24, upV_ne (by omega)]
    rw [e23, upW_ne (by omega)]
    rw [e22, upV_ne (by omega)]
    rw [e21, upW_ne (by omega)]
    rw [e20, upV_ne (by omega)]
    rw [e19, upW_ne (by omega)]
    rw [e18, upV_ne (by omega)]
    rw [e17, upV_ne (by omega)]
    rw [e16, upV_ne (by omega)]
    rw [e15, upV_ne (by omega)]
    rw [e14, upV_ne (by omega)]
    rw [e13, upV_ne (by omega)]
    rw [e12, upV_ne (by omega)]
    rw [e11, upV_ne (by omega)]
    rw [e10, upV_ne (by omega)]
    rw [e9, upW_ne (by omega)]
    rw [e8, upV_ne (by omega)]
    rw [e7, upW_ne (by omega)]
    rw [e6, upV_ne (by omega)]
    rw [e5, upW_ne (by omega)]
    rw [e4, upV_ne (by omega)]
    rw [e3, upW_ne (by omega)]
    rw [e2, upV_ne (by omega)]
    rw [e1, upW_ne (by omega)]
set_option maxHeartbeats 4000000 in
set_option maxRecDepth 100000 in
theorem n_X0_init_10 (l : Launch) (E : x_E) (ω : x_Om) : x_NM l m_X0_init E [.ref (E.1 + 10)] ω 11 (fun ω' n' => n' = 19 ∧ (∀ c, 10 ≤ c → c < 19 → okC E ω' c) ∧ ∀ c, c < 10 → ω' c = ω c) 8 94 := by
  refine n_enter (lv := [(0, .ref (E.1 + 10))]) true (fun _ => rfl) (by decide +kernel) (Nat.le_of_ble_eq_true rfl) rfl ?_
  refine n_aload_n 0 d_X0_init_0 rfl rfl ?_
  refine n_obj q27 (Nat.le_of_ble_eq_true rfl) (Nat.le_of_ble_eq_true rfl) d_X0_init_1 ?_
  refine n_aload_n 0 d_X0_init_4 rfl rfl ?_
  refine n_bipush (x := 16) d_X0_init_5 (by decide) ?_
  refine n_newp (tn := 0) rfl (by decide) rfl ra_int rfl rfl (by decide) rfl (by decide) (Nat.le_of_ble_eq_true rfl) (Nat.le_of_ble_eq_true rfl) q99 d_X0_init_7 (fun ω1 e1 => ?_)
  refine n_putF (k := 10) (j := 0) rfl x_c0 rfl (by decide) (by decide) q31 rfl rfl rfl rfl rfl d_X0_init_9 (fun ω2 e2 => ?_)
  refine n_aload_n 0 d_X0_init_12 rfl rfl ?_
  refine n_bipush (x := 8) d_X0_init_13 (by decide) ?_
  refine n_newp (tn := 0) rfl (by decide) rfl ra_int rfl rfl (by decide) rfl (by decide) (Nat.le_of_ble_eq_true rfl) (Nat.le_of_ble_eq_true rfl) q99 d_X0_init_15 (fun ω3 e3 => ?_)
  refine n_putF (k := 10) (j := 1) rfl x_c0 rfl (by decide) (by decide) q34 rfl rfl rfl rfl rfl d_X0_init_17 (fun ω4 e4 => ?_)
  refine n_aload_n 0 d_X0_init_20 rfl rfl ?_
  refine n_bipush (x := 8) d_X0_init_21 (by decide) ?_
  refine n_newp (tn := 0) rfl (by decide) rfl ra_int rfl rfl (by decide) rfl (by decide) (Nat.le_of_ble_eq_true rfl) (Nat.le_of_ble_eq_true rfl) q99 d_X0_init_23 (fun ω5 e5 => ?_)
  refine n_putF (k := 10) (j := 2) rfl x_c0 rfl (by decide) (by decide) q36 rfl rfl rfl rfl rfl d_X0_init_25 (fun ω6 e6 => ?_)
  refine n_aload_n 0 d_X0_init_28 rfl rfl ?_
  refine n_bipush (x := 8) d_X0_init_29 (by decide) ?_
  refine n_newp (tn := 0) rfl (by decide) rfl ra_int rfl rfl (by decide) rfl (by decide) (Nat.le_of_ble_eq_true rfl) (Nat.le_of_ble_eq_true rfl) q99 d_X0_init_31 (fun ω7 e7 => ?_)
  refine n_putF (k := 10) (j := 3) rfl x_c0 rfl (by decide) (by decide) q38 rfl rfl rfl rfl rfl d_X0_init_33 (fun ω8 e8 => ?_)
  refine n_aload_n 0 d_X0_init_36 rfl rfl ?_
  refine n_bipush (x := 10) d_X0_init_37 (by decide) ?_
  refine n_newp (tn := 0) rfl (by decide) rfl ra_int rfl rfl (by decide) rfl (by decide) (Nat.le_of_ble_eq_true rfl) (Nat.le_of_ble_eq_true rfl) q99 d_X0_init_39 (fun ω9 e9 => ?_)
  refine n_putF (k := 10) (j := 4) rfl x_c0 rfl (by decide) (by decide) q40 rfl rfl rfl rfl rfl d_X0_init_41 (fun ω10 e10 => ?_)
  refine n_aload_n 0 d_X0_init_44 rfl rfl ?_
  refine n_iconst (x := 0) d_X0_init_45 (by decide) ?_
  refine n_put (k := 10) (j := 5) x_c0 rfl (by decide) (by decide) q42 rfl rfl rfl rfl d_X0_init_46 (fun ω11 e11 => ?_)
  refine n_aload_n 0 d_X0_init_49 rfl rfl ?_
  refine n_iconst (x := 0) d_X0_init_50 (by decide) ?_
  refine n_put (k := 10) (j := 6) x_c0 rfl (by decide) (by decide) q45 rfl rfl rfl rfl d_X0_init_51 (fun ω12 e12 => ?_)
  refine n_aload_n 0 d_X0_init_54 rfl rfl ?_
  refine n_iconst (x := 0) d_X0_init_55 (by decide) ?_
  refine n_put (k := 10) (j := 7) x_c0 rfl (by decide) (by decide) q48 rfl rfl rfl rfl d_X0_init_56 (fun ω13 e13 => ?_)
  refine n_aload_n 0 d_X0_init_59 rfl rfl ?_
  refine n_iconst (x := 3) d_X0_init_60 (by decide) ?_
  refine n_put (k := 10) (j := 8) x_c0 rfl (by decide) (by decide) q51 rfl rfl rfl rfl d_X0_init_61 (fun ω14 e14 => ?_)
  refine n_aload_n 0 d_X0_init_64 rfl rfl ?_
  refine n_iconst (x := 5) d_X0_init_65 (by decide) ?_
  refine n_put (k := 10) (j := 9) x_c0 rfl (by decide) (by decide) q54 rfl rfl rfl rfl d_X0_init_66 (fun ω15 e15 => ?_)
  refine n_aload_n 0 d_X0_init_69 rfl rfl ?_
  refine n_iconst (x := 0) d_X0_init_70 (by decide) ?_
  refine n_put (k := 10) (j := 10) x_c0 rfl (by decide) (by decide) q57 rfl rfl rfl rfl d_X0_init_71 (fun ω16 e16 => ?_)
  refine n_aload_n 0 d_X0_init_74 rfl rfl ?_
  refine n_iconst (x := 0) d_X0_init_75 (by decide) ?_
  refine n_put (k := 10) (j := 11) x_c0 rfl (by decide) (by decide) q59 rfl rfl rfl rfl d_X0_init_76 (fun ω17 e17 => ?_)
  refine n_aload_n 0 d_X0_init_79 rfl rfl ?_
  refine n_iconst (x := 1) d_X0_init_80 (by decide) ?_
  refine n_put (k := 10) (j := 12) x_c0 rfl (by decide) (by decide) q61 rfl rfl rfl rfl d_X0_init_81 (fun ω18 e18 => ?_)
  refine n_aload_n 0 d_X0_init_84 rfl rfl ?_
  refine n_bipush (x := 8) d_X0_init_85 (by decide) ?_
  refine n_newp (tn := 0) rfl (by decide) rfl ra_int rfl rfl (by decide) rfl (by decide) (Nat.le_of_ble_eq_true rfl) (Nat.le_of_ble_eq_true rfl) q99 d_X0_init_87 (fun ω19 e19 => ?_)
  refine n_putF (k := 10) (j := 13) rfl x_c0 rfl (by decide) (by decide) q63 rfl rfl rfl rfl rfl d_X0_init_89 (fun ω20 e20 => ?_)
  refine n_aload_n 0 d_X0_init_92 rfl rfl ?_
  refine n_bipush (x := 18) d_X0_init_93 (by decide) ?_
  refine n_newp (tn := 0) rfl (by decide) rfl ra_int rfl rfl (by decide) rfl (by decide) (Nat.le_of_ble_eq_true rfl) (Nat.le_of_ble_eq_true rfl) q99 d_X0_init_95 (fun ω21 e21 => ?_)
  refine n_putF (k := 10) (j := 14) rfl x_c0 rfl (by decide) (by decide) q64 rfl rfl rfl rfl rfl d_X0_init_97 (fun ω22 e22 => ?_)
  refine n_aload_n 0 d_X0_init_100 rfl rfl ?_
  refine n_bipush (x := 18) d_X0_init_101 (by decide) ?_
  refine n_newp (tn := 0) rfl (by decide) rfl ra_int rfl rfl (by decide) rfl (by decide) (Nat.le_of_ble_eq_true rfl) (Nat.le_of_ble_eq_true rfl) q99 d_X0_init_103 (fun ω23 e23 => ?_)
  refine n_putF (k := 10) (j := 15) rfl x_c0 rfl (by decide) (by decide) q65 rfl rfl rfl rfl rfl d_X0_init_105 (fun ω24 e24 => ?_)
  refine n_aload_n 0 d_X0_init_108 rfl rfl ?_
  refine n_get (k := 10) (j := 0) (z := .ref (E.1 + 11)) x_c0 rfl (by decide) (by decide) q31 (by rw [e24, upV_o (by decide)]; rw [e23, upW_ne (by decide)]; rw [e22, upV_o (by decide)]; rw [e21, upW_ne (by decide)]; rw [e20, upV_o (by decide)]; rw [e19, upW_ne (by decide)]; rw [e18, upV_o (by decide)]; rw [e17, upV_o (by decide)]; rw [e16, upV_o (by decide)]; rw [e15, upV_o (by decide)]; rw [e14, upV_o (by decide)]; rw [e13, upV_o (by decide)]; rw [e12, upV_o (by decide)]; rw [e11, upV_o (by decide)]; rw [e10, upV_o (by decide)]; rw [e9, upW_ne (by decide)]; rw [e8, upV_o (by decide)]; rw [e7, upW_ne (by decide)]; rw [e6, upV_o (by decide)]; rw [e5, upW_ne (by decide)]; rw [e4, upV_o (by decide)]; rw [e3, upW_ne (by decide)]; rw [e2, upV_s]; try rfl) d_X0_init_109 ?_
  refine n_bipush (x := 50) d_X0_init_112 (by decide) ?_
  refine n_csv (as := [.ref (E.1 + 11), .int 50]) (n_fill l E ω24 (k := 11) (N := 16) (v := 50) (by decide) rfl rfl (by decide)) v_J_fill q29 q28 rfl ⟨Nat.le_of_ble_eq_true rfl, Nat.le_of_ble_eq_true rfl⟩ (Nat.le_of_ble_eq_true rfl) (Nat.le_of_ble_eq_true rfl) rfl (by decide) d_X0_init_114 ?_
  rintro ω25 _ ⟨rfl, f25, g25⟩
  refine n_aload_n 0 d_X0_init_117 rfl rfl ?_
  refine n_get (k := 10) (j := 4) (z := .ref (E.1 + 15)) x_c0 rfl (by decide) (by decide) q40 (by rw [g25 10 (by decide)]; rw [e24, upV_o (by decide)]; rw [e23, upW_ne (by decide)]; rw [e22, upV_o (by decide)]; rw [e21, upW_ne (by decide)]; rw [e20, upV_o (by decide)]; rw [e19, upW_ne (by decide)]; rw [e18, upV_o (by decide)]; rw [e17, upV_o (by decide)]; rw [e16, upV_o (by decide)]; rw [e15, upV_o (by decide)]; rw [e14, upV_o (by decide)]; rw [e13, upV_o (by decide)]; rw [e12, upV_o (by decide)]; rw [e11, upV_o (by decide)]; rw [e10, upV_s]; try rfl) d_X0_init_118 ?_
  refine n_iconst (x := (-1)) d_X0_init_121 (by decide) ?_
  refine n_csv (as := [.ref (E.1 + 15), .int (-1)]) (n_fill l E ω25 (k := 15) (N := 10) (v := (-1)) (by decide) rfl rfl (by decide)) v_J_fill q29 q28 rfl ⟨Nat.le_of_ble_eq_true rfl, Nat.le_of_ble_eq_true rfl⟩ (Nat.le_of_ble_eq_true rfl) (Nat.le_of_ble_eq_true rfl) rfl (by decide) d_X0_init_122 ?_
  rintro ω26 _ ⟨rfl, f26, g26⟩
  refine n_ret rfl d_X0_init_125 ?_
  refine ⟨rfl, fun c h1 h2 => ?_, fun c h => ?_⟩
  · obtain rfl | rfl | rfl | rfl | rfl | rfl | rfl | rfl | rfl : c = 10 ∨ c = 11 ∨ c = 12 ∨ c = 13 ∨ c = 14 ∨ c = 15 ∨ c = 16 ∨ c = 17 ∨ c = 18 := by omega
    · intro j hj
      have hj : j < 16 := hj
      rcases Nat.eq_or_lt_of_le (show j ≤ 15 by omega) with hq | hq
      · subst hq; rw [g26 10 (by decide)]; rw [g25 10 (by decide)]; rw [e24, upV_s]; try rfl
      replace hj : j < 15 := hq
      rcases Nat.eq_or_lt_of_le (show j ≤ 14 by omega) with hq | hq
      · subst hq; rw [g26 10 (by decide)]; rw [g25 10 (by decide)]; rw [e24, upV_o (by decide)]; rw [e23, upW_ne (by decide)]; rw [e22, upV_s]; try rfl
      replace hj : j < 14 := hq
      rcases Nat.eq_or_lt_of_le (show j ≤ 13 by omega) with hq | hq
      · subst hq; rw [g26 10 (by decide)]; rw [g25 10 (by decide)]; rw [e24, upV_o (by decide)]; rw [e23, upW_ne (by decide)]; rw [e22, upV_o (by decide)]; rw [e21, upW_ne (by decide)]; rw [e20, upV_s]; try rfl
      replace hj : j < 13 := hq
      rcases Nat.eq_or_lt_of_le (show j ≤ 12 by omega) with hq | hq
      · subst hq; rw [g26 10 (by decide)]; rw [g25 10 (by decide)]; rw [e24, upV_o (by decide)]; rw [e23, upW_ne (by decide)]; rw [e22, upV_o (by decide)]; rw [e21, upW_ne (by decide)]; rw [e20, upV_o (by decide)]; rw [e19, upW_ne (by decide)]; rw [e18, upV_s]; try rfl
      replace hj : j < 12 := hq
      rcases Nat.eq_or_lt_of_le (show j ≤ 11 by omega) with hq | hq
      · subst hq; rw [g26 10 (by decide)]; rw [g25 10 (by decide)]; rw [e24, upV_o (by decide)]; rw [e23, upW_ne (by decide)]; rw [e22, upV_o (by decide)]; rw [e21, upW_ne (by decide)]; rw [e20, upV_o (by decide)]; rw [e19, upW_ne (by decide)]; rw [e18, upV_o (by decide)]; rw [e17, upV_s]; try rfl
      replace hj : j < 11 := hq
      rcases Nat.eq_or_lt_of_le (show j ≤ 10 by omega) with hq | hq
      · subst hq; rw [g26 10 (by decide)]; rw [g25 10 (by decide)]; rw [e24, upV_o (by decide)]; rw [e23, upW_ne (by decide)]; rw [e22, upV_o (by decide)]; rw [e21, upW_ne (by decide)]; rw [e20, upV_o (by decide)]; rw [e19, upW_ne (by decide)]; rw [e18, upV_o (by decide)]; rw [e17, upV_o (by decide)]; rw [e16, upV_s]; try rfl
      replace hj : j < 10 := hq
      rcases Nat.eq_or_lt_of_le (show j ≤ 9 by omega) with hq | hq
      · subst hq; rw [g26 10 (by decide)]; rw [g25 10 (by decide)]; rw [e24, upV_o (by decide)]; rw [e23, upW_ne (by decide)]; rw [e22, upV_o (by decide)]; rw [e21, upW_ne (by decide)]; rw [e20, upV_o (by decide)]; rw [e19, upW_ne (by decide)]; rw [e18, upV_o (by decide)]; rw [e17, upV_o (by decide)]; rw [e16, upV_o (by decide)]; rw [e15, upV_s]; try rfl
      replace hj : j < 9 := hq
      rcases Nat.eq_or_lt_of_le (show j ≤ 8 by omega) with hq | hq
      · subst hq; rw [g26 10 (by decide)]; rw [g25 10 (by decide)]; rw [e24, upV_o (by decide)]; rw [e23, upW_ne (by decide)]; rw [e22, upV_o (by decide)]; rw [e21, upW_ne (by decide)]; rw [e20, upV_o (by decide)]; rw [e19, upW_ne (by decide)]; rw [e18, upV_o (by decide)]; rw [e17, upV_o (by decide)]; rw [e16, upV_o (by decide)]; rw [e15, upV_o (by decide)]; rw [e14, upV_s]; try rfl
      replace hj : j < 8 := hq
      rcases Nat.eq_or_lt_of_le (show j ≤ 7 by omega) with hq | hq
      · subst hq; rw [g26 10 (by decide)]; rw [g25 10 (by decide)]; rw [e24, upV_o (by decide)]; rw [e23, upW_ne (by decide)]; rw [e22, upV_o (by decide)]; rw [e21, upW_ne (by decide)]; rw [e20, upV_o (by decide)]; rw [e19, upW_ne (by decide)]; rw [e18, upV_o (by decide)]; rw [e17, upV_o (by decide)]; rw [e16, upV_o (by decide)]; rw [e15, upV_o (by decide)]; rw [e14, upV_o (by decide)]; rw [e13, upV_s]; try rfl
      replace hj : j < 7 := hq
      rcases Nat.eq_or_lt_of_le (show j ≤ 6 by omega) with hq | hq
      · subst hq; rw [g26 10 (by decide)]; rw [g25 10 (by decide)]; rw [e24, upV_o (by decide)]; rw [e23, upW_ne (by decide)]; rw [e22, upV_o (by decide)]; rw [e21, upW_ne (by decide)]; rw [e20, upV_o (by decide)]; rw [e19, upW_ne (by decide)]; rw [e18, upV_o (by decide)]; rw [e17, upV_o (by decide)]; rw [e16, upV_o (by decide)]; rw [e15, upV_o (by decide)]; rw [e14, upV_o (by decide)]; rw [e13, upV_o (by decide)]; rw [e12, upV_s]; try rfl
      replace hj : j < 6 := hq
      rcases Nat.eq_or_lt_of_le (show j ≤ 5 by omega) with hq | hq
      · subst hq; rw [g26 10 (by decide)]; rw [g25 10 (by decide)]; rw [e24, upV_o (by decide)]; rw [e23, upW_ne (by decide)]; rw [e22, upV_o (by decide)]; rw [e21, upW_ne (by decide)]; rw [e20, upV_o (by decide)]; rw [e19, upW_ne (by decide)]; rw [e18, upV_o (by decide)]; rw [e17, upV_o (by decide)]; rw [e16, upV_o (by decide)]; rw [e15, upV_o (by decide)]; rw [e14, upV_o (by decide)]; rw [e13, upV_o (by decide)]; rw [e12, upV_o (by decide)]; rw [e11, upV_s]; try rfl
      replace hj : j < 5 := hq
      rcases Nat.eq_or_lt_of_le (show j ≤ 4 by omega) with hq | hq
      · subst hq; rw [g26 10 (by decide)]; rw [g25 10 (by decide)]; rw [e24, upV_o (by decide)]; rw [e23, upW_ne (by decide)]; rw [e22, upV_o (by decide)]; rw [e21, upW_ne (by decide)]; rw [e20, upV_o (by decide)]; rw [e19, upW_ne (by decide)]; rw [e18, upV_o (by decide)]; rw [e17, upV_o (by decide)]; rw [e16, upV_o (by decide)]; rw [e15, upV_o (by decide)]; rw [e14, upV_o (by decide)]; rw [e13, upV_o (by decide)]; rw [e12, upV_o (by decide)]; rw [e11, upV_o (by decide)]; rw [e10, upV_s]; try rfl
      replace hj : j < 4 := hq
      rcases Nat.eq_or_lt_of_le (show j ≤ 3 by omega) with hq | hq
      · subst hq; rw [g26 10 (by decide)]; rw [g25 10 (by decide)]; rw [e24, upV_o (by decide)]; rw [e23, upW_ne (by decide)]; rw [e22, upV_o (by decide)]; rw [e21, upW_ne (by decide)]; rw [e20, upV_o (by decide)]; rw [e19, upW_ne (by decide)]; rw [e18, upV_o (by decide)]; rw [e17, upV_o (by decide)]; rw [e16, upV_o (by decide)]; rw [e15, upV_o (by decide)]; rw [e14, upV_o (by decide)]; rw [e13, upV_o (by decide)]; rw [e12, upV_o (by decide)]; rw [e11, upV_o (by decide)]; rw [e10, upV_o (by decide)]; rw [e9, upW_ne (by decide)]; rw [e8, upV_s]; try rfl
      replace hj : j < 3 := hq
      rcases Nat.eq_or_lt_of_le (show j ≤ 2 by omega) with hq | hq
      · subst hq; rw [g26 10 (by decide)]; rw [g25 10 (by decide)]; rw [e24, upV_o (by decide)]; rw [e23, upW_ne (by decide)]; rw [e22, upV_o (by decide)]; rw [e21, upW_ne (by decide)]; rw [e20, upV_o (by decide)]; rw [e19, upW_ne (by decide)]; rw [e18, upV_o (by decide)]; rw [e17, upV_o (by decide)]; rw [e16, upV_o (by decide)]; rw [e15, upV_o (by decide)]; rw [e14, upV_o (by decide)]; rw [e13, upV_o (by decide)]; rw [e12, upV_o (by decide)]; rw [e11, upV_o (by decide)]; rw [e10, upV_o (by decide)]; rw [e9, upW_ne (by decide)]; rw [e8, upV_o (by decide)]; rw [e7, upW_ne (by decide)]; rw [e6, upV_s]; try rfl
      replace hj : j < 2 := hq
      rcases Nat.eq_or_lt_of_le (show j ≤ 1 by omega) with hq | hq
      · subst hq; rw [g26 10 (by decide)]; rw [g25 10 (by decide)]; rw [e24, upV_o (by decide)]; rw [e23, upW_ne (by decide)]; rw [e22, upV_o (by decide)]; rw [e21, upW_ne (by decide)]; rw [e20, upV_o (by decide)]; rw [e19, upW_ne (by decide)]; rw [e18, upV_o (by decide)]; rw [e17, upV_o (by decide)]; rw [e16, upV_o (by decide)]; rw [e15, upV_o (by decide)]; rw [e14, upV_o (by decide)]; rw [e13, upV_o (by decide)]; rw [e12, upV_o (by decide)]; rw [e11, upV_o (by decide)]; rw [e10, upV_o (by decide)]; rw [e9, upW_ne (by decide)]; rw [e8, upV_o (by decide)]; rw [e7, upW_ne (by decide)]; rw [e6, upV_o (by decide)]; rw [e5, upW_ne (by decide)]; rw [e4, upV_s]; try rfl
      replace hj : j < 1 := hq
      obtain rfl : j = 0 := by omega
      rw [g26 10 (by decide)]
      rw [g25 10 (by decide)]
      rw [e24, upV_o (by decide)]
      rw [e23, upW_ne (by decide)]
      rw [e22, upV_o (by decide)]
      rw [e21, upW_ne (by decide)]
      rw [e20, upV_o (by decide)]
      rw [e19, upW_ne (by decide)]
      rw [e18, upV_o (by decide)]
      rw [e17, upV_o (by decide)]
      rw [e16, upV_o (by decide)]
      rw [e15, upV_o (by decide)]
      rw [e14, upV_o (by decide)]
      rw [e13, upV_o (by decide)]
      rw [e12, upV_o (by decide)]
      rw [e11, upV_o (by decide)]
      rw [e10, upV_o (by decide)]
      rw [e9, upW_ne (by decide)]
      rw [e8, upV_o (by decide)]
      rw [e7, upW_ne (by decide)]
      rw [e6, upV_o (by decide)]
      rw [e5, upW_ne (by decide)]
      rw [e4, upV_o (by decide)]
      rw [e3, upW_ne (by decide)]
      rw [e2, upV_s]
      try rfl
    · intro j hj
      rw [g26 11 (by decide)]
      refine (f25 j hj).trans ?_
      try rfl
    · intro j hj
      rw [g26 12 (by decide)]
      rw [g25 12 (by decide)]
      rw [e24, upV_ne (by decide)]
      rw [e23, upW_ne (by decide)]
      rw [e22, upV_ne (by decide)]
      rw [e21, upW_ne (by decide)]
      rw [e20, upV_ne (by decide)]
      rw [e19, upW_ne (by decide)]
      rw [e18, upV_ne (by decide)]
      rw [e17, upV_ne (by decide)]
      rw [e16, upV_ne (by decide)]
      rw [e15, upV_ne (by decide)]
      rw [e14, upV_ne (by decide)]
      rw [e13, upV_ne (by decide)]
      rw [e12, upV_ne (by decide)]
      rw [e11, upV_ne (by decide)]
      rw [e10, upV_ne (by decide)]
      rw [e9, upW_ne (by decide)]
      rw [e8, upV_ne (by decide)]
      rw [e7, upW_ne (by decide)]
      rw [e6, upV_ne (by decide)]
      rw [e5, upW_ne (by decide)]
      rw [e4, upV_ne (by decide)]
      rw [e3, upW_s]
      try rfl
    · intro j hj
      rw [g26 13 (by decide)]
      rw [g25 13 (by decide)]
      rw [e24, upV_ne (by decide)]
      rw [e23, upW_ne (by decide)]
      rw [e22, upV_ne (by decide)]
      rw [e21, upW_ne (by decide)]
      rw [e20, upV_ne (by decide)]
      rw [e19, upW_ne (by decide)]
      rw [e18, upV_ne (by decide)]
      rw [e17, upV_ne (by decide)]
      rw [e16, upV_ne (by decide)]
      rw [e15, upV_ne (by decide)]
      rw [e14, upV_ne (by decide)]
      rw [e13, upV_ne (by decide)]
      rw [e12, upV_ne (by decide)]
      rw [e11, upV_ne (by decide)]
      rw [e10, upV_ne (by decide)]
      rw [e9, upW_ne (by decide)]
      rw [e8, upV_ne (by decide)]
      rw [e7, upW_ne (by decide)]
      rw [e6, upV_ne (by decide)]
      rw [e5, upW_s]
      try rfl
    · intro j hj
      rw [g26 14 (by decide)]
      rw [g25 14 (by decide)]
      rw [e24, upV_ne (by decide)]
      rw [e23, upW_ne (by decide)]
      rw [e22, upV_ne (by decide)]
      rw [e21, upW_ne (by decide)]
      rw [e20, upV_ne (by decide)]
      rw [e19, upW_ne (by decide)]
      rw [e18, upV_ne (by decide)]
      rw [e17, upV_ne (by decide)]
      rw [e16, upV_ne (by decide)]
      rw [e15, upV_ne (by decide)]
      rw [e14, upV_ne (by decide)]
      rw [e13, upV_ne (by decide)]
      rw [e12, upV_ne (by decide)]
      rw [e11, upV_ne (by decide)]
      rw [e10, upV_ne (by decide)]
      rw [e9, upW_ne (by decide)]
      rw [e8, upV_ne (by decide)]
      rw [e7, upW_s]
      try rfl
    · intro j hj
      refine (f26 j hj).trans ?_
      try rfl
    · intro j hj
      rw [g26 16 (by decide)]
      rw [g25 16 (by decide)]
      rw [e24, upV_ne (by decide)]
      rw [e23, upW_ne (by decide)]
      rw [e22, upV_ne (by decide)]
      rw [e21, upW_ne (by decide)]
      rw [e20, upV_ne (by decide)]
      rw [e19, upW_s]
      try rfl
    · intro j hj
      rw [g26 17 (by decide)]
      rw [g25 17 (by decide)]
      rw [e24, upV_ne (by decide)]
      rw [e23, upW_ne (by decide)]
      rw [e22, upV_ne (by decide)]
      rw [e21, upW_s]
      try rfl
    · intro j hj
      rw [g26 18 (by decide)]
      rw [g25 18 (by decide)]
      rw [e24, upV_ne (by decide)]
      rw [e23, upW_s]
      try rfl
  · skip
    rw [g26 c (by omega)]
    rw [g25 c (by omega)]
    rw [e24, upV_ne (by omega)]
    rw [e23, upW_ne (by omega)]
    rw [e22, upV_ne (by omega)]
    rw [e21, upW_ne (by omega)]
    rw [e20, upV_ne (by omega)]
    rw [e19, upW_ne (by omega)]
    rw [e18, upV_ne (by omega)]
    rw [e17, upV_ne (by omega)]
    rw [e16, upV_ne (by omega)]
    rw [e15, upV_ne (by omega)]
    rw [e14, upV_ne (by omega)]
    rw [e13, upV_ne (by omega)]
    rw [e12, upV_ne (by omega)]
    rw [e11, upV_ne (by omega)]
    rw [e10, upV_ne (by omega)]
    rw [e9, upW_ne (by omega)]
    rw [e8, upV_ne (by omega)]
    rw [e7, upW_ne (by omega)]
    rw [e6, upV_ne (by omega)]
    rw [e5, upW_ne (by omega)]
    rw [e4, upV_ne (by omega)]
    rw [e3, upW_ne (by omega)]
    rw [e2, upV_ne (by omega)]
    rw [e1, upW_ne (by omega)]
set_option maxHeartbeats 4000000 in
set_option maxRecDepth 100000 in
theorem n_X0_init_19 (l : Launch) (E : x_E) (ω : x_Om) : x_NM l m_X0_init E [.ref (E.1 + 19)] ω 20 (fun ω' n' => n' = 28 ∧ (∀ c, 19 ≤ c → c < 28 → okC E ω' c) ∧ ∀ c, c < 19 → ω' c = ω c) 8 94 := by
  refine n_enter (lv := [(0, .ref (E.1 + 19))]) true (fun _ => rfl) (by decide +kernel) (Nat.le_of_ble_eq_true rfl) rfl ?_
  refine n_aload_n 0 d_X0_init_0 rfl rfl ?_
  refine n_obj q27 (Nat.le_of_ble_eq_true rfl) (Nat.le_of_ble_eq_true rfl) d_X0_init_1 ?_
  refine n_aload_n 0 d_X0_init_4 rfl rfl ?_
  refine n_bipush (x := 16) d_X0_init_5 (by decide) ?_
  refine n_newp (tn := 0) rfl (by decide) rfl ra_int rfl rfl (by decide) rfl (by decide) (Nat.le_of_ble_eq_true rfl) (Nat.le_of_ble_eq_true rfl) q99 d_X0_init_7 (fun ω1 e1 => ?_)
  refine n_putF (k := 19) (j := 0) rfl x_c0 rfl (by decide) (by decide) q31 rfl rfl rfl rfl rfl d_X0_init_9 (fun ω2 e2 => ?_)
  refine n_aload_n 0 d_X0_init_12 rfl rfl ?_
  refine n_bipush (x := 8) d_X0_init_13 (by decide) ?_
  refine n_newp (tn := 0) rfl (by decide) rfl ra_int rfl rfl (by decide) rfl (by decide) (Nat.le_of_ble_eq_true rfl) (Nat.le_of_ble_eq_true rfl) q99 d_X0_init_15 (fun ω3 e3 => ?_)
  refine n_putF (k := 19) (j := 1) rfl x_c0 rfl (by decide) (by decide) q34 rfl rfl rfl rfl rfl d_X0_init_17 (fun ω4 e4 => ?_)
  refine n_aload_n 0 d_X0_init_20 rfl rfl ?_
  refine n_bipush (x := 8) d_X0_init_21 (by decide) ?_
  refine n_newp (tn := 0) rfl (by decide) rfl ra_int rfl rfl (by decide) rfl (by decide) (Nat.le_of_ble_eq_true rfl) (Nat.le_of_ble_eq_true rfl) q99 d_X0_init_23 (fun ω5 e5 => ?_)
  refine n_putF (k := 19) (j := 2) rfl x_c0 rfl (by decide) (by decide) q36 rfl rfl rfl rfl rfl d_X0_init_25 (fun ω6 e6 => ?_)
  refine n_aload_n 0 d_X0_init_28 rfl rfl ?_
  refine n_bipush (x := 8) d_X0_init_29 (by decide) ?_
  refine n_newp (tn := 0) rfl (by decide) rfl ra_int rfl rfl (by decide) rfl (by decide) (Nat.le_of_ble_eq_true rfl) (Nat.le_of_ble_eq_true rfl) q99 d_X0_init_31 (fun ω7 e7 => ?_)
  refine n_putF (k := 19) (j := 3) rfl x_c0 rfl (by decide) (by decide) q38 rfl rfl rfl rfl rfl d_X0_init_33 (fun ω8 e8 => ?_)
  refine n_aload_n 0 d_X0_init_36 rfl rfl ?_
  refine n_bipush (x := 10) d_X0_init_37 (by decide) ?_
  refine n_newp (tn := 0) rfl (by decide) rfl ra_int rfl rfl (by decide) rfl (by decide) (Nat.le_of_ble_eq_true rfl) (Nat.le_of_ble_eq_true rfl) q99 d_X0_init_39 (fun ω9 e9 => ?_)
  refine n_putF (k := 19) (j := 4) rfl x_c0 rfl (by decide) (by decide) q40 rfl rfl rfl rfl rfl d_X0_init_41 (fun ω10 e10 => ?_)
  refine n_aload_n 0 d_X0_init_44 rfl rfl ?_
  refine n_iconst (x := 0) d_X0_init_45 (by decide) ?_
  refine n_put (k := 19) (j := 5) x_c0 rfl (by decide) (by decide) q42 rfl rfl rfl rfl d_X0_init_46 (fun ω11 e11 => ?_)
  refine n_aload_n 0 d_X0_init_49 rfl rfl ?_
  refine n_iconst (x := 0) d_X0_init_50 (by decide) ?_
  refine n_put (k := 19) (j := 6) x_c0 rfl (by decide) (by decide) q45 rfl rfl rfl rfl d_X0_init_51 (fun ω12 e12 => ?_)
  refine n_aload_n 0 d_X0_init_54 rfl rfl ?_
  refine n_iconst (x := 0) d_X0_init_55 (by decide) ?_
  refine n_put (k := 19) (j := 7) x_c0 rfl (by decide) (by decide) q48 rfl rfl rfl rfl d_X0_init_56 (fun ω13 e13 => ?_)
  refine n_aload_n 0 d_X0_init_59 rfl rfl ?_
  refine n_iconst (x := 3) d_X0_init_60 (by decide) ?_
  refine n_put (k := 19) (j := 8) x_c0 rfl (by decide) (by decide) q51 rfl rfl rfl rfl d_X0_init_61 (fun ω14 e14 => ?_)
  refine n_aload_n 0 d_X0_init_64 rfl rfl ?_
  refine n_iconst (x := 5) d_X0_init_65 (by decide) ?_
  refine n_put (k := 19) (j := 9) x_c0 rfl (by decide) (by decide) q54 rfl rfl rfl rfl d_X0_init_66 (fun ω15 e15 => ?_)
  refine n_aload_n 0 d_X0_init_69 rfl rfl ?_
  refine n_iconst (x := 0) d_X0_init_70 (by decide) ?_
  refine n_put (k := 19) (j := 10) x_c0 rfl (by decide) (by decide) q57 rfl rfl rfl rfl d_X0_init_71 (fun ω16 e16 => ?_)
  refine n_aload_n 0 d_X0_init_74 rfl rfl ?_
  refine n_iconst (x := 0) d_X0_init_75 (by decide) ?_
  refine n_put (k := 19) (j := 11) x_c0 rfl (by decide) (by decide) q59 rfl rfl rfl rfl d_X0_init_76 (fun ω17 e17 => ?_)
  refine n_aload_n 0 d_X0_init_79 rfl rfl ?_
  refine n_iconst (x := 1) d_X0_init_80 (by decide) ?_
  refine n_put (k := 19) (j := 12) x_c0 rfl (by decide) (by decide) q61 rfl rfl rfl rfl d_X0_init_81 (fun ω18 e18 => ?_)
  refine n_aload_n 0 d_X0_init_84 rfl rfl ?_
  refine n_bipush (x := 8) d_X0_init_85 (by decide) ?_
  refine n_newp (tn := 0) rfl (by decide) rfl ra_int rfl rfl (by decide) rfl (by decide) (Nat.le_of_ble_eq_true rfl) (Nat.le_of_ble_eq_true rfl) q99 d_X0_init_87 (fun ω19 e19 => ?_)
  refine n_putF (k := 19) (j := 13) rfl x_c0 rfl (by decide) (by decide) q63 rfl rfl rfl rfl rfl d_X0_init_89 (fun ω20 e20 => ?_)
  refine n_aload_n 0 d_X0_init_92 rfl rfl ?_
  refine n_bipush (x := 18) d_X0_init_93 (by decide) ?_
  refine n_newp (tn := 0) rfl (by decide) rfl ra_int rfl rfl (by decide) rfl (by decide) (Nat.le_of_ble_eq_true rfl) (Nat.le_of_ble_eq_true rfl) q99 d_X0_init_95 (fun ω21 e21 => ?_)
  refine n_putF (k := 19) (j := 14) rfl x_c0 rfl (by decide) (by decide) q64 rfl rfl rfl rfl rfl d_X0_init_97 (fun ω22 e22 => ?_)
  refine n_aload_n 0 d_X0_init_100 rfl rfl ?_
  refine n_bipush (x := 18) d_X0_init_101 (by decide) ?_
  refine n_newp (tn := 0) rfl (by decide) rfl ra_int rfl rfl (by decide) rfl (by decide) (Nat.le_of_ble_eq_true rfl) (Nat.le_of_ble_eq_true rfl) q99 d_X0_init_103 (fun ω23 e23 => ?_)
  refine n_putF (k := 19) (j := 15) rfl x_c0 rfl (by decide) (by decide) q65 rfl rfl rfl rfl rfl d_X0_init_105 (fun ω24 e24 => ?_)
  refine n_aload_n 0 d_X0_init_108 rfl rfl ?_
  refine n_get (k := 19) (j := 0) (z := .ref (E.1 + 20)) x_c0 rfl (by decide) (by decide) q31 (by rw [e24, upV_o (by decide)]; rw [e23, upW_ne (by decide)]; rw [e22, upV_o (by decide)]; rw [e21, upW_ne (by decide)]; rw [e20, upV_o (by decide)]; rw [e19, upW_ne (by decide)]; rw [e18, upV_o (by decide)]; rw [e17, upV_o (by decide)]; rw [e16, upV_o (by decide)]; rw [e15, upV_o (by decide)]; rw [e14, upV_o (by decide)]; rw [e13, upV_o (by decide)]; rw [e12, upV_o (by decide)]; rw [e11, upV_o (by decide)]; rw [e10, upV_o (by decide)]; rw [e9, upW_ne (by decide)]; rw [e8, upV_o (by decide)]; rw [e7, upW_ne (by decide)]; rw [e6, upV_o (by decide)]; rw [e5, upW_ne (by decide)]; rw [e4, upV_o (by decide)]; rw [e3, upW_ne (by decide)]; rw [e2, upV_s]; try rfl) d_X0_init_109 ?_
  refine n_bipush (x := 50) d_X0_init_112 (by decide) ?_
  refine n_csv (as := [.ref (E.1 + 20), .int 50]) (n_fill l E ω24 (k := 20) (N := 16) (v := 50) (by decide) rfl rfl (by decide)) v_J_fill q29 q28 rfl ⟨Nat.le_of_ble_eq_true rfl, Nat.le_of_ble_eq_true rfl⟩ (Nat.le_of_ble_eq_true rfl) (Nat.le_of_ble_eq_true rfl) rfl (by decide) d_X0_init_114 ?_
  rintro ω25 _ ⟨rfl, f25, g25⟩
  refine n_aload_n 0 d_X0_init_117 rfl rfl ?_
  refine n_get (k := 19) (j := 4) (z := .ref (E.1 + 24)) x_c0 rfl (by decide) (by decide) q40 (by rw [g25 19 (by decide)]; rw [e24, upV_o (by decide)]; rw [e23, upW_ne (by decide)]; rw [e22, upV_o (by decide)]; rw [e21, upW_ne (by decide)]; rw [e20, upV_o (by decide)]; rw [e19, upW_ne (by decide)]; rw [e18, upV_o (by decide)]; rw [e17, upV_o (by decide)]; rw [e16, upV_o (by decide)]; rw [e15, upV_o (by decide)]; rw [e14, upV_o (by decide)]; rw [e13, upV_o (by decide)]; rw [e12, upV_o (by decide)]; rw [e11, upV_o (by decide)]; rw [e10, upV_s]; try rfl) d_X0_init_118 ?_
  refine n_iconst (x := (-1)) d_X0_init_121 (by decide) ?_
  refine n_csv (as := [.ref (E.1 + 24), .int (-1)]) (n_fill l E ω25 (k := 24) (N := 10) (v := (-1)) (by decide) rfl rfl (by decide)) v_J_fill q29 q28 rfl ⟨Nat.le_of_ble_eq_true rfl, Nat.le_of_ble_eq_true rfl⟩ (Nat.le_of_ble_eq_true rfl) (Nat.le_of_ble_eq_true rfl) rfl (by decide) d_X0_init_122 ?_
  rintro ω26 _ ⟨rfl, f26, g26⟩
  refine n_ret rfl d_X0_init_125 ?_
  refine ⟨rfl, fun c h1 h2 => ?_, fun c h => ?_⟩
  · obtain rfl | rfl | rfl | rfl | rfl | rfl | rfl | rfl | rfl : c = 19 ∨ c = 20 ∨ c = 21 ∨ c = 22 ∨ c = 23 ∨ c = 24 ∨ c = 25 ∨ c = 26 ∨ c = 27 := by omega
    · intro j hj
      have hj : j < 16 := hj
      rcases Nat.eq_or_lt_of_le (show j ≤ 15 by omega) with hq | hq
      · subst hq; rw [g26 19 (by decide)]; rw [g25 19 (by decide)]; rw [e24, upV_s]; try rfl
      replace hj : j < 15 := hq
      rcases Nat.eq_or_lt_of_le (show j ≤ 14 by omega) with hq | hq
      · subst hq; rw [g26 19 (by decide)]; rw [g25 19 (by decide)]; rw [e24, upV_o (by decide)]; rw [e23, upW_ne (by decide)]; rw [e22, upV_s]; try rfl
      replace hj : j < 14 := hq
      rcases Nat.eq_or_lt_of_le (show j ≤ 13 by omega) with hq | hq
      · subst hq; rw [g26 19 (by decide)]; rw [g25 19 (by decide)]; rw [e24, upV_o (by decide)]; rw [e23, upW_ne (by decide)]; rw [e22, upV_o (by decide)]; rw [e21, upW_ne (by decide)]; rw [e20, upV_s]; try rfl
      replace hj : j < 13 := hq
      rcases Nat.eq_or_lt_of_le (show j ≤ 12 by omega) with hq | hq
      · subst hq; rw [g26 19 (by decide)]; rw [g25 19 (by decide)]; rw [e24, upV_o (by decide)]; rw [e23, upW_ne (by decide)]; rw [e22, upV_o (by decide)]; rw [e21, upW_ne (by decide)]; rw [e20, upV_o (by decide)]; rw [e19, upW_ne (by decide)]; rw [e18, upV_s]; try rfl
      replace hj : j < 12 := hq
      rcases Nat.eq_or_lt_of_le (show j ≤ 11 by omega) with hq | hq
      · subst hq; rw [g26 19 (by decide)]; rw [g25 19 (by decide)]; rw [e24, upV_o (by decide)]; rw [e23, upW_ne (by decide)]; rw [e22, upV_o (by decide)]; rw [e21, upW_ne (by decide)]; rw [e20, upV_o (by decide)]; rw [e19, upW_ne (by decide)]; rw [e18, upV_o (by decide)]; rw [e17, upV_s]; try rfl
      replace hj : j < 11 := hq
      rcases Nat.eq_or_lt_of_le (show j ≤ 10 by omega) with hq | hq
      · subst hq; rw [g26 19 (by decide)]; rw [g25 19 (by decide)]; rw [e24, upV_o (by decide)]; rw [e23, upW_ne (by decide)]; rw [e22, upV_o (by decide)]; rw [e21, upW_ne (by decide)]; rw [e20, upV_o (by decide)]; rw [e19, upW_ne (by decide)]; rw [e18, upV_o (by decide)]; rw [e17, upV_o (by decide)]; rw [e16, upV_s]; try rfl
      replace hj : j < 10 := hq
      rcases Nat.eq_or_lt_of_le (show j ≤ 9 by omega) with hq | hq
      · subst hq; rw [g26 19 (by decide)]; rw [g25 19 (by decide)]; rw [e24, upV_o (by decide)]; rw [e23, upW_ne (by decide)]; rw [e22, upV_o (by decide)]; rw [e21, upW_ne (by decide)]; rw [e20, upV_o (by decide)]; rw [e19, upW_ne (by decide)]; rw [e18, upV_o (by decide)]; rw [e17, upV_o (by decide)]; rw [e16, upV_o (by decide)]; rw [e15, upV_s]; try rfl
      replace hj : j < 9 := hq
      rcases Nat.eq_or_lt_of_le (show j ≤ 8 by omega) with hq | hq
      · subst hq; rw [g26 19 (by decide)]; rw [g25 19 (by decide)]; rw [e24, upV_o (by decide)]; rw [e23, upW_ne (by decide)]; rw [e22, upV_o (by decide)]; rw [e21, upW_ne (by decide)]; rw [e20, upV_o (by decide)]; rw [e19, upW_ne (by decide)]; rw [e18, upV_o (by decide)]; rw [e17, upV_o (by decide)]; rw [e16, upV_o (by decide)]; rw [e15, upV_o (by decide)]; rw [e14, upV_s]; try rfl
      replace hj : j < 8 := hq
      rcases Nat.eq_or_lt_of_le (show j ≤ 7 by omega) with hq | hq
      · subst hq; rw [g26 19 (by decide)]; rw [g25 19 (by decide)]; rw [e24, upV_o (by decide)]; rw [e23, upW_ne (by decide)]; rw [e22, upV_o (by decide)]; rw [e21, upW_ne (by decide)]; rw [e20, upV_o (by decide)]; rw [e19, upW_ne (by decide)]; rw [e18, upV_o (by decide)]; rw [e17, upV_o (by decide)]; rw [e16, upV_o (by decide)]; rw [e15, upV_o (by decide)]; rw [e14, upV_o (by decide)]; rw [e13, upV_s]; try rfl
      replace hj : j < 7 := hq
      rcases Nat.eq_or_lt_of_le (show j ≤ 6 by omega) with hq | hq
      · subst hq; rw [g26 19 (by decide)]; rw [g25 19 (by decide)]; rw [e24, upV_o (by decide)]; rw [e23, upW_ne (by decide)]; rw [e22, upV_o (by decide)]; rw [e21, upW_ne (by decide)]; rw [e20, upV_o (by decide)]; rw [e19, upW_ne (by decide)]; rw [e18, upV_o (by decide)]; rw [e17, upV_o (by decide)]; rw [e16, upV_o (by decide)]; rw [e15, upV_o (by decide)]; rw [e14, upV_o (by decide)]; rw [e13, upV_o (by decide)]; rw [e12, upV_s]; try rfl
      replace hj : j < 6 := hq
      rcases Nat.eq_or_lt_of_le (show j ≤ 5 by omega) with hq | hq
      · subst hq; rw [g26 19 (by decide)]; rw [g25 19 (by decide)]; rw [e24, upV_o (by decide)]; rw [e23, upW_ne (by decide)]; rw [e22, upV_o (by decide)]; rw [e21, upW_ne (by decide)]; rw [e20, upV_o (by decide)]; rw [e19, upW_ne (by decide)]; rw [e18, upV_o (by decide)]; rw [e17, upV_o (by decide)]; rw [e16, upV_o (by decide)]; rw [e15, upV_o (by decide)]; rw [e14, upV_o (by decide)]; rw [e13, upV_o (by decide)]; rw [e12, upV_o (by decide)]; rw [e11, upV_s]; try rfl
      replace hj : j < 5 := hq
      rcases Nat.eq_or_lt_of_le (show j ≤ 4 by omega) with hq | hq
      · subst hq; rw [g26 19 (by decide)]; rw [g25 19 (by decide)]; rw [e24, upV_o (by decide)]; rw [e23, upW_ne (by decide)]; rw [e22, upV_o (by decide)]; rw [e21, upW_ne (by decide)]; rw [e20, upV_o (by decide)]; rw [e19, upW_ne (by decide)]; rw [e18, upV_o (by decide)]; rw [e17, upV_o (by decide)]; rw [e16, upV_o (by decide)]; rw [e15, upV_o (by decide)]; rw [e14, upV_o (by decide)]; rw [e13, upV_o (by decide)]; rw [e12, upV_o (by decide)]; rw [e11, upV_o (by decide)]; rw [e10, upV_s]; try rfl
      replace hj : j < 4 := hq
      rcases Nat.eq_or_lt_of_le (show j ≤ 3 by omega) with hq | hq
      · subst hq; rw [g26 19 (by decide)]; rw [g25 19 (by decide)]; rw [e24, upV_o (by decide)]; rw [e23, upW_ne (by decide)]; rw [e22, upV_o (by decide)]; rw [e21, upW_ne (by decide)]; rw [e20, upV_o (by decide)]; rw [e19, upW_ne (by decide)]; rw [e18, upV_o (by decide)]; rw [e17, upV_o (by decide)]; rw [e16, upV_o (by decide)]; rw [e15, upV_o (by decide)]; rw [e14, upV_o (by decide)]; rw [e13, upV_o (by decide)]; rw [e12, upV_o (by decide)]; rw [e11, upV_o (by decide)]; rw [e10, upV_o (by decide)]; rw [e9, upW_ne (by decide)]; rw [e8, upV_s]; try rfl
      replace hj : j < 3 := hq
      rcases Nat.eq_or_lt_of_le (show j ≤ 2 by omega) with hq | hq
      · subst hq; rw [g26 19 (by decide)]; rw [g25 19 (by decide)]; rw [e24, upV_o (by decide)]; rw [e23, upW_ne (by decide)]; rw [e22, upV_o (by decide)]; rw [e21, upW_ne (by decide)]; rw [e20, upV_o (by decide)]; rw [e19, upW_ne (by decide)]; rw [e18, upV_o (by decide)]; rw [e17, upV_o (by decide)]; rw [e16, upV_o (by decide)]; rw [e15, upV_o (by decide)]; rw [e14, upV_o (by decide)]; rw [e13, upV_o (by decide)]; rw [e12, upV_o (by decide)]; rw [e11, upV_o (by decide)]; rw [e10, upV_o (by decide)]; rw [e9, upW_ne (by decide)]; rw [e8, upV_o (by decide)]; rw [e7, upW_ne (by decide)]; rw [e6, upV_s]; try rfl
      replace hj : j < 2 := hq
      rcases Nat.eq_or_lt_of_le (show j ≤ 1 by omega) with hq | hq
      · subst hq; rw [g26 19 (by decide)]; rw [g25 19 (by decide)]; rw [e24, upV_o (by decide)]; rw [e23, upW_ne (by decide)]; rw [e22, upV_o (by decide)]; rw [e21, upW_ne (by decide)]; rw [e20, upV_o (by decide)]; rw [e19, upW_ne (by decide)]; rw [e18, upV_o (by decide)]; rw [e17, upV_o (by decide)]; rw [e16, upV_o (by decide)]; rw [e15, upV_o (by decide)]; rw [e14, upV_o (by decide)]; rw [e13, upV_o (by decide)]; rw [e12, upV_o (by decide)]; rw [e11, upV_o (by decide)]; rw [e10, upV_o (by decide)]; rw [e9, upW_ne (by decide)]; rw [e8, upV_o (by decide)]; rw [e7, upW_ne (by decide)]; rw [e6, upV_o (by decide)]; rw [e5, upW_ne (by decide)]; rw [e4, upV_s]; try rfl
      replace hj : j < 1 := hq
      obtain rfl : j = 0 := by omega
      rw [g26 19 (by decide)]
      rw [g25 19 (by decide)]
      rw [e24, upV_o (by decide)]
      rw [e23, upW_ne (by decide)]
      rw [e22, upV_o (by decide)]
      rw [e21, upW_ne (by decide)]
      rw [e20, upV_o (by decide)]
      rw [e19, upW_ne (by decide)]
      rw [e18, upV_o (by decide)]
      rw [e17, upV_o (by decide)]
      rw [e16, upV_o (by decide)]
      rw [e15, upV_o (by decide)]
      rw [e14, upV_o (by decide)]
      rw [e13, upV_o (by decide)]
      rw [e12, upV_o (by decide)]
      rw [e11, upV_o (by decide)]
      rw [e10, upV_o (by decide)]
      rw [e9, upW_ne (by decide)]
      rw [e8, upV_o (by decide)]
      rw [e7, upW_ne (by decide)]
      rw [e6, upV_o (by decide)]
      rw [e5, upW_ne (by decide)]
      rw [e4, upV_o (by decide)]
      rw [e3, upW_ne (by decide)]
      rw [e2, upV_s]
      try rfl
    · intro j hj
      rw [g26 20 (by decide)]
      refine (f25 j hj).trans ?_
      try rfl
    · intro j hj
      rw [g26 21 (by decide)]
      rw [g25 21 (by decide)]
      rw [e24, upV_ne (by decide)]
      rw [e23, upW_ne (by decide)]
      rw [e22, upV_ne (by decide)]
      rw [e21, upW_ne (by decide)]
      rw [e20, upV_ne (by decide)]
      rw [e19, upW_ne (by decide)]
      rw [e18, upV_ne (by decide)]
      rw [e17, upV_ne (by decide)]
      rw [e16, upV_ne (by decide)]
      rw [e15, upV_ne (by decide)]
      rw [e14, upV_ne (by decide)]
      rw [e13, upV_ne (by decide)]
      rw [e12, upV_ne (by decide)]
      rw [e11, upV_ne (by decide)]
      rw [e10, upV_ne (by decide)]
      rw [e9, upW_ne (by decide)]
      rw [e8, upV_ne (by decide)]
      rw [e7, upW_ne (by decide)]
      rw [e6, upV_ne (by decide)]
      rw [e5, upW_ne (by decide)]
      rw [e4, upV_ne (by decide)]
      rw [e3, upW_s]
      try rfl
    · intro j hj
      rw [g26 22 (by decide)]
      rw [g25 22 (by decide)]
      rw [e24, upV_ne (by decide)]
      rw [e23, upW_ne (by decide)]
      rw [e22, upV_ne (by decide)]
      rw [e21, upW_ne (by decide)]
      rw [e20, upV_ne (by decide)]
      rw [e19, upW_ne (by decide)]
      rw [e18, upV_ne (by decide)]
      rw [e17, upV_ne (by decide)]
      rw [e16, upV_ne (by decide)]
      rw [e15, upV_ne (by decide)]
      rw [e14, upV_ne (by decide)]
      rw [e13, upV_ne (by decide)]
      rw [e12, upV_ne (by decide)]
      rw [e11, upV_ne (by decide)]
      rw [e10, upV_ne (by decide)]
      rw [e9, upW_ne (by decide)]
      rw [e8, upV_ne (by decide)]
      rw [e7, upW_ne (by decide)]
      rw [e6, upV_ne (by decide)]
      rw [e5, upW_s]
      try rfl
    · intro j hj
      rw [g26 23 (by decide)]
      rw [g25 23 (by decide)]
      rw [e24, upV_ne (by decide)]
      rw [e23, upW_ne (by decide)]
      rw [e22, upV_ne (by decide)]
      rw [e21, upW_ne (by decide)]
      rw [e20, upV_ne (by decide)]
      rw [e19, upW_ne (by decide)]
      rw [e18, upV_ne (by decide)]
      rw [e17, upV_ne (by decide)]
      rw [e16, upV_ne (by decide)]
      rw [e15, upV_ne (by decide)]
      rw [e14, upV_ne (by decide)]
      rw [e13, upV_ne (by decide)]
      rw [e12, upV_ne (by decide)]
      rw [e11, upV_ne (by decide)]
      rw [e10, upV_ne (by decide)]
      rw [e9, upW_ne (by decide)]
      rw [e8, upV_ne (by decide)]
      rw [e7, upW_s]
      try rfl
    · intro j hj
      refine (f26 j hj).trans ?_
      try rfl
    · intro j hj
      rw [g26 25 (by decide)]
      rw [g25 25 (by decide)]
      rw [e24, upV_ne (by decide)]
      rw [e23, upW_ne (by decide)]
      rw [e22, upV_ne (by decide)]
      rw [e21, upW_ne (by decide)]
      rw [e20, upV_ne (by decide)]
      rw [e19, upW_s]
      try rfl
    · intro j hj
      rw [g26 26 (by decide)]
      rw [g25 26 (by decide)]
      rw [e24, upV_ne (by decide)]
      rw [e23, upW_ne (by decide)]
      rw [e22, upV_ne (by decide)]
      rw [e21, upW_s]
      try rfl
    · intro j hj
      rw [g26 27 (by decide)]
      rw [g25 27 (by decide)]
      rw [e24, upV_ne (by decide)]
      rw [e23, upW_s]
      try rfl
  · skip
    rw [g26 c (by omega)]
    rw [g25 c (by omega)]
    rw [e24, upV_ne (by omega)]
    rw [e23, upW_ne (by omega)]
    rw [e22, upV_ne (by omega)]
    rw [e21, upW_ne (by omega)]
    rw [e20, upV_ne (by omega)]
    rw [e19, upW_ne (by omega)]
    rw [e18, upV_ne (by omega)]
    rw [e17, upV_ne (by omega)]
    rw [e16, upV_ne (by omega)]
    rw [e15, upV_ne (by omega)]
    rw [e14, upV_ne (by omega)]
    rw [e13, upV_ne (by omega)]
    rw [e12, upV_ne (by omega)]
    rw [e11, upV_ne (by omega)]
    rw [e10, upV_ne (by omega)]
    rw [e9, upW_ne (by omega)]
    rw [e8, upV_ne (by omega)]
    rw [e7, upW_ne (by omega)]
    rw [e6, upV_ne (by omega)]
    rw [e5, upW_ne (by omega)]
    rw [e4, upV_ne (by omega)]
    rw [e3, upW_ne (by omega)]
    rw [e2, upV_ne (by omega)]
    rw [e1, upW_ne (by omega)]
set_option maxHeartbeats 4000000 in
set_option maxRecDepth 100000 in
theorem n_X1_init_33 (l : Launch) (E : x_E) (ω : x_Om) : x_NM l m_X1_init E [.ref (E.1 + 33)] ω 34 (fun ω' n' => n' = 35 ∧ (∀ c, 33 ≤ c → c < 35 → okC E ω' c) ∧ ∀ c, c < 33 → ω' c = ω c) 1 40 := by
  refine n_enter (lv := [(0, .ref (E.1 + 33))]) true (fun _ => rfl) (by decide +kernel) (Nat.le_of_ble_eq_true rfl) rfl ?_
  refine n_aload_n 0 d_X1_init_0 rfl rfl ?_
  refine n_obj q133 (Nat.le_of_ble_eq_true rfl) (Nat.le_of_ble_eq_true rfl) d_X1_init_1 ?_
  refine n_aload_n 0 d_X1_init_4 rfl rfl ?_
  refine n_iconst (x := 0) d_X1_init_5 (by decide) ?_
  refine n_put (k := 33) (j := 0) x_c1 rfl (by decide) (by decide) q134 rfl rfl rfl rfl d_X1_init_6 (fun ω1 e1 => ?_)
  refine n_aload_n 0 d_X1_init_9 rfl rfl ?_
  refine n_iconst (x := 0) d_X1_init_10 (by decide) ?_
  refine n_put (k := 33) (j := 1) x_c1 rfl (by decide) (by decide) q136 rfl rfl rfl rfl d_X1_init_11 (fun ω2 e2 => ?_)
  refine n_aload_n 0 d_X1_init_14 rfl rfl ?_
  refine n_bipush (x := 40) d_X1_init_15 (by decide) ?_
  refine n_newp (tn := 0) rfl (by decide) rfl ra_int rfl rfl (by decide) rfl (by decide) (Nat.le_of_ble_eq_true rfl) (Nat.le_of_ble_eq_true rfl) q99 d_X1_init_17 (fun ω3 e3 => ?_)
  refine n_putF (k := 33) (j := 2) rfl x_c1 rfl (by decide) (by decide) q138 rfl rfl rfl rfl rfl d_X1_init_19 (fun ω4 e4 => ?_)
  refine n_ret rfl d_X1_init_22 ?_
  refine ⟨rfl, fun c h1 h2 => ?_, fun c h => ?_⟩
  · obtain rfl | rfl : c = 33 ∨ c = 34 := by omega
    · intro j hj
      have hj : j < 3 := hj
      rcases Nat.eq_or_lt_of_le (show j ≤ 2 by omega) with hq | hq
      · subst hq; rw [e4, upV_s]; try rfl
      replace hj : j < 2 := hq
      rcases Nat.eq_or_lt_of_le (show j ≤ 1 by omega) with hq | hq
      · subst hq; rw [e4, upV_o (by decide)]; rw [e3, upW_ne (by decide)]; rw [e2, upV_s]; try rfl
      replace hj : j < 1 := hq
      obtain rfl : j = 0 := by omega
      rw [e4, upV_o (by decide)]
      rw [e3, upW_ne (by decide)]
      rw [e2, upV_o (by decide)]
      rw [e1, upV_s]
      try rfl
    · intro j hj
      rw [e4, upV_ne (by decide)]
      rw [e3, upW_s]
      try rfl
  · skip
    rw [e4, upV_ne (by omega)]
    rw [e3, upW_ne (by omega)]
    rw [e2, upV_ne (by omega)]
    rw [e1, upV_ne (by omega)]
set_option maxHeartbeats 4000000 in
set_option maxRecDepth 100000 in
theorem n_X1_init_35 (l : Launch) (E : x_E) (ω : x_Om) : x_NM l m_X1_init E [.ref (E.1 + 35)] ω 36 (fun ω' n' => n' = 37 ∧ (∀ c, 35 ≤ c → c < 37 → okC E ω' c) ∧ ∀ c, c < 35 → ω' c = ω c) 1 40 := by
  refine n_enter (lv := [(0, .ref (E.1 + 35))]) true (fun _ => rfl) (by decide +kernel) (Nat.le_of_ble_eq_true rfl) rfl ?_
  refine n_aload_n 0 d_X1_init_0 rfl rfl ?_
  refine n_obj q133 (Nat.le_of_ble_eq_true rfl) (Nat.le_of_ble_eq_true rfl) d_X1_init_1 ?_
  refine n_aload_n 0 d_X1_init_4 rfl rfl ?_
  refine n_iconst (x := 0) d_X1_init_5 (by decide) ?_
  refine n_put (k := 35) (j := 0) x_c1 rfl (by decide) (by decide) q134 rfl rfl rfl rfl d_X1_init_6 (fun ω1 e1 => ?_)
  refine n_aload_n 0 d_X1_init_9 rfl rfl ?_
  refine n_iconst (x := 0) d_X1_init_10 (by decide) ?_
  refine n_put (k := 35) (j := 1) x_c1 rfl (by decide) (by decide) q136 rfl rfl rfl rfl d_X1_init_11 (fun ω2 e2 => ?_)
  refine n_aload_n 0 d_X1_init_14 rfl rfl ?_
  refine n_bipush (x := 40) d_X1_init_15 (by decide) ?_
  refine n_newp (tn := 0) rfl (by decide) rfl ra_int rfl rfl (by decide) rfl (by decide) (Nat.le_of_ble_eq_true rfl) (Nat.le_of_ble_eq_true rfl) q99 d_X1_init_17 (fun ω3 e3 => ?_)
  refine n_putF (k := 35) (j := 2) rfl x_c1 rfl (by decide) (by decide) q138 rfl rfl rfl rfl rfl d_X1_init_19 (fun ω4 e4 => ?_)
  refine n_ret rfl d_X1_init_22 ?_
  refine ⟨rfl, fun c h1 h2 => ?_, fun c h => ?_⟩
  · obtain rfl | rfl : c = 35 ∨ c = 36 := by omega
    · intro j hj
      have hj : j < 3 := hj
      rcases Nat.eq_or_lt_of_le (show j ≤ 2 by omega) with hq | hq
      · subst hq; rw [e4, upV_s]; try rfl
      replace hj : j < 2 := hq
      rcases Nat.eq_or_lt_of_le (show j ≤ 1 by omega) with hq | hq
      · subst hq; rw [e4, upV_o (by decide)]; rw [e3, upW_ne (by decide)]; rw [e2, upV_s]; try rfl
      replace hj : j < 1 := hq
      obtain rfl : j = 0 := by omega
      rw [e4, upV_o (by decide)]
      rw [e3, upW_ne (by decide)]
      rw [e2, upV_o (by decide)]
      rw [e1, upV_s]
      try rfl
    · intro j hj
      rw [e4, upV_ne (by decide)]
      rw [e3, upW_s]
      try rfl
  · skip
    rw [e4, upV_ne (by omega)]
    rw [e3, upW_ne (by omega)]
    rw [e2, upV_ne (by omega)]
    rw [e1, upV_ne (by omega)]
set_option maxHeartbeats 4000000 in
set_option maxRecDepth 100000 in
theorem n_X1_init_37 (l : Launch) (E : x_E) (ω : x_Om) : x_NM l m_X1_init E [.ref (E.1 + 37)] ω 38 (fun ω' n' => n' = 39 ∧ (∀ c, 37 ≤ c → c < 39 → okC E ω' c) ∧ ∀ c, c < 37 → ω' c = ω c) 1 40 := by
  refine n_enter (lv := [(0, .ref (E.1 + 37))]) true (fun _ => rfl) (by decide +kernel) (Nat.le_of_ble_eq_true rfl) rfl ?_
  refine n_aload_n 0 d_X1_init_0 rfl rfl ?_
  refine n_obj q133 (Nat.le_of_ble_eq_true rfl) (Nat.le_of_ble_eq_true rfl) d_X1_init_1 ?_
  refine n_aload_n 0 d_X1_init_4 rfl rfl ?_
  refine n_iconst (x := 0) d_X1_init_5 (by decide) ?_
  refine n_put (k := 37) (j := 0) x_c1 rfl (by decide) (by decide) q134 rfl rfl rfl rfl d_X1_init_6 (fun ω1 e1 => ?_)
  refine n_aload_n 0 d_X1_init_9 rfl rfl ?_
  refine n_iconst (x := 0) d_X1_init_10 (by decide) ?_
  refine n_put (k := 37) (j := 1) x_c1 rfl (by decide) (by decide) q136 rfl rfl rfl rfl d_X1_init_11 (fun ω2 e2 => ?_)
  refine n_aload_n 0 d_X1_init_14 rfl rfl ?_
  refine n_bipush (x := 40) d_X1_init_15 (by decide) ?_
  refine n_newp (tn := 0) rfl (by decide) rfl ra_int rfl rfl (by decide) rfl (by decide) (Nat.le_of_ble_eq_true rfl) (Nat.le_of_ble_eq_true rfl) q99 d_X1_init_17 (fun ω3 e3 => ?_)
  refine n_putF (k := 37) (j := 2) rfl x_c1 rfl (by decide) (by decide) q138 rfl rfl rfl rfl rfl d_X1_init_19 (fun ω4 e4 => ?_)
  refine n_ret rfl d_X1_init_22 ?_
  refine ⟨rfl, fun c h1 h2 => ?_, fun c h => ?_⟩
  · obtain rfl | rfl : c = 37 ∨ c = 38 := by omega
    · intro j hj
      have hj : j < 3 := hj
      rcases Nat.eq_or_lt_of_le (show j ≤ 2 by omega) with hq | hq
      · subst hq; rw [e4, upV_s]; try rfl
      replace hj : j < 2 := hq
      rcases Nat.eq_or_lt_of_le (show j ≤ 1 by omega) with hq | hq
      · subst hq; rw [e4, upV_o (by decide)]; rw [e3, upW_ne (by decide)]; rw [e2, upV_s]; try rfl
      replace hj : j < 1 := hq
      obtain rfl : j = 0 := by omega
      rw [e4, upV_o (by decide)]
      rw [e3, upW_ne (by decide)]
      rw [e2, upV_o (by decide)]
      rw [e1, upV_s]
      try rfl
    · intro j hj
      rw [e4, upV_ne (by decide)]
      rw [e3, upW_s]
      try rfl
  · skip
    rw [e4, upV_ne (by omega)]
    rw [e3, upW_ne (by omega)]
    rw [e2, upV_ne (by omega)]
    rw [e1, upV_ne (by omega)]
set_option maxHeartbeats 4000000 in
set_option maxRecDepth 100000 in
theorem n_X1_init_39 (l : Launch) (E : x_E) (ω : x_Om) : x_NM l m_X1_init E [.ref (E.1 + 39)] ω 40 (fun ω' n' => n' = 41 ∧ (∀ c, 39 ≤ c → c < 41 → okC E ω' c) ∧ ∀ c, c < 39 → ω' c = ω c) 1 40 := by
  refine n_enter (lv := [(0, .ref (E.1 + 39))]) true (fun _ => rfl) (by decide +kernel) (Nat.le_of_ble_eq_true rfl) rfl ?_
  refine n_aload_n 0 d_X1_init_0 rfl rfl ?_
  refine n_obj q133 (Nat.le_of_ble_eq_true rfl) (Nat.le_of_ble_eq_true rfl) d_X1_init_1 ?_
  refine n_aload_n 0 d_X1_init_4 rfl rfl ?_
  refine n_iconst (x := 0) d_X1_init_5 (by decide) ?_
  refine n_put (k := 39) (j := 0) x_c1 rfl (by decide) (by decide) q134 rfl rfl rfl rfl d_X1_init_6 (fun ω1 e1 => ?_)
  refine n_aload_n 0 d_X1_init_9 rfl rfl ?_
  refine n_iconst (x := 0) d_X1_init_10 (by decide) ?_
  refine n_put (k := 39) (j := 1) x_c1 rfl (by decide) (by decide) q136 rfl rfl rfl rfl d_X1_init_11 (fun ω2 e2 => ?_)
  refine n_aload_n 0 d_X1_init_14 rfl rfl ?_
  refine n_bipush (x := 40) d_X1_init_15 (by decide) ?_
  refine n_newp (tn := 0) rfl (by decide) rfl ra_int rfl rfl (by decide) rfl (by decide) (Nat.le_of_ble_eq_true rfl) (Nat.le_of_ble_eq_true rfl) q99 d_X1_init_17 (fun ω3 e3 => ?_)
  refine n_putF (k := 39) (j := 2) rfl x_c1 rfl (by decide) (by decide) q138 rfl rfl rfl rfl rfl d_X1_init_19 (fun ω4 e4 => ?_)
  refine n_ret rfl d_X1_init_22 ?_
  refine ⟨rfl, fun c h1 h2 => ?_, fun c h => ?_⟩
  · obtain rfl | rfl : c = 39 ∨ c = 40 := by omega
    · intro j hj
      have hj : j < 3 := hj
      rcases Nat.eq_or_lt_of_le (show j ≤ 2 by omega) with hq | hq
      · subst hq; rw [e4, upV_s]; try rfl
      replace hj : j < 2 := hq
      rcases Nat.eq_or_lt_of_le (show j ≤ 1 by omega) with hq | hq
      · subst hq; rw [e4, upV_o (by decide)]; rw [e3, upW_ne (by decide)]; rw [e2, upV_s]; try rfl
      replace hj : j < 1 := hq
      obtain rfl : j = 0 := by omega
      rw [e4, upV_o (by decide)]
      rw [e3, upW_ne (by decide)]
      rw [e2, upV_o (by decide)]
      rw [e1, upV_s]
      try rfl
    · intro j hj
      rw [e4, upV_ne (by decide)]
      rw [e3, upW_s]
      try rfl
  · skip
    rw [e4, upV_ne (by omega)]
    rw [e3, upW_ne (by omega)]
    rw [e2, upV_ne (by omega)]
    rw [e1, upV_ne (by omega)]
set_option maxHeartbeats 4000000 in
set_option maxRecDepth 100000 in
theorem n_X2_init_28 (l : Launch) (E : x_E) (ω : x_Om) : x_NM l m_X2_init E [.ref (E.1 + 28)] ω 29 (fun ω' n' => n' = 30 ∧ (∀ c, 28 ≤ c → c < 30 → okC E ω' c) ∧ ∀ c, c < 28 → ω' c = ω c) 1 120 := by
  refine n_enter (lv := [(0, .ref (E.1 + 28))]) true (fun _ => rfl) (by decide +kernel) (Nat.le_of_ble_eq_true rfl) rfl ?_
  refine n_aload_n 0 d_X2_init_0 rfl rfl ?_
  refine n_obj q105 (Nat.le_of_ble_eq_true rfl) (Nat.le_of_ble_eq_true rfl) d_X2_init_1 ?_
  refine n_aload_n 0 d_X2_init_4 rfl rfl ?_
  refine n_bipush (x := 120) d_X2_init_5 (by decide) ?_
  refine n_newp (tn := 1) rfl (by decide) rfl ra_byte rfl rfl (by decide) rfl (by decide) (Nat.le_of_ble_eq_true rfl) (Nat.le_of_ble_eq_true rfl) q126 d_X2_init_7 (fun ω1 e1 => ?_)
  refine n_putF (k := 28) (j := 0) rfl x_c2 rfl (by decide) (by decide) q106 rfl rfl rfl rfl rfl d_X2_init_9 (fun ω2 e2 => ?_)
  refine n_aload_n 0 d_X2_init_12 rfl rfl ?_
  refine n_iconst (x := 0) d_X2_init_13 (by decide) ?_
  refine n_put (k := 28) (j := 1) x_c2 rfl (by decide) (by decide) q107 rfl rfl rfl rfl d_X2_init_14 (fun ω3 e3 => ?_)
  refine n_aload_n 0 d_X2_init_17 rfl rfl ?_
  refine n_iconst (x := 0) d_X2_init_18 (by decide) ?_
  refine n_put (k := 28) (j := 2) x_c2 rfl (by decide) (by decide) q109 rfl rfl rfl rfl d_X2_init_19 (fun ω4 e4 => ?_)
  refine n_aload_n 0 d_X2_init_22 rfl rfl ?_
  refine n_iconst (x := 0) d_X2_init_23 (by decide) ?_
  refine n_put (k := 28) (j := 3) x_c2 rfl (by decide) (by decide) q110 rfl rfl rfl rfl d_X2_init_24 (fun ω5 e5 => ?_)
  refine n_aload_n 0 d_X2_init_27 rfl rfl ?_
  refine n_iconst (x := 0) d_X2_init_28 (by decide) ?_
  refine n_put (k := 28) (j := 4) x_c2 rfl (by decide) (by decide) q111 rfl rfl rfl rfl d_X2_init_29 (fun ω6 e6 => ?_)
  refine n_aload_n 0 d_X2_init_32 rfl rfl ?_
  refine n_iconst (x := 0) d_X2_init_33 (by decide) ?_
  refine n_put (k := 28) (j := 5) x_c2 rfl (by decide) (by decide) q112 rfl rfl rfl rfl d_X2_init_34 (fun ω7 e7 => ?_)
  refine n_ret rfl d_X2_init_37 ?_
  refine ⟨rfl, fun c h1 h2 => ?_, fun c h => ?_⟩
  · obtain rfl | rfl : c = 28 ∨ c = 29 := by omega
    · intro j hj
      have hj : j < 6 := hj
      rcases Nat.eq_or_lt_of_le (show j ≤ 5 by omega) with hq | hq
      · subst hq; rw [e7, upV_s]; try rfl
      replace hj : j < 5 := hq
      rcases Nat.eq_or_lt_of_le (show j ≤ 4 by omega) with hq | hq
      · subst hq; rw [e7, upV_o (by decide)]; rw [e6, upV_s]; try rfl
      replace hj : j < 4 := hq
      rcases Nat.eq_or_lt_of_le (show j ≤ 3 by omega) with hq | hq
      · subst hq; rw [e7, upV_o (by decide)]; rw [e6, upV_o (by decide)]; rw [e5, upV_s]; try rfl
      replace hj : j < 3 := hq
      rcases Nat.eq_or_lt_of_le (show j ≤ 2 by omega) with hq | hq
      · subst hq; rw [e7, upV_o (by decide)]; rw [e6, upV_o (by decide)]; rw [e5, upV_o (by decide)]; rw [e4, upV_s]; try rfl
      replace hj : j < 2 := hq
      rcases Nat.eq_or_lt_of_le (show j ≤ 1 by omega) with hq | hq
      · subst hq; rw [e7, upV_o (by decide)]; rw [e6, upV_o (by decide)]; rw [e5, upV_o (by decide)]; rw [e4, upV_o (by decide)]; rw [e3, upV_s]; try rfl
      replace hj : j < 1 := hq
      obtain rfl : j = 0 := by omega
      rw [e7, upV_o (by decide)]
      rw [e6, upV_o (by decide)]
      rw [e5, upV_o (by decide)]
      rw [e4, upV_o (by decide)]
      rw [e3, upV_o (by decide)]
      rw [e2, upV_s]
      try rfl
    · intro j hj
      rw [e7, upV_ne (by decide)]
      rw [e6, upV_ne (by decide)]
      rw [e5, upV_ne (by decide)]
      rw [e4, upV_ne (by decide)]
      rw [e3, upV_ne (by decide)]
      rw [e2, upV_ne (by decide)]
      rw [e1, upW_s]
      try rfl
  · skip
    rw [e7, upV_ne (by omega)]
    rw [e6, upV_ne (by omega)]
    rw [e5, upV_ne (by omega)]
    rw [e4, upV_ne (by omega)]
    rw [e3, upV_ne (by omega)]
    rw [e2, upV_ne (by omega)]
    rw [e1, upW_ne (by omega)]
set_option maxHeartbeats 4000000 in
set_option maxRecDepth 100000 in
theorem n_X3_init_0 (l : Launch) (E : x_E) (ω : x_Om) : x_NM l m_X3_init E [.ref (E.1 + 0)] ω 1 (fun ω' n' => n' = 41 ∧ (∀ c, 0 ≤ c → c < 41 → okC E ω' c) ∧ ∀ c, c < 0 → ω' c = ω c) 40 767 := by
  refine n_enter (lv := [(0, .ref (E.1 + 0))]) true (fun _ => rfl) (by decide +kernel) (Nat.le_of_ble_eq_true rfl) rfl ?_
  refine n_aload_n 0 d_X3_init_0 rfl rfl ?_
  refine n_obj q19 (Nat.le_of_ble_eq_true rfl) (Nat.le_of_ble_eq_true rfl) d_X3_init_1 ?_
  refine n_aload_n 0 d_X3_init_4 rfl rfl ?_
  refine n_new (ci := 0) (r := (RX0, TX0, 16)) (d := dvP) tyX0 tyX0_ok x_c0 rfl q22 q23 q2 dvP_ok (Nat.le_of_ble_eq_true rfl) (Nat.le_of_ble_eq_true rfl) d_X3_init_5 (fun ω1 e1 => ?_)
  refine n_dup d_X3_init_8 rfl ?_
  refine n_ini (mc := 8) (ms := 94) (n_X0_init_1 l E ω1) v_X0_init rfl rfl q25 q24 ⟨Nat.le_of_ble_eq_true rfl, Nat.le_of_ble_eq_true rfl⟩ (Nat.le_of_ble_eq_true rfl) (Nat.le_of_ble_eq_true rfl) (Nat.le_of_ble_eq_true rfl) d_X3_init_9 ?_
  rintro ω2 _ ⟨rfl, f2, g2⟩
  refine n_putF (k := 0) (j := 0) rfl x_c3 rfl (by decide) (by decide) q147 rfl rfl rfl rfl rfl d_X3_init_12 (fun ω3 e3 => ?_)
  refine n_aload_n 0 d_X3_init_15 rfl rfl ?_
  refine n_new (ci := 0) (r := (RX0, TX0, 16)) (d := dvP) tyX0 tyX0_ok x_c0 rfl q22 q23 q2 dvP_ok (Nat.le_of_ble_eq_true rfl) (Nat.le_of_ble_eq_true rfl) d_X3_init_16 (fun ω4 e4 => ?_)
  refine n_dup d_X3_init_19 rfl ?_
  refine n_ini (mc := 8) (ms := 94) (n_X0_init_10 l E ω4) v_X0_init rfl rfl q25 q24 ⟨Nat.le_of_ble_eq_true rfl, Nat.le_of_ble_eq_true rfl⟩ (Nat.le_of_ble_eq_true rfl) (Nat.le_of_ble_eq_true rfl) (Nat.le_of_ble_eq_true rfl) d_X3_init_20 ?_
  rintro ω5 _ ⟨rfl, f5, g5⟩
  refine n_putF (k := 0) (j := 1) rfl x_c3 rfl (by decide) (by decide) q148 rfl rfl rfl rfl rfl d_X3_init_23 (fun ω6 e6 => ?_)
  refine n_aload_n 0 d_X3_init_26 rfl rfl ?_
  refine n_new (ci := 0) (r := (RX0, TX0, 16)) (d := dvP) tyX0 tyX0_ok x_c0 rfl q22 q23 q2 dvP_ok (Nat.le_of_ble_eq_true rfl) (Nat.le_of_ble_eq_true rfl) d_X3_init_27 (fun ω7 e7 => ?_)
  refine n_dup d_X3_init_30 rfl ?_
  refine n_ini (mc := 8) (ms := 94) (n_X0_init_19 l E ω7) v_X0_init rfl rfl q25 q24 ⟨Nat.le_of_ble_eq_true rfl, Nat.le_of_ble_eq_true rfl⟩ (Nat.le_of_ble_eq_true rfl) (Nat.le_of_ble_eq_true rfl) (Nat.le_of_ble_eq_true rfl) d_X3_init_31 ?_
  rintro ω8 _ ⟨rfl, f8, g8⟩
  refine n_putF (k := 0) (j := 2) rfl x_c3 rfl (by decide) (by decide) q149 rfl rfl rfl rfl rfl d_X3_init_34 (fun ω9 e9 => ?_)
  refine n_aload_n 0 d_X3_init_37 rfl rfl ?_
  refine n_iconst (x := 0) d_X3_init_38 (by decide) ?_
  refine n_put (k := 0) (j := 3) x_c3 rfl (by decide) (by decide) q150 rfl rfl rfl rfl d_X3_init_39 (fun ω10 e10 => ?_)
  refine n_aload_n 0 d_X3_init_42 rfl rfl ?_
  refine n_new (ci := 2) (r := (RX2, TX2, 6)) (d := dvT) tyX2 tyX2_ok x_c2 rfl q100 q101 q4 dvT_ok (Nat.le_of_ble_eq_true rfl) (Nat.le_of_ble_eq_true rfl) d_X3_init_43 (fun ω11 e11 => ?_)
  refine n_dup d_X3_init_46 rfl ?_
  refine n_iniN (mc := 1) (ms := 120) (n_X2_init_28 l E ω11) v_X2_init rfl rfl q103 (fun U h => h.1) ⟨Nat.le_of_ble_eq_true rfl, Nat.le_of_ble_eq_true rfl⟩ (Nat.le_of_ble_eq_true rfl) (Nat.le_of_ble_eq_true rfl) (Nat.le_of_ble_eq_true rfl) d_X3_init_47 ?_
  rintro ω12 _ ⟨rfl, f12, g12⟩
  refine n_putF (k := 0) (j := 4) rfl x_c3 rfl (by decide) (by decide) q151 rfl rfl rfl rfl rfl d_X3_init_50 (fun ω13 e13 => ?_)
  refine n_aload_n 0 d_X3_init_53 rfl rfl ?_
  refine n_iconst (x := 4) d_X3_init_54 (by decide) ?_
  refine n_anew rfl rfl (by decide) rfl (by decide) (Nat.le_of_ble_eq_true rfl) (Nat.le_of_ble_eq_true rfl) q127 d_X3_init_55 (fun ω14 e14 => ?_)
  refine n_putF (k := 0) (j := 5) rfl x_c3 rfl (by decide) (by decide) q152 rfl rfl rfl rfl rfl d_X3_init_58 (fun ω15 e15 => ?_)
  refine n_aload_n 0 d_X3_init_61 rfl rfl ?_
  refine n_sipush (x := 128) d_X3_init_62 (by decide) ?_
  refine n_newp (tn := 0) rfl (by decide) rfl ra_int rfl rfl (by decide) rfl (by decide) (Nat.le_of_ble_eq_true rfl) (Nat.le_of_ble_eq_true rfl) q99 d_X3_init_65 (fun ω16 e16 => ?_)
  refine n_putF (k := 0) (j := 6) rfl x_c3 rfl (by decide) (by decide) q153 rfl rfl rfl rfl rfl d_X3_init_67 (fun ω17 e17 => ?_)
  refine n_aload_n 0 d_X3_init_70 rfl rfl ?_
  refine n_bipush (x := 7) d_X3_init_71 (by decide) ?_
  refine n_newp (tn := 0) rfl (by decide) rfl ra_int rfl rfl (by decide) rfl (by decide) (Nat.le_of_ble_eq_true rfl) (Nat.le_of_ble_eq_true rfl) q99 d_X3_init_73 (fun ω18 e18 => ?_)
  refine n_putF (k := 0) (j := 7) rfl x_c3 rfl (by decide) (by decide) q154 rfl rfl rfl rfl rfl d_X3_init_75 (fun ω19 e19 => ?_)
  refine n_iconst (x := 0) d_X3_init_78 (by decide) ?_
  refine n_istore_n [(1, .int 0), (0, .ref (E.1 + 0))] d_X3_init_79 rfl (Nat.le_of_ble_eq_true rfl) rfl ?_
  refine n_iload_n 0 d_X3_init_80 rfl rfl ?_
  refine n_iconst (x := 4) d_X3_init_81 (by decide) ?_
  refine n_icmp_ge 104 d_X3_init_82 (by decide) (fun c => ?_) (fun c => ?_)
  · exact absurd c (by decide)
  refine n_aload_n 1 d_X3_init_85 rfl rfl ?_
  refine n_get (k := 0) (j := 5) (z := .ref (E.1 + 30)) x_c3 rfl (by decide) (by decide) q152 (by rw [e19, upV_o (by decide)]; rw [e18, upW_ne (by decide)]; rw [e17, upV_o (by decide)]; rw [e16, upW_ne (by decide)]; rw [e15, upV_s]; try rfl) d_X3_init_86 ?_
  refine n_iload_n 0 d_X3_init_89 rfl rfl ?_
  refine n_new (ci := 1) (r := (RX1, TX1, 3)) (d := dvS) tyX1 tyX1_ok x_c1 rfl q127 q129 q5 dvS_ok (Nat.le_of_ble_eq_true rfl) (Nat.le_of_ble_eq_true rfl) d_X3_init_90 (fun ω20 e20 => ?_)
  refine n_dup d_X3_init_93 rfl ?_
  refine n_iniN (mc := 1) (ms := 40) (n_X1_init_33 l E ω20) v_X1_init rfl rfl q131 (fun U h => h.2.1) ⟨Nat.le_of_ble_eq_true rfl, Nat.le_of_ble_eq_true rfl⟩ (Nat.le_of_ble_eq_true rfl) (Nat.le_of_ble_eq_true rfl) (Nat.le_of_ble_eq_true rfl) d_X3_init_94 ?_
  rintro ω21 _ ⟨rfl, f21, g21⟩
  refine n_aast (k := 30) (q := 33) (e0 := 0) 4 (by decide) (by decide) rfl rfl rfl (by decide) (by decide) d_X3_init_97 (fun ω22 e22 => ?_)
  refine n_iinc [(1, .int 1), (0, .ref (E.1 + 0))] 0 d_X3_init_98 rfl (by decide) (Nat.le_of_ble_eq_true rfl) rfl ?_
  refine n_goto 80 d_X3_init_101 (by decide) ?_
  refine n_iload_n 0 d_X3_init_80 rfl rfl ?_
  refine n_iconst (x := 4) d_X3_init_81 (by decide) ?_
  refine n_icmp_ge 104 d_X3_init_82 (by decide) (fun c => ?_) (fun c => ?_)
  · exact absurd c (by decide)
  refine n_aload_n 1 d_X3_init_85 rfl rfl ?_
  refine n_get (k := 0) (j := 5) (z := .ref (E.1 + 30)) x_c3 rfl (by decide) (by decide) q152 (by rw [e22, upV_ne (by decide)]; rw [g21 0 (by decide)]; rw [e20, upW_ne (by decide)]; rw [e19, upV_o (by decide)]; rw [e18, upW_ne (by decide)]; rw [e17, upV_o (by decide)]; rw [e16, upW_ne (by decide)]; rw [e15, upV_s]; try rfl) d_X3_init_86 ?_
  refine n_iload_n 0 d_X3_init_89 rfl rfl ?_
  refine n_new (ci := 1) (r := (RX1, TX1, 3)) (d := dvS) tyX1 tyX1_ok x_c1 rfl q127 q129 q5 dvS_ok (Nat.le_of_ble_eq_true rfl) (Nat.le_of_ble_eq_true rfl) d_X3_init_90 (fun ω23 e23 => ?_)
  refine n_dup d_X3_init_93 rfl ?_
  refine n_iniN (mc := 1) (ms := 40) (n_X1_init_35 l E ω23) v_X1_init rfl rfl q131 (fun U h => h.2.1) ⟨Nat.le_of_ble_eq_true rfl, Nat.le_of_ble_eq_true rfl⟩ (Nat.le_of_ble_eq_true rfl) (Nat.le_of_ble_eq_true rfl) (Nat.le_of_ble_eq_true rfl) d_X3_init_94 ?_
  rintro ω24 _ ⟨rfl, f24, g24⟩
  refine n_aast (k := 30) (q := 35) (e0 := 1) 4 (by decide) (by decide) rfl rfl rfl (by decide) (by decide) d_X3_init_97 (fun ω25 e25 => ?_)
  refine n_iinc [(1, .int 2), (0, .ref (E.1 + 0))] 0 d_X3_init_98 rfl (by decide) (Nat.le_of_ble_eq_true rfl) rfl ?_
  refine n_goto 80 d_X3_init_101 (by decide) ?_
  refine n_iload_n 0 d_X3_init_80 rfl rfl ?_
  refine n_iconst (x := 4) d_X3_init_81 (by decide) ?_
  refine n_icmp_ge 104 d_X3_init_82 (by decide) (fun c => ?_) (fun c => ?_)
  · exact absurd c (by decide)
  refine n_aload_n 1 d_X3_init_85 rfl rfl ?_
  refine n_get (k := 0) (j := 5) (z := .ref (E.1 + 30)) x_c3 rfl (by decide) (by decide) q152 (by rw [e25, upV_ne (by decide)]; rw [g24 0 (by decide)]; rw [e23, upW_ne (by decide)]; rw [e22, upV_ne (by decide)]; rw [g21 0 (by decide)]; rw [e20, upW_ne (by decide)]; rw [e19, upV_o (by decide)]; rw [e18, upW_ne (by decide)]; rw [e17, upV_o (by decide)]; rw [e16, upW_ne (by decide)]; rw [e15, upV_s]; try rfl) d_X3_init_86 ?_
  refine n_iload_n 0 d_X3_init_89 rfl rfl ?_
  refine n_new (ci := 1) (r := (RX1, TX1, 3)) (d := dvS) tyX1 tyX1_ok x_c1 rfl q127 q129 q5 dvS_ok (Nat.le_of_ble_eq_true rfl) (Nat.le_of_ble_eq_true rfl) d_X3_init_90 (fun ω26 e26 => ?_)
  refine n_dup d_X3_init_93 rfl ?_
  refine n_iniN (mc := 1) (ms := 40) (n_X1_init_37 l E ω26) v_X1_init rfl rfl q131 (fun U h => h.2.1) ⟨Nat.le_of_ble_eq_true rfl, Nat.le_of_ble_eq_true rfl⟩ (Nat.le_of_ble_eq_true rfl) (Nat.le_of_ble_eq_true rfl) (Nat.le_of_ble_eq_true rfl) d_X3_init_94 ?_
  rintro ω27 _ ⟨rfl, f27, g27⟩
  refine n_aast (k := 30) (q := 37) (e0 := 2) 4 (by decide) (by decide) rfl rfl rfl (by decide) (by decide) d_X3_init_97 (fun ω28 e28 => ?_)
  refine n_iinc [(1, .int 3), (0, .ref (E.1 + 0))] 0 d_X3_init_98 rfl (by decide) (Nat.le_of_ble_eq_true rfl) rfl ?_
  refine n_goto 80 d_X3_init_101 (by decide) ?_
  refine n_iload_n 0 d_X3_init_80 rfl rfl ?_
  refine n_iconst (x := 4) d_X3_init_81 (by decide) ?_
  refine n_icmp_ge 104 d_X3_init_82 (by decide) (fun c => ?_) (fun c => ?_)
  · exact absurd c (by decide)
  refine n_aload_n 1 d_X3_init_85 rfl rfl ?_
  refine n_get (k := 0) (j := 5) (z := .ref (E.1 + 30)) x_c3 rfl (by decide) (by decide) q152 (by rw [e28, upV_ne (by decide)]; rw [g27 0 (by decide)]; rw [e26, upW_ne (by decide)]; rw [e25, upV_ne (by decide)]; rw [g24 0 (by decide)]; rw [e23, upW_ne (by decide)]; rw [e22, upV_ne (by decide)]; rw [g21 0 (by decide)]; rw [e20, upW_ne (by decide)]; rw [e19, upV_o (by decide)]; rw [e18, upW_ne (by decide)]; rw [e17, upV_o (by decide)]; rw [e16, upW_ne (by decide)]; rw [e15, upV_s]; try rfl) d_X3_init_86 ?_
  refine n_iload_n 0 d_X3_init_89 rfl rfl ?_
  refine n_new (ci := 1) (r := (RX1, TX1, 3)) (d := dvS) tyX1 tyX1_ok x_c1 rfl q127 q129 q5 dvS_ok (Nat.le_of_ble_eq_true rfl) (Nat.le_of_ble_eq_true rfl) d_X3_init_90 (fun ω29 e29 => ?_)
  refine n_dup d_X3_init_93 rfl ?_
  refine n_iniN (mc := 1) (ms := 40) (n_X1_init_39 l E ω29) v_X1_init rfl rfl q131 (fun U h => h.2.1) ⟨Nat.le_of_ble_eq_true rfl, Nat.le_of_ble_eq_true rfl⟩ (Nat.le_of_ble_eq_true rfl) (Nat.le_of_ble_eq_true rfl) (Nat.le_of_ble_eq_true rfl) d_X3_init_94 ?_
  rintro ω30 _ ⟨rfl, f30, g30⟩
  refine n_aast (k := 30) (q := 39) (e0 := 3) 4 (by decide) (by decide) rfl rfl rfl (by decide) (by decide) d_X3_init_97 (fun ω31 e31 => ?_)
  refine n_iinc [(1, .int 4), (0, .ref (E.1 + 0))] 0 d_X3_init_98 rfl (by decide) (Nat.le_of_ble_eq_true rfl) rfl ?_
  refine n_goto 80 d_X3_init_101 (by decide) ?_
  refine n_iload_n 0 d_X3_init_80 rfl rfl ?_
  refine n_iconst (x := 4) d_X3_init_81 (by decide) ?_
  refine n_icmp_ge 104 d_X3_init_82 (by decide) (fun c => ?_) (fun c => ?_)
  rotate_left
  · exact absurd (by decide) c
  refine n_ret rfl d_X3_init_104 ?_
  refine ⟨rfl, fun c h1 h2 => ?_, fun c h => ?_⟩
  · obtain rfl | rfl | rfl | rfl | rfl | rfl | rfl | rfl | rfl | rfl | rfl | rfl | rfl | rfl | rfl | rfl | rfl | rfl | rfl | rfl | rfl | rfl | rfl | rfl | rfl | rfl | rfl | rfl | rfl | rfl | rfl | rfl | rfl | rfl | rfl | rfl | rfl | rfl | rfl | rfl | rfl : c = 0 ∨ c = 1 ∨ c = 2 ∨ c = 3 ∨ c = 4 ∨ c = 5 ∨ c = 6 ∨ c = 7 ∨ c = 8 ∨ c = 9 ∨ c = 10 ∨ c = 11 ∨ c = 12 ∨ c = 13 ∨ c = 14 ∨ c = 15 ∨ c = 16 ∨ c = 17 ∨ c = 18 ∨ c = 19 ∨ c = 20 ∨ c = 21 ∨ c = 22 ∨ c = 23 ∨ c = 24 ∨ c = 25 ∨ c = 26 ∨ c = 27 ∨ c = 28 ∨ c = 29 ∨ c = 30 ∨ c = 31 ∨ c = 32 ∨ c = 33 ∨ c = 34 ∨ c = 35 ∨ c = 36 ∨ c = 37 ∨ c = 38 ∨ c = 39 ∨ c = 40 := by omega
    · intro j hj
      have hj : j < 8 := hj
      rcases Nat.eq_or_lt_of_le (show j ≤ 7 by omega) with hq | hq
      · subst hq; rw [e31, upV_ne (by decide)]; rw [g30 0 (by decide)]; rw [e29, upW_ne (by decide)]; rw [e28, upV_ne (by decide)]; rw [g27 0 (by decide)]; rw [e26, upW_ne (by decide)]; rw [e25, upV_ne (by decide)]; rw [g24 0 (by decide)]; rw [e23, upW_ne (by decide)]; rw [e22, upV_ne (by decide)]; rw [g21 0 (by decide)]; rw [e20, upW_ne (by decide)]; rw [e19, upV_s]; try rfl
      replace hj : j < 7 := hq
      rcases Nat.eq_or_lt_of_le (show j ≤ 6 by omega) with hq | hq
      · subst hq; rw [e31, upV_ne (by decide)]; rw [g30 0 (by decide)]; rw [e29, upW_ne (by decide)]; rw [e28, upV_ne (by decide)]; rw [g27 0 (by decide)]; rw [e26, upW_ne (by decide)]; rw [e25, upV_ne (by decide)]; rw [g24 0 (by decide)]; rw [e23, upW_ne (by decide)]; rw [e22, upV_ne (by decide)]; rw [g21 0 (by decide)]; rw [e20, upW_ne (by decide)]; rw [e19, upV_o (by decide)]; rw [e18, upW_ne (by decide)]; rw [e17, upV_s]; try rfl
      replace hj : j < 6 := hq
      rcases Nat.eq_or_lt_of_le (show j ≤ 5 by omega) with hq | hq
      · subst hq; rw [e31, upV_ne (by decide)]; rw [g30 0 (by decide)]; rw [e29, upW_ne (by decide)]; rw [e28, upV_ne (by decide)]; rw [g27 0 (by decide)]; rw [e26, upW_ne (by decide)]; rw [e25, upV_ne (by decide)]; rw [g24 0 (by decide)]; rw [e23, upW_ne (by decide)]; rw [e22, upV_ne (by decide)]; rw [g21 0 (by decide)]; rw [e20, upW_ne (by decide)]; rw [e19, upV_o (by decide)]; rw [e18, upW_ne (by decide)]; rw [e17, upV_o (by decide)]; rw [e16, upW_ne (by decide)]; rw [e15, upV_s]; try rfl
      replace hj : j < 5 := hq
      rcases Nat.eq_or_lt_of_le (show j ≤ 4 by omega) with hq | hq
      · subst hq; rw [e31, upV_ne (by decide)]; rw [g30 0 (by decide)]; rw [e29, upW_ne (by decide)]; rw [e28, upV_ne (by decide)]; rw [g27 0 (by decide)]; rw [e26, upW_ne (by decide)]; rw [e25, upV_ne (by decide)]; rw [g24 0 (by decide)]; rw [e23, upW_ne (by decide)]; rw [e22, upV_ne (by decide)]; rw [g21 0 (by decide)]; rw [e20, upW_ne (by decide)]; rw [e19, upV_o (by decide)]; rw [e18, upW_ne (by decide)]; rw [e17, upV_o (by decide)]; rw [e16, upW_ne (by decide)]; rw [e15, upV_o (by decide)]; rw [e14, upW_ne (by decide)]; rw [e13, upV_s]; try rfl
      replace hj : j < 4 := hq
      rcases Nat.eq_or_lt_of_le (show j ≤ 3 by omega) with hq | hq
      · subst hq; rw [e31, upV_ne (by decide)]; rw [g30 0 (by decide)]; rw [e29, upW_ne (by decide)]; rw [e28, upV_ne (by decide)]; rw [g27 0 (by decide)]; rw [e26, upW_ne (by decide)]; rw [e25, upV_ne (by decide)]; rw [g24 0 (by decide)]; rw [e23, upW_ne (by decide)]; rw [e22, upV_ne (by decide)]; rw [g21 0 (by decide)]; rw [e20, upW_ne (by decide)]; rw [e19, upV_o (by decide)]; rw [e18, upW_ne (by decide)]; rw [e17, upV_o (by decide)]; rw [e16, upW_ne (by decide)]; rw [e15, upV_o (by decide)]; rw [e14, upW_ne (by decide)]; rw [e13, upV_o (by decide)]; rw [g12 0 (by decide)]; rw [e11, upW_ne (by decide)]; rw [e10, upV_s]; try rfl
      replace hj : j < 3 := hq
      rcases Nat.eq_or_lt_of_le (show j ≤ 2 by omega) with hq | hq
      · subst hq; rw [e31, upV_ne (by decide)]; rw [g30 0 (by decide)]; rw [e29, upW_ne (by decide)]; rw [e28, upV_ne (by decide)]; rw [g27 0 (by decide)]; rw [e26, upW_ne (by decide)]; rw [e25, upV_ne (by decide)]; rw [g24 0 (by decide)]; rw [e23, upW_ne (by decide)]; rw [e22, upV_ne (by decide)]; rw [g21 0 (by decide)]; rw [e20, upW_ne (by decide)]; rw [e19, upV_o (by decide)]; rw [e18, upW_ne (by decide)]; rw [e17, upV_o (by decide)]; rw [e16, upW_ne (by decide)]; rw [e15, upV_o (by decide)]; rw [e14, upW_ne (by decide)]; rw [e13, upV_o (by decide)]; rw [g12 0 (by decide)]; rw [e11, upW_ne (by decide)]; rw [e10, upV_o (by decide)]; rw [e9, upV_s]; try rfl
      replace hj : j < 2 := hq
      rcases Nat.eq_or_lt_of_le (show j ≤ 1 by omega) with hq | hq
      · subst hq; rw [e31, upV_ne (by decide)]; rw [g30 0 (by decide)]; rw [e29, upW_ne (by decide)]; rw [e28, upV_ne (by decide)]; rw [g27 0 (by decide)]; rw [e26, upW_ne (by decide)]; rw [e25, upV_ne (by decide)]; rw [g24 0 (by decide)]; rw [e23, upW_ne (by decide)]; rw [e22, upV_ne (by decide)]; rw [g21 0 (by decide)]; rw [e20, upW_ne (by decide)]; rw [e19, upV_o (by decide)]; rw [e18, upW_ne (by decide)]; rw [e17, upV_o (by decide)]; rw [e16, upW_ne (by decide)]; rw [e15, upV_o (by decide)]; rw [e14, upW_ne (by decide)]; rw [e13, upV_o (by decide)]; rw [g12 0 (by decide)]; rw [e11, upW_ne (by decide)]; rw [e10, upV_o (by decide)]; rw [e9, upV_o (by decide)]; rw [g8 0 (by decide)]; rw [e7, upW_ne (by decide)]; rw [e6, upV_s]; try rfl
      replace hj : j < 1 := hq
      obtain rfl : j = 0 := by omega
      rw [e31, upV_ne (by decide)]
      rw [g30 0 (by decide)]
      rw [e29, upW_ne (by decide)]
      rw [e28, upV_ne (by decide)]
      rw [g27 0 (by decide)]
      rw [e26, upW_ne (by decide)]
      rw [e25, upV_ne (by decide)]
      rw [g24 0 (by decide)]
      rw [e23, upW_ne (by decide)]
      rw [e22, upV_ne (by decide)]
      rw [g21 0 (by decide)]
      rw [e20, upW_ne (by decide)]
      rw [e19, upV_o (by decide)]
      rw [e18, upW_ne (by decide)]
      rw [e17, upV_o (by decide)]
      rw [e16, upW_ne (by decide)]
      rw [e15, upV_o (by decide)]
      rw [e14, upW_ne (by decide)]
      rw [e13, upV_o (by decide)]
      rw [g12 0 (by decide)]
      rw [e11, upW_ne (by decide)]
      rw [e10, upV_o (by decide)]
      rw [e9, upV_o (by decide)]
      rw [g8 0 (by decide)]
      rw [e7, upW_ne (by decide)]
      rw [e6, upV_o (by decide)]
      rw [g5 0 (by decide)]
      rw [e4, upW_ne (by decide)]
      rw [e3, upV_s]
      try rfl
    · intro j hj
      rw [e31, upV_ne (by decide)]
      rw [g30 1 (by decide)]
      rw [e29, upW_ne (by decide)]
      rw [e28, upV_ne (by decide)]
      rw [g27 1 (by decide)]
      rw [e26, upW_ne (by decide)]
      rw [e25, upV_ne (by decide)]
      rw [g24 1 (by decide)]
      rw [e23, upW_ne (by decide)]
      rw [e22, upV_ne (by decide)]
      rw [g21 1 (by decide)]
      rw [e20, upW_ne (by decide)]
      rw [e19, upV_ne (by decide)]
      rw [e18, upW_ne (by decide)]
      rw [e17, upV_ne (by decide)]
      rw [e16, upW_ne (by decide)]
      rw [e15, upV_ne (by decide)]
      rw [e14, upW_ne (by decide)]
      rw [e13, upV_ne (by decide)]
      rw [g12 1 (by decide)]
      rw [e11, upW_ne (by decide)]
      rw [e10, upV_ne (by decide)]
      rw [e9, upV_ne (by decide)]
      rw [g8 1 (by decide)]
      rw [e7, upW_ne (by decide)]
      rw [e6, upV_ne (by decide)]
      rw [g5 1 (by decide)]
      rw [e4, upW_ne (by decide)]
      rw [e3, upV_ne (by decide)]
      refine (f2 1 (by decide) (by decide) j hj).trans ?_
      try rfl
    · intro j hj
      rw [e31, upV_ne (by decide)]
      rw [g30 2 (by decide)]
      rw [e29, upW_ne (by decide)]
      rw [e28, upV_ne (by decide)]
      rw [g27 2 (by decide)]
      rw [e26, upW_ne (by decide)]
      rw [e25, upV_ne (by decide)]
      rw [g24 2 (by decide)]
      rw [e23, upW_ne (by decide)]
      rw [e22, upV_ne (by decide)]
      rw [g21 2 (by decide)]
      rw [e20, upW_ne (by decide)]
      rw [e19, upV_ne (by decide)]
      rw [e18, upW_ne (by decide)]
      rw [e17, upV_ne (by decide)]
      rw [e16, upW_ne (by decide)]
      rw [e15, upV_ne (by decide)]
      rw [e14, upW_ne (by decide)]
      rw [e13, upV_ne (by decide)]
      rw [g12 2 (by decide)]
      rw [e11, upW_ne (by decide)]
      rw [e10, upV_ne (by decide)]
      rw [e9, upV_ne (by decide)]
      rw [g8 2 (by decide)]
      rw [e7, upW_ne (by decide)]
      rw [e6, upV_ne (by decide)]
      rw [g5 2 (by decide)]
      rw [e4, upW_ne (by decide)]
      rw [e3, upV_ne (by decide)]
      refine (f2 2 (by decide) (by decide) j hj).trans ?_
      try rfl
    · intro j hj
      rw [e31, upV_ne (by decide)]
      rw [g30 3 (by decide)]
      rw [e29, upW_ne (by decide)]
      rw [e28, upV_ne (by decide)]
      rw [g27 3 (by decide)]
      rw [e26, upW_ne (by decide)]
      rw [e25, upV_ne (by decide)]
      rw [g24 3 (by decide)]
      rw [e23, upW_ne (by decide)]
      rw [e22, upV_ne (by decide)]
      rw [g21 3 (by decide)]
      rw [e20, upW_ne (by decide)]
      rw [e19, upV_ne (by decide)]
      rw [e18, upW_ne (by decide)]
      rw [e17, upV_ne (by decide)]
      rw [e16, upW_ne (by decide)]
      rw [e15, upV_ne (by decide)]
      rw [e14, upW_ne (by decide)]
      rw [e13, upV_ne (by decide)]
      rw [g12 3 (by decide)]
      rw [e11, upW_ne (by decide)]
      rw [e10, upV_ne (by decide)]
      rw [e9, upV_ne (by decide)]
      rw [g8 3 (by decide)]
      rw [e7, upW_ne (by decide)]
      rw [e6, upV_ne (by decide)]
      rw [g5 3 (by decide)]
      rw [e4, upW_ne (by decide)]
      rw [e3, upV_ne (by decide)]
      refine (f2 3 (by decide) (by decide) j hj).trans ?_
      try rfl
    · intro j hj
      rw [e31, upV_ne (by decide)]
      rw [g30 4 (by decide)]
      rw [e29, upW_ne (by decide)]
      rw [e28, upV_ne (by decide)]
      rw [g27 4 (by decide)]
      rw [e26, upW_ne (by decide)]
      rw [e25, upV_ne (by decide)]
      rw [g24 4 (by decide)]
      rw [e23, upW_ne (by decide)]
      rw [e22, upV_ne (by decide)]
      rw [g21 4 (by decide)]
      rw [e20, upW_ne (by decide)]
      rw [e19, upV_ne (by decide)]
      rw [e18, upW_ne (by decide)]
      rw [e17, upV_ne (by decide)]
      rw [e16, upW_ne (by decide)]
      rw [e15, upV_ne (by decide)]
      rw [e14, upW_ne (by decide)]
      rw [e13, upV_ne (by decide)]
      rw [g12 4 (by decide)]
      rw [e11, upW_ne (by decide)]
      rw [e10, upV_ne (by decide)]
      rw [e9, upV_ne (by decide)]
      rw [g8 4 (by decide)]
      rw [e7, upW_ne (by decide)]
      rw [e6, upV_ne (by decide)]
      rw [g5 4 (by decide)]
      rw [e4, upW_ne (by decide)]
      rw [e3, upV_ne (by decide)]
      refine (f2 4 (by decide) (by decide) j hj).trans ?_
      try rfl
    · intro j hj
      rw [e31, upV_ne (by decide)]
      rw [g30 5 (by decide)]
      rw [e29, upW_ne (by decide)]
      rw [e28, upV_ne (by decide)]
      rw [g27 5 (by decide)]
      rw [e26, upW_ne (by decide)]
      rw [e25, upV_ne (by decide)]
      rw [g24 5 (by decide)]
      rw [e23, upW_ne (by decide)]
      rw [e22, upV_ne (by decide)]
      rw [g21 5 (by decide)]
      rw [e20, upW_ne (by decide)]
      rw [e19, upV_ne (by decide)]
      rw [e18, upW_ne (by decide)]
      rw [e17, upV_ne (by decide)]
      rw [e16, upW_ne (by decide)]
      rw [e15, upV_ne (by decide)]
      rw [e14, upW_ne (by decide)]
      rw [e13, upV_ne (by decide)]
      rw [g12 5 (by decide)]
      rw [e11, upW_ne (by decide)]
      rw [e10, upV_ne (by decide)]
      rw [e9, upV_ne (by decide)]
      rw [g8 5 (by decide)]
      rw [e7, upW_ne (by decide)]
      rw [e6, upV_ne (by decide)]
      rw [g5 5 (by decide)]
      rw [e4, upW_ne (by decide)]
      rw [e3, upV_ne (by decide)]
      refine (f2 5 (by decide) (by decide) j hj).trans ?_
      try rfl
    · intro j hj
      rw [e31, upV_ne (by decide)]
      rw [g30 6 (by decide)]
      rw [e29, upW_ne (by decide)]
      rw [e28, upV_ne (by decide)]
      rw [g27 6 (by decide)]
      rw [e26, upW_ne (by decide)]
      rw [e25, upV_ne (by decide)]
      rw [g24 6 (by decide)]
      rw [e23, upW_ne (by decide)]
      rw [e22, upV_ne (by decide)]
      rw [g21 6 (by decide)]
      rw [e20, upW_ne (by decide)]
      rw [e19, upV_ne (by decide)]
      rw [e18, upW_ne (by decide)]
      rw [e17, upV_ne (by decide)]
      rw [e16, upW_ne (by decide)]
      rw [e15, upV_ne (by decide)]
      rw [e14, upW_ne (by decide)]
      rw [e13, upV_ne (by decide)]
      rw [g12 6 (by decide)]
      rw [e11, upW_ne (by decide)]
      rw [e10, upV_ne (by decide)]
      rw [e9, upV_ne (by decide)]
      rw [g8 6 (by decide)]
      rw [e7, upW_ne (by decide)]
      rw [e6, upV_ne (by decide)]
      rw [g5 6 (by decide)]
      rw [e4, upW_ne (by decide)]
      rw [e3, upV_ne (by decide)]
      refine (f2 6 (by decide) (by decide) j hj).trans ?_
      try rfl
    · intro j hj
      rw [e31, upV_ne (by decide)]
      rw [g30 7 (by decide)]
      rw [e29, upW_ne (by decide)]
      rw [e28, upV_ne (by decide)]
      rw [g27 7 (by decide)]
      rw [e26, upW_ne (by decide)]
      rw [e25, upV_ne (by decide)]
      rw [g24 7 (by decide)]
      rw [e23, upW_ne (by decide)]
      rw [e22, upV_ne (by decide)]
      rw [g21 7 (by decide)]
      rw [e20, upW_ne (by decide)]
      rw [e19, upV_ne (by decide)]
      rw [e18, upW_ne (by decide)]
      rw [e17, upV_ne (by decide)]
      rw [e16, upW_ne (by decide)]
      rw [e15, upV_ne (by decide)]
      rw [e14, upW_ne (by decide)]
      rw [e13, upV_ne (by decide)]
      rw [g12 7 (by decide)]
      rw [e11, upW_ne (by decide)]
      rw [e10, upV_ne (by decide)]
      rw [e9, upV_ne (by decide)]
      rw [g8 7 (by decide)]
      rw [e7, upW_ne (by decide)]
      rw [e6, upV_ne (by decide)]
      rw [g5 7 (by decide)]
      rw [e4, upW_ne (by decide)]
      rw [e3, upV_ne (by decide)]
      refine (f2 7 (by decide) (by decide) j hj).trans ?_
      try rfl
    · intro j hj
      rw [e31, upV_ne (by decide)]
      rw [g30 8 (by decide)]
      rw [e29, upW_ne (by decide)]
      rw [e28, upV_ne (by decide)]
      rw [g27 8 (by decide)]
      rw [e26, upW_ne (by decide)]
      rw [e25, upV_ne (by decide)]
      rw [g24 8 (by decide)]
      rw [e23, upW_ne (by decide)]
      rw [e22, upV_ne (by decide)]
      rw [g21 8 (by decide)]
      rw [e20, upW_ne (by decide)]
      rw [e19, upV_ne (by decide)]
      rw [e18, upW_ne (by decide)]
      rw [e17, upV_ne (by decide)]
      rw [e16, upW_ne (by decide)]
      rw [e15, upV_ne (by decide)]
      rw [e14, upW_ne (by decide)]
      rw [e13, upV_ne (by decide)]
      rw [g12 8 (by decide)]
      rw [e11, upW_ne (by decide)]
      rw [e10, upV_ne (by decide)]
      rw [e9, upV_ne (by decide)]
      rw [g8 8 (by decide)]
      rw [e7, upW_ne (by decide)]
      rw [e6, upV_ne (by decide)]
      rw [g5 8 (by decide)]
      rw [e4, upW_ne (by decide)]
      rw [e3, upV_ne (by decide)]
      refine (f2 8 (by decide) (by decide) j hj).trans ?_
      try rfl
    · intro j hj
      rw [e31, upV_ne (by decide)]
      rw [g30 9 (by decide)]
      rw [e29, upW_ne (by decide)]
      rw [e28, upV_ne (by decide)]
      rw [g27 9 (by decide)]
      rw [e26, upW_ne (by decide)]
      rw [e25, upV_ne (by decide)]
      rw [g24 9 (by decide)]
      rw [e23, upW_ne (by decide)]
      rw [e22, upV_ne (by decide)]
      rw [g21 9 (by decide)]
      rw [e20, upW_ne (by decide)]
      rw [e19, upV_ne (by decide)]
      rw [e18, upW_ne (by decide)]
      rw [e17, upV_ne (by decide)]
      rw [e16, upW_ne (by decide)]
      rw [e15, upV_ne (by decide)]
      rw [e14, upW_ne (by decide)]
      rw [e13, upV_ne (by decide)]
      rw [g12 9 (by decide)]
      rw [e11, upW_ne (by decide)]
      rw [e10, upV_ne (by decide)]
      rw [e9, upV_ne (by decide)]
      rw [g8 9 (by decide)]
      rw [e7, upW_ne (by decide)]
      rw [e6, upV_ne (by decide)]
      rw [g5 9 (by decide)]
      rw [e4, upW_ne (by decide)]
      rw [e3, upV_ne (by decide)]
      refine (f2 9 (by decide) (by decide) j hj).trans ?_
      try rfl
    · intro j hj
      rw [e31, upV_ne (by decide)]
      rw [g30 10 (by decide)]
      rw [e29, upW_ne (by decide)]
      rw [e28, upV_ne (by decide)]
      rw [g27 10 (by decide)]
      rw [e26, upW_ne (by decide)]
      rw [e25, upV_ne (by decide)]
      rw [g24 10 (by decide)]
      rw [e23, upW_ne (by decide)]
      rw [e22, upV_ne (by decide)]
      rw [g21 10 (by decide)]
      rw [e20, upW_ne (by decide)]
      rw [e19, upV_ne (by decide)]
      rw [e18, upW_ne (by decide)]
      rw [e17, upV_ne (by decide)]
      rw [e16, upW_ne (by decide)]
      rw [e15, upV_ne (by decide)]
      rw [e14, upW_ne (by decide)]
      rw [e13, upV_ne (by decide)]
      rw [g12 10 (by decide)]
      rw [e11, upW_ne (by decide)]
      rw [e10, upV_ne (by decide)]
      rw [e9, upV_ne (by decide)]
      rw [g8 10 (by decide)]
      rw [e7, upW_ne (by decide)]
      rw [e6, upV_ne (by decide)]
      refine (f5 10 (by decide) (by decide) j hj).trans ?_
      try rfl
    · intro j hj
      rw [e31, upV_ne (by decide)]
      rw [g30 11 (by decide)]
      rw [e29, upW_ne (by decide)]
      rw [e28, upV_ne (by decide)]
      rw [g27 11 (by decide)]
      rw [e26, upW_ne (by decide)]
      rw [e25, upV_ne (by decide)]
      rw [g24 11 (by decide)]
      rw [e23, upW_ne (by decide)]
      rw [e22, upV_ne (by decide)]
      rw [g21 11 (by decide)]
      rw [e20, upW_ne (by decide)]
      rw [e19, upV_ne (by decide)]
      rw [e18, upW_ne (by decide)]
      rw [e17, upV_ne (by decide)]
      rw [e16, upW_ne (by decide)]
      rw [e15, upV_ne (by decide)]
      rw [e14, upW_ne (by decide)]
      rw [e13, upV_ne (by decide)]
      rw [g12 11 (by decide)]
      rw [e11, upW_ne (by decide)]
      rw [e10, upV_ne (by decide)]
      rw [e9, upV_ne (by decide)]
      rw [g8 11 (by decide)]
      rw [e7, upW_ne (by decide)]
      rw [e6, upV_ne (by decide)]
      refine (f5 11 (by decide) (by decide) j hj).trans ?_
      try rfl
    · intro j hj
      rw [e31, upV_ne (by decide)]
      rw [g30 12 (by decide)]
      rw [e29, upW_ne (by decide)]
      rw [e28, upV_ne (by decide)]
      rw [g27 12 (by decide)]
      rw [e26, upW_ne (by decide)]
      rw [e25, upV_ne (by decide)]
      rw [g24 12 (by decide)]
      rw [e23, upW_ne (by decide)]
      rw [e22, upV_ne (by decide)]
      rw [g21 12 (by decide)]
      rw [e20, upW_ne (by decide)]
      rw [e19, upV_ne (by decide)]
      rw [e18, upW_ne (by decide)]
      rw [e17, upV_ne (by decide)]
      rw [e16, upW_ne (by decide)]
      rw [e15, upV_ne (by decide)]
      rw [e14, upW_ne (by decide)]
      rw [e13, upV_ne (by decide)]
      rw [g12 12 (by decide)]
      rw [e11, upW_ne (by decide)]
      rw [e10, upV_ne (by decide)]
      rw [e9, upV_ne (by decide)]
      rw [g8 12 (by decide)]
      rw [e7, upW_ne (by decide)]
      rw [e6, upV_ne (by decide)]
      refine (f5 12 (by decide) (by decide) j hj).trans ?_
      try rfl
    · intro j hj
      rw [e31, upV_ne (by decide)]
      rw [g30 13 (by decide)]
      rw [e29, upW_ne (by decide)]
      rw [e28, upV_ne (by decide)]
      rw [g27 13 (by decide)]
      rw [e26, upW_ne (by decide)]
      rw [e25, upV_ne (by decide)]
      rw [g24 13 (by decide)]
      rw [e23, upW_ne (by decide)]
      rw [e22, upV_ne (by decide)]
      rw [g21 13 (by decide)]
      rw [e20, upW_ne (by decide)]
      rw [e19, upV_ne (by decide)]
      rw [e18, upW_ne (by decide)]
      rw [e17, upV_ne (by decide)]
      rw [e16, upW_ne (by decide)]
      rw [e15, upV_ne (by decide)]
      rw [e14, upW_ne (by decide)]
      rw [e13, upV_ne (by decide)]
      rw [g12 13 (by decide)]
      rw [e11, upW_ne (by decide)]
      rw [e10, upV_ne (by decide)]
      rw [e9, upV_ne (by decide)]
      rw [g8 13 (by decide)]
      rw [e7, upW_ne (by decide)]
      rw [e6, upV_ne (by decide)]
      refine (f5 13 (by decide) (by decide) j hj).trans ?_
      try rfl
    · intro j hj
      rw [e31, upV_ne (by decide)]
      rw [g30 14 (by decide)]
      rw [e29, upW_ne (by decide)]
      rw [e28, upV_ne (by decide)]
      rw [g27 14 (by decide)]
      rw [e26, upW_ne (by decide)]
      rw [e25, upV_ne (by decide)]
      rw [g24 14 (by decide)]
      rw [e23, upW_ne (by decide)]
      rw [e22, upV_ne (by decide)]
      rw [g21 14 (by decide)]
      rw [e20, upW_ne (by decide)]
      rw [e19, upV_ne (by decide)]
      rw [e18, upW_ne (by decide)]
      rw [e17, upV_ne (by decide)]
      rw [e16, upW_ne (by decide)]
      rw [e15, upV_ne (by decide)]
      rw [e14, upW_ne (by decide)]
      rw [e13, upV_ne (by decide)]
      rw [g12 14 (by decide)]
      rw [e11, upW_ne (by decide)]
      rw [e10, upV_ne (by decide)]
      rw [e9, upV_ne (by decide)]
      rw [g8 14 (by decide)]
      rw [e7, upW_ne (by decide)]
      rw [e6, upV_ne (by decide)]
      refine (f5 14 (by decide) (by decide) j hj).trans ?_
      try rfl
    · intro j hj
      rw [e31, upV_ne (by decide)]
      rw [g30 15 (by decide)]
      rw [e29, upW_ne (by decide)]
      rw [e28, upV_ne (by decide)]
      rw [g27 15 (by decide)]
      rw [e26, upW_ne (by decide)]
      rw [e25, upV_ne (by decide)]
      rw [g24 15 (by decide)]
      rw [e23, upW_ne (by decide)]
      rw [e22, upV_ne (by decide)]
      rw [g21 15 (by decide)]
      rw [e20, upW_ne (by decide)]
      rw [e19, upV_ne (by decide)]
      rw [e18, upW_ne (by decide)]
      rw [e17, upV_ne (by decide)]
      rw [e16, upW_ne (by decide)]
      rw [e15, upV_ne (by decide)]
      rw [e14, upW_ne (by decide)]
      rw [e13, upV_ne (by decide)]
      rw [g12 15 (by decide)]
      rw [e11, upW_ne (by decide)]
      rw [e10, upV_ne (by decide)]
      rw [e9, upV_ne (by decide)]
      rw [g8 15 (by decide)]
      rw [e7, upW_ne (by decide)]
      rw [e6, upV_ne (by decide)]
      refine (f5 15 (by decide) (by decide) j hj).trans ?_
      try rfl
    · intro j hj
      rw [e31, upV_ne (by decide)]
      rw [g30 16 (by decide)]
      rw [e29, upW_ne (by decide)]
      rw [e28, upV_ne (by decide)]
      rw [g27 16 (by decide)]
      rw [e26, upW_ne (by decide)]
      rw [e25, upV_ne (by decide)]
      rw [g24 16 (by decide)]
      rw [e23, upW_ne (by decide)]
      rw [e22, upV_ne (by decide)]
      rw [g21 16 (by decide)]
      rw [e20, upW_ne (by decide)]
      rw [e19, upV_ne (by decide)]
      rw [e18, upW_ne (by decide)]
      rw [e17, upV_ne (by decide)]
      rw [e16, upW_ne (by decide)]
      rw [e15, upV_ne (by decide)]
      rw [e14, upW_ne (by decide)]
      rw [e13, upV_ne (by decide)]
      rw [g12 16 (by decide)]
      rw [e11, upW_ne (by decide)]
      rw [e10, upV_ne (by decide)]
      rw [e9, upV_ne (by decide)]
      rw [g8 16 (by decide)]
      rw [e7, upW_ne (by decide)]
      rw [e6, upV_ne (by decide)]
      refine (f5 16 (by decide) (by decide) j hj).trans ?_
      try rfl
    · intro j hj
      rw [e31, upV_ne (by decide)]
      rw [g30 17 (by decide)]
      rw [e29, upW_ne (by decide)]
      rw [e28, upV_ne (by decide)]
      rw [g27 17 (by decide)]
      rw [e26, upW_ne (by decide)]
      rw [e25, upV_ne (by decide)]
      rw [g24 17 (by decide)]
      rw [e23, upW_ne (by decide)]
      rw [e22, upV_ne (by decide)]
      rw [g21 17 (by decide)]
      rw [e20, upW_ne (by decide)]
      rw [e19, upV_ne (by decide)]
      rw [e18, upW_ne (by decide)]
      rw [e17, upV_ne (by decide)]
      rw [e16, upW_ne (by decide)]
      rw [e15, upV_ne (by decide)]
      rw [e14, upW_ne (by decide)]
      rw [e13, upV_ne (by decide)]
      rw [g12 17 (by decide)]
      rw [e11, upW_ne (by decide)]
      rw [e10, upV_ne (by decide)]
      rw [e9, upV_ne (by decide)]
      rw [g8 17 (by decide)]
      rw [e7, upW_ne (by decide)]
      rw [e6, upV_ne (by decide)]
      refine (f5 17 (by decide) (by decide) j hj).trans ?_
      try rfl
    · intro j hj
      rw [e31, upV_ne (by decide)]
      rw [g30 18 (by decide)]
      rw [e29, upW_ne (by decide)]
      rw [e28, upV_ne (by decide)]
      rw [g27 18 (by decide)]
      rw [e26, upW_ne (by decide)]
      rw [e25, upV_ne (by decide)]
      rw [g24 18 (by decide)]
      rw [e23, upW_ne (by decide)]
      rw [e22, upV_ne (by decide)]
      rw [g21 18 (by decide)]
      rw [e20, upW_ne (by decide)]
      rw [e19, upV_ne (by decide)]
      rw [e18, upW_ne (by decide)]
      rw [e17, upV_ne (by decide)]
      rw [e16, upW_ne (by decide)]
      rw [e15, upV_ne (by decide)]
      rw [e14, upW_ne (by decide)]
      rw [e13, upV_ne (by decide)]
      rw [g12 18 (by decide)]
      rw [e11, upW_ne (by decide)]
      rw [e10, upV_ne (by decide)]
      rw [e9, upV_ne (by decide)]
      rw [g8 18 (by decide)]
      rw [e7, upW_ne (by decide)]
      rw [e6, upV_ne (by decide)]
      refine (f5 18 (by decide) (by decide) j hj).trans ?_
      try rfl
    · intro j hj
      rw [e31, upV_ne (by decide)]
      rw [g30 19 (by decide)]
      rw [e29, upW_ne (by decide)]
      rw [e28, upV_ne (by decide)]
      rw [g27 19 (by decide)]
      rw [e26, upW_ne (by decide)]
      rw [e25, upV_ne (by decide)]
      rw [g24 19 (by decide)]
      rw [e23, upW_ne (by decide)]
      rw [e22, upV_ne (by decide)]
      rw [g21 19 (by decide)]
      rw [e20, upW_ne (by decide)]
      rw [e19, upV_ne (by decide)]
      rw [e18, upW_ne (by decide)]
      rw [e17, upV_ne (by decide)]
      rw [e16, upW_ne (by decide)]
      rw [e15, upV_ne (by decide)]
      rw [e14, upW_ne (by decide)]
      rw [e13, upV_ne (by decide)]
      rw [g12 19 (by decide)]
      rw [e11, upW_ne (by decide)]
      rw [e10, upV_ne (by decide)]
      rw [e9, upV_ne (by decide)]
      refine (f8 19 (by decide) (by decide) j hj).trans ?_
      try rfl
    · intro j hj
      rw [e31, upV_ne (by decide)]
      rw [g30 20 (by decide)]
      rw [e29, upW_ne (by decide)]
      rw [e28, upV_ne (by decide)]
      rw [g27 20 (by decide)]
      rw [e26, upW_ne (by decide)]
      rw [e25, upV_ne (by decide)]
      rw [g24 20 (by decide)]
      rw [e23, upW_ne (by decide)]
      rw [e22, upV_ne (by decide)]
      rw [g21 20 (by decide)]
      rw [e20, upW_ne (by decide)]
      rw [e19, upV_ne (by decide)]
      rw [e18, upW_ne (by decide)]
      rw [e17, upV_ne (by decide)]
      rw [e16, upW_ne (by decide)]
      rw [e15, upV_ne (by decide)]
      rw [e14, upW_ne (by decide)]
      rw [e13, upV_ne (by decide)]
      rw [g12 20 (by decide)]
      rw [e11, upW_ne (by decide)]
      rw [e10, upV_ne (by decide)]
      rw [e9, upV_ne (by decide)]
      refine (f8 20 (by decide) (by decide) j hj).trans ?_
      try rfl
    · intro j hj
      rw [e31, upV_ne (by decide)]
      rw [g30 21 (by decide)]
      rw [e29, upW_ne (by decide)]
      rw [e28, upV_ne (by decide)]
      rw [g27 21 (by decide)]
      rw [e26, upW_ne (by decide)]
      rw [e25, upV_ne (by decide)]
      rw [g24 21 (by decide)]
      rw [e23, upW_ne (by decide)]
      rw [e22, upV_ne (by decide)]
      rw [g21 21 (by decide)]
      rw [e20, upW_ne (by decide)]
      rw [e19, upV_ne (by decide)]
      rw [e18, upW_ne (by decide)]
      rw [e17, upV_ne (by decide)]
      rw [e16, upW_ne (by decide)]
      rw [e15, upV_ne (by decide)]
      rw [e14, upW_ne (by decide)]
      rw [e13, upV_ne (by decide)]
      rw [g12 21 (by decide)]
      rw [e11, upW_ne (by decide)]
      rw [e10, upV_ne (by decide)]
      rw [e9, upV_ne (by decide)]
      refine (f8 21 (by decide) (by decide) j hj).trans ?_
      try rfl
    · intro j hj
      rw [e31, upV_ne (by decide)]
      rw [g30 22 (by decide)]
      rw [e29, upW_ne (by decide)]
      rw [e28, upV_ne (by decide)]
      rw [g27 22 (by decide)]
      rw [e26, upW_ne (by decide)]
      rw [e25, upV_ne (by decide)]
      rw [g24 22 (by decide)]
      rw [e23, upW_ne (by decide)]
      rw [e22, upV_ne (by decide)]
      rw [g21 22 (by decide)]
      rw [e20, upW_ne (by decide)]
      rw [e19, upV_ne (by decide)]
      rw [e18, upW_ne (by decide)]
      rw [e17, upV_ne (by decide)]
      rw [e16, upW_ne (by decide)]
      rw [e15, upV_ne (by decide)]
      rw [e14, upW_ne (by decide)]
      rw [e13, upV_ne (by decide)]
      rw [g12 22 (by decide)]
      rw [e11, upW_ne (by decide)]
      rw [e10, upV_ne (by decide)]
      rw [e9, upV_ne (by decide)]
      refine (f8 22 (by decide) (by decide) j hj).trans ?_
      try rfl
    · intro j hj
      rw [e31, upV_ne (by decide)]
      rw [g30 23 (by decide)]
      rw [e29, upW_ne (by decide)]
      rw [e28, upV_ne (by decide)]
      rw [g27 23 (by decide)]
      rw [e26, upW_ne (by decide)]
      rw [e25, upV_ne (by decide)]
      rw [g24 23 (by decide)]
      rw [e23, upW_ne (by decide)]
      rw [e22, upV_ne (by decide)]
      rw [g21 23 (by decide)]
      rw [e20, upW_ne (by decide)]
      rw [e19, upV_ne (by decide)]
      rw [e18, upW_ne (by decide)]
      rw [e17, upV_ne (by decide)]
      rw [e16, upW_ne (by decide)]
      rw [e15, upV_ne (by decide)]
      rw [e14, upW_ne (by decide)]
      rw [e13, upV_ne (by decide)]
      rw [g12 23 (by decide)]
      rw [e11, upW_ne (by decide)]
      rw [e10, upV_ne (by decide)]
      rw [e9, upV_ne (by decide)]
      refine (f8 23 (by decide) (by decide) j hj).trans ?_
      try rfl
    · intro j hj
      rw [e31, upV_ne (by decide)]
      rw [g30 24 (by decide)]
      rw [e29, upW_ne (by decide)]
      rw [e28, upV_ne (by decide)]
      rw [g27 24 (by decide)]
      rw [e26, upW_ne (by decide)]
      rw [e25, upV_ne (by decide)]
      rw [g24 24 (by decide)]
      rw [e23, upW_ne (by decide)]
      rw [e22, upV_ne (by decide)]
      rw [g21 24 (by decide)]
      rw [e20, upW_ne (by decide)]
      rw [e19, upV_ne (by decide)]
      rw [e18, upW_ne (by decide)]
      rw [e17, upV_ne (by decide)]
      rw [e16, upW_ne (by decide)]
      rw [e15, upV_ne (by decide)]
      rw [e14, upW_ne (by decide)]
      rw [e13, upV_ne (by decide)]
      rw [g12 24 (by decide)]
      rw [e11, upW_ne (by decide)]
      rw [e10, upV_ne (by decide)]
      rw [e9, upV_ne (by decide)]
      refine (f8 24 (by decide) (by decide) j hj).trans ?_
      try rfl
    · intro j hj
      rw [e31, upV_ne (by decide)]
      rw [g30 25 (by decide)]
      rw [e29, upW_ne (by decide)]
      rw [e28, upV_ne (by decide)]
      rw [g27 25 (by decide)]
      rw [e26, upW_ne (by decide)]
      rw [e25, upV_ne (by decide)]
      rw [g24 25 (by decide)]
      rw [e23, upW_ne (by decide)]
      rw [e22, upV_ne (by decide)]
      rw [g21 25 (by decide)]
      rw [e20, upW_ne (by decide)]
      rw [e19, upV_ne (by decide)]
      rw [e18, upW_ne (by decide)]
      rw [e17, upV_ne (by decide)]
      rw [e16, upW_ne (by decide)]
      rw [e15, upV_ne (by decide)]
      rw [e14, upW_ne (by decide)]
      rw [e13, upV_ne (by decide)]
      rw [g12 25 (by decide)]
      rw [e11, upW_ne (by decide)]
      rw [e10, upV_ne (by decide)]
      rw [e9, upV_ne (by decide)]
      refine (f8 25 (by decide) (by decide) j hj).trans ?_
      try rfl
    · intro j hj
      rw [e31, upV_ne (by decide)]
      rw [g30 26 (by decide)]
      rw [e29, upW_ne (by decide)]
      rw [e28, upV_ne (by decide)]
      rw [g27 26 (by decide)]
      rw [e26, upW_ne (by decide)]
      rw [e25, upV_ne (by decide)]
      rw [g24 26 (by decide)]
      rw [e23, upW_ne (by decide)]
      rw [e22, upV_ne (by decide)]
      rw [g21 26 (by decide)]
      rw [e20, upW_ne (by decide)]
      rw [e19, upV_ne (by decide)]
      rw [e18, upW_ne (by decide)]
      rw [e17, upV_ne (by decide)]
      rw [e16, upW_ne (by decide)]
      rw [e15, upV_ne (by decide)]
      rw [e14, upW_ne (by decide)]
      rw [e13, upV_ne (by decide)]
      rw [g12 26 (by decide)]
      rw [e11, upW_ne (by decide)]
      rw [e10, upV_ne (by decide)]
      rw [e9, upV_ne (by decide)]
      refine (f8 26 (by decide) (by decide) j hj).trans ?_
      try rfl
    · intro j hj
      rw [e31, upV_ne (by decide)]
      rw [g30 27 (by decide)]
      rw [e29, upW_ne (by decide)]
      rw [e28, upV_ne (by decide)]
      rw [g27 27 (by decide)]
      rw [e26, upW_ne (by decide)]
      rw [e25, upV_ne (by decide)]
      rw [g24 27 (by decide)]
      rw [e23, upW_ne (by decide)]
      rw [e22, upV_ne (by decide)]
      rw [g21 27 (by decide)]
      rw [e20, upW_ne (by decide)]
      rw [e19, upV_ne (by decide)]
      rw [e18, upW_ne (by decide)]
      rw [e17, upV_ne (by decide)]
      rw [e16, upW_ne (by decide)]
      rw [e15, upV_ne (by decide)]
      rw [e14, upW_ne (by decide)]
      rw [e13, upV_ne (by decide)]
      rw [g12 27 (by decide)]
      rw [e11, upW_ne (by decide)]
      rw [e10, upV_ne (by decide)]
      rw [e9, upV_ne (by decide)]
      refine (f8 27 (by decide) (by decide) j hj).trans ?_
      try rfl
    · intro j hj
      rw [e31, upV_ne (by decide)]
      rw [g30 28 (by decide)]
      rw [e29, upW_ne (by decide)]
      rw [e28, upV_ne (by decide)]
      rw [g27 28 (by decide)]
      rw [e26, upW_ne (by decide)]
      rw [e25, upV_ne (by decide)]
      rw [g24 28 (by decide)]
      rw [e23, upW_ne (by decide)]
      rw [e22, upV_ne (by decide)]
      rw [g21 28 (by decide)]
      rw [e20, upW_ne (by decide)]
      rw [e19, upV_ne (by decide)]
      rw [e18, upW_ne (by decide)]
      rw [e17, upV_ne (by decide)]
      rw [e16, upW_ne (by decide)]
      rw [e15, upV_ne (by decide)]
      rw [e14, upW_ne (by decide)]
      rw [e13, upV_ne (by decide)]
      refine (f12 28 (by decide) (by decide) j hj).trans ?_
      try rfl
    · intro j hj
      rw [e31, upV_ne (by decide)]
      rw [g30 29 (by decide)]
      rw [e29, upW_ne (by decide)]
      rw [e28, upV_ne (by decide)]
      rw [g27 29 (by decide)]
      rw [e26, upW_ne (by decide)]
      rw [e25, upV_ne (by decide)]
      rw [g24 29 (by decide)]
      rw [e23, upW_ne (by decide)]
      rw [e22, upV_ne (by decide)]
      rw [g21 29 (by decide)]
      rw [e20, upW_ne (by decide)]
      rw [e19, upV_ne (by decide)]
      rw [e18, upW_ne (by decide)]
      rw [e17, upV_ne (by decide)]
      rw [e16, upW_ne (by decide)]
      rw [e15, upV_ne (by decide)]
      rw [e14, upW_ne (by decide)]
      rw [e13, upV_ne (by decide)]
      refine (f12 29 (by decide) (by decide) j hj).trans ?_
      try rfl
    · intro j hj
      have hj : j < 4 := hj
      rcases Nat.eq_or_lt_of_le (show j ≤ 3 by omega) with hq | hq
      · subst hq; rw [e31, upV_s]; try rfl
      replace hj : j < 3 := hq
      rcases Nat.eq_or_lt_of_le (show j ≤ 2 by omega) with hq | hq
      · subst hq; rw [e31, upV_o (by decide)]; rw [g30 30 (by decide)]; rw [e29, upW_ne (by decide)]; rw [e28, upV_s]; try rfl
      replace hj : j < 2 := hq
      rcases Nat.eq_or_lt_of_le (show j ≤ 1 by omega) with hq | hq
      · subst hq; rw [e31, upV_o (by decide)]; rw [g30 30 (by decide)]; rw [e29, upW_ne (by decide)]; rw [e28, upV_o (by decide)]; rw [g27 30 (by decide)]; rw [e26, upW_ne (by decide)]; rw [e25, upV_s]; try rfl
      replace hj : j < 1 := hq
      obtain rfl : j = 0 := by omega
      rw [e31, upV_o (by decide)]
      rw [g30 30 (by decide)]
      rw [e29, upW_ne (by decide)]
      rw [e28, upV_o (by decide)]
      rw [g27 30 (by decide)]
      rw [e26, upW_ne (by decide)]
      rw [e25, upV_o (by decide)]
      rw [g24 30 (by decide)]
      rw [e23, upW_ne (by decide)]
      rw [e22, upV_s]
      try rfl
    · intro j hj
      rw [e31, upV_ne (by decide)]
      rw [g30 31 (by decide)]
      rw [e29, upW_ne (by decide)]
      rw [e28, upV_ne (by decide)]
      rw [g27 31 (by decide)]
      rw [e26, upW_ne (by decide)]
      rw [e25, upV_ne (by decide)]
      rw [g24 31 (by decide)]
      rw [e23, upW_ne (by decide)]
      rw [e22, upV_ne (by decide)]
      rw [g21 31 (by decide)]
      rw [e20, upW_ne (by decide)]
      rw [e19, upV_ne (by decide)]
      rw [e18, upW_ne (by decide)]
      rw [e17, upV_ne (by decide)]
      rw [e16, upW_s]
      try rfl
    · intro j hj
      rw [e31, upV_ne (by decide)]
      rw [g30 32 (by decide)]
      rw [e29, upW_ne (by decide)]
      rw [e28, upV_ne (by decide)]
      rw [g27 32 (by decide)]
      rw [e26, upW_ne (by decide)]
      rw [e25, upV_ne (by decide)]
      rw [g24 32 (by decide)]
      rw [e23, upW_ne (by decide)]
      rw [e22, upV_ne (by decide)]
      rw [g21 32 (by decide)]
      rw [e20, upW_ne (by decide)]
      rw [e19, upV_ne (by decide)]
      rw [e18, upW_s]
      try rfl
    · intro j hj
      rw [e31, upV_ne (by decide)]
      rw [g30 33 (by decide)]
      rw [e29, upW_ne (by decide)]
      rw [e28, upV_ne (by decide)]
      rw [g27 33 (by decide)]
      rw [e26, upW_ne (by decide)]
      rw [e25, upV_ne (by decide)]
      rw [g24 33 (by decide)]
      rw [e23, upW_ne (by decide)]
      rw [e22, upV_ne (by decide)]
      refine (f21 33 (by decide) (by decide) j hj).trans ?_
      try rfl
    · intro j hj
      rw [e31, upV_ne (by decide)]
      rw [g30 34 (by decide)]
      rw [e29, upW_ne (by decide)]
      rw [e28, upV_ne (by decide)]
      rw [g27 34 (by decide)]
      rw [e26, upW_ne (by decide)]
      rw [e25, upV_ne (by decide)]
      rw [g24 34 (by decide)]
      rw [e23, upW_ne (by decide)]
      rw [e22, upV_ne (by decide)]
      refine (f21 34 (by decide) (by decide) j hj).trans ?_
      try rfl
    · intro j hj
      rw [e31, upV_ne (by decide)]
      rw [g30 35 (by decide)]
      rw [e29, upW_ne (by decide)]
      rw [e28, upV_ne (by decide)]
      rw [g27 35 (by decide)]
      rw [e26, upW_ne (by decide)]
      rw [e25, upV_ne (by decide)]
      refine (f24 35 (by decide) (by decide) j hj).trans ?_
      try rfl
    · intro j hj
      rw [e31, upV_ne (by decide)]
      rw [g30 36 (by decide)]
      rw [e29, upW_ne (by decide)]
      rw [e28, upV_ne (by decide)]
      rw [g27 36 (by decide)]
      rw [e26, upW_ne (by decide)]
      rw [e25, upV_ne (by decide)]
      refine (f24 36 (by decide) (by decide) j hj).trans ?_
      try rfl
    · intro j hj
      rw [e31, upV_ne (by decide)]
      rw [g30 37 (by decide)]
      rw [e29, upW_ne (by decide)]
      rw [e28, upV_ne (by decide)]
      refine (f27 37 (by decide) (by decide) j hj).trans ?_
      try rfl
    · intro j hj
      rw [e31, upV_ne (by decide)]
      rw [g30 38 (by decide)]
      rw [e29, upW_ne (by decide)]
      rw [e28, upV_ne (by decide)]
      refine (f27 38 (by decide) (by decide) j hj).trans ?_
      try rfl
    · intro j hj
      rw [e31, upV_ne (by decide)]
      refine (f30 39 (by decide) (by decide) j hj).trans ?_
      try rfl
    · intro j hj
      rw [e31, upV_ne (by decide)]
      refine (f30 40 (by decide) (by decide) j hj).trans ?_
      try rfl
  · skip
    rw [e31, upV_ne (by omega)]
    rw [g30 c (by omega)]
    rw [e29, upW_ne (by omega)]
    rw [e28, upV_ne (by omega)]
    rw [g27 c (by omega)]
    rw [e26, upW_ne (by omega)]
    rw [e25, upV_ne (by omega)]
    rw [g24 c (by omega)]
    rw [e23, upW_ne (by omega)]
    rw [e22, upV_ne (by omega)]
    rw [g21 c (by omega)]
    rw [e20, upW_ne (by omega)]
    rw [e19, upV_ne (by omega)]
    rw [e18, upW_ne (by omega)]
    rw [e17, upV_ne (by omega)]
    rw [e16, upW_ne (by omega)]
    rw [e15, upV_ne (by omega)]
    rw [e14, upW_ne (by omega)]
    rw [e13, upV_ne (by omega)]
    rw [g12 c (by omega)]
    rw [e11, upW_ne (by omega)]
    rw [e10, upV_ne (by omega)]
    rw [e9, upV_ne (by omega)]
    rw [g8 c (by omega)]
    rw [e7, upW_ne (by omega)]
    rw [e6, upV_ne (by omega)]
    rw [g5 c (by omega)]
    rw [e4, upW_ne (by omega)]
    rw [e3, upV_ne (by omega)]
    rw [g2 c (by omega)]
    rw [e1, upW_ne (by omega)]
set_option maxHeartbeats 4000000 in
set_option maxRecDepth 100000 in
theorem n_X4_init_41 (l : Launch) (E : x_E) (ω : x_Om) (h0 : ω 41 = dvM) : x_NM l m_X4_init E [.ref (E.1 + 41)] ω 42 (fun ω' n' => n' = 52 ∧ (∀ c, 41 ≤ c → c < 52 → okC E ω' c) ∧ ∀ c, c < 41 → ω' c = ω c) 10 535 := by
  refine n_enter (lv := [(0, .ref (E.1 + 41))]) true (fun _ => rfl) (by decide +kernel) (Nat.le_of_ble_eq_true rfl) rfl ?_
  refine n_aload_n 0 d_X4_init_0 rfl rfl ?_
  refine n_obj q667 (Nat.le_of_ble_eq_true rfl) (Nat.le_of_ble_eq_true rfl) d_X4_init_1 ?_
  refine n_aload_n 0 d_X4_init_4 rfl rfl ?_
  refine n_bipush (x := 58) d_X4_init_5 (by decide) ?_
  refine n_newp (tn := 0) rfl (by decide) rfl ra_int rfl rfl (by decide) rfl (by decide) (Nat.le_of_ble_eq_true rfl) (Nat.le_of_ble_eq_true rfl) q99 d_X4_init_7 (fun ω1 e1 => ?_)
  refine n_putF (k := 41) (j := 0) rfl x_c4 rfl (by decide) (by decide) q668 rfl rfl rfl rfl rfl d_X4_init_9 (fun ω2 e2 => ?_)
  refine n_aload_n 0 d_X4_init_12 rfl rfl ?_
  refine n_bipush (x := 58) d_X4_init_13 (by decide) ?_
  refine n_newp (tn := 0) rfl (by decide) rfl ra_int rfl rfl (by decide) rfl (by decide) (Nat.le_of_ble_eq_true rfl) (Nat.le_of_ble_eq_true rfl) q99 d_X4_init_15 (fun ω3 e3 => ?_)
  refine n_putF (k := 41) (j := 1) rfl x_c4 rfl (by decide) (by decide) q669 rfl rfl rfl rfl rfl d_X4_init_17 (fun ω4 e4 => ?_)
  refine n_aload_n 0 d_X4_init_20 rfl rfl ?_
  refine n_bipush (x := 58) d_X4_init_21 (by decide) ?_
  refine n_newp (tn := 0) rfl (by decide) rfl ra_int rfl rfl (by decide) rfl (by decide) (Nat.le_of_ble_eq_true rfl) (Nat.le_of_ble_eq_true rfl) q99 d_X4_init_23 (fun ω5 e5 => ?_)
  refine n_putF (k := 41) (j := 2) rfl x_c4 rfl (by decide) (by decide) q670 rfl rfl rfl rfl rfl d_X4_init_25 (fun ω6 e6 => ?_)
  refine n_aload_n 0 d_X4_init_28 rfl rfl ?_
  refine n_bipush (x := 7) d_X4_init_29 (by decide) ?_
  refine n_newp (tn := 0) rfl (by decide) rfl ra_int rfl rfl (by decide) rfl (by decide) (Nat.le_of_ble_eq_true rfl) (Nat.le_of_ble_eq_true rfl) q99 d_X4_init_31 (fun ω7 e7 => ?_)
  refine n_putF (k := 41) (j := 4) rfl x_c4 rfl (by decide) (by decide) q672 rfl rfl rfl rfl rfl d_X4_init_33 (fun ω8 e8 => ?_)
  refine n_aload_n 0 d_X4_init_36 rfl rfl ?_
  refine n_bipush (x := 8) d_X4_init_37 (by decide) ?_
  refine n_newp (tn := 0) rfl (by decide) rfl ra_int rfl rfl (by decide) rfl (by decide) (Nat.le_of_ble_eq_true rfl) (Nat.le_of_ble_eq_true rfl) q99 d_X4_init_39 (fun ω9 e9 => ?_)
  refine n_putF (k := 41) (j := 5) rfl x_c4 rfl (by decide) (by decide) q673 rfl rfl rfl rfl rfl d_X4_init_41 (fun ω10 e10 => ?_)
  refine n_aload_n 0 d_X4_init_44 rfl rfl ?_
  refine n_bipush (x := 58) d_X4_init_45 (by decide) ?_
  refine n_newp (tn := 0) rfl (by decide) rfl ra_int rfl rfl (by decide) rfl (by decide) (Nat.le_of_ble_eq_true rfl) (Nat.le_of_ble_eq_true rfl) q99 d_X4_init_47 (fun ω11 e11 => ?_)
  refine n_putF (k := 41) (j := 6) rfl x_c4 rfl (by decide) (by decide) q674 rfl rfl rfl rfl rfl d_X4_init_49 (fun ω12 e12 => ?_)
  refine n_aload_n 0 d_X4_init_52 rfl rfl ?_
  refine n_iconst (x := 4) d_X4_init_53 (by decide) ?_
  refine n_newp (tn := 0) rfl (by decide) rfl ra_int rfl rfl (by decide) rfl (by decide) (Nat.le_of_ble_eq_true rfl) (Nat.le_of_ble_eq_true rfl) q99 d_X4_init_54 (fun ω13 e13 => ?_)
  refine n_putF (k := 41) (j := 7) rfl x_c4 rfl (by decide) (by decide) q675 rfl rfl rfl rfl rfl d_X4_init_56 (fun ω14 e14 => ?_)
  refine n_aload_n 0 d_X4_init_59 rfl rfl ?_
  refine n_iconst (x := 4) d_X4_init_60 (by decide) ?_
  refine n_newp (tn := 0) rfl (by decide) rfl ra_int rfl rfl (by decide) rfl (by decide) (Nat.le_of_ble_eq_true rfl) (Nat.le_of_ble_eq_true rfl) q99 d_X4_init_61 (fun ω15 e15 => ?_)
  refine n_putF (k := 41) (j := 8) rfl x_c4 rfl (by decide) (by decide) q676 rfl rfl rfl rfl rfl d_X4_init_63 (fun ω16 e16 => ?_)
  refine n_aload_n 0 d_X4_init_66 rfl rfl ?_
  refine n_sipush (x := 160) d_X4_init_67 (by decide) ?_
  refine n_newp (tn := 0) rfl (by decide) rfl ra_int rfl rfl (by decide) rfl (by decide) (Nat.le_of_ble_eq_true rfl) (Nat.le_of_ble_eq_true rfl) q99 d_X4_init_70 (fun ω17 e17 => ?_)
  refine n_putF (k := 41) (j := 9) rfl x_c4 rfl (by decide) (by decide) q677 rfl rfl rfl rfl rfl d_X4_init_72 (fun ω18 e18 => ?_)
  refine n_aload_n 0 d_X4_init_75 rfl rfl ?_
  refine n_bipush (x := 120) d_X4_init_76 (by decide) ?_
  refine n_newp (tn := 0) rfl (by decide) rfl ra_int rfl rfl (by decide) rfl (by decide) (Nat.le_of_ble_eq_true rfl) (Nat.le_of_ble_eq_true rfl) q99 d_X4_init_78 (fun ω19 e19 => ?_)
  refine n_putF (k := 41) (j := 10) rfl x_c4 rfl (by decide) (by decide) q678 rfl rfl rfl rfl rfl d_X4_init_80 (fun ω20 e20 => ?_)
  refine n_aload_n 0 d_X4_init_83 rfl rfl ?_
  refine n_get (k := 41) (j := 0) (z := .ref (E.1 + 42)) x_c4 rfl (by decide) (by decide) q668 (by rw [e20, upV_o (by decide)]; rw [e19, upW_ne (by decide)]; rw [e18, upV_o (by decide)]; rw [e17, upW_ne (by decide)]; rw [e16, upV_o (by decide)]; rw [e15, upW_ne (by decide)]; rw [e14, upV_o (by decide)]; rw [e13, upW_ne (by decide)]; rw [e12, upV_o (by decide)]; rw [e11, upW_ne (by decide)]; rw [e10, upV_o (by decide)]; rw [e9, upW_ne (by decide)]; rw [e8, upV_o (by decide)]; rw [e7, upW_ne (by decide)]; rw [e6, upV_o (by decide)]; rw [e5, upW_ne (by decide)]; rw [e4, upV_o (by decide)]; rw [e3, upW_ne (by decide)]; rw [e2, upV_s]; try rfl) d_X4_init_84 ?_
  refine n_iconst (x := 3) d_X4_init_87 (by decide) ?_
  refine n_iconst (x := 3) d_X4_init_88 (by decide) ?_
  refine n_iast (k := 42) (e0 := 3) 58 (by decide) rfl rfl (by decide) (by decide) d_X4_init_89 (fun ω21 e21 => ?_)
  refine n_aload_n 0 d_X4_init_90 rfl rfl ?_
  refine n_get (k := 41) (j := 0) (z := .ref (E.1 + 42)) x_c4 rfl (by decide) (by decide) q668 (by rw [e21, upV_ne (by decide)]; rw [e20, upV_o (by decide)]; rw [e19, upW_ne (by decide)]; rw [e18, upV_o (by decide)]; rw [e17, upW_ne (by decide)]; rw [e16, upV_o (by decide)]; rw [e15, upW_ne (by decide)]; rw [e14, upV_o (by decide)]; rw [e13, upW_ne (by decide)]; rw [e12, upV_o (by decide)]; rw [e11, upW_ne (by decide)]; rw [e10, upV_o (by decide)]; rw [e9, upW_ne (by decide)]; rw [e8, upV_o (by decide)]; rw [e7, upW_ne (by decide)]; rw [e6, upV_o (by decide)]; rw [e5, upW_ne (by decide)]; rw [e4, upV_o (by decide)]; rw [e3, upW_ne (by decide)]; rw [e2, upV_s]; try rfl) d_X4_init_91 ?_
  refine n_iconst (x := 4) d_X4_init_94 (by decide) ?_
  refine n_iconst (x := 5) d_X4_init_95 (by decide) ?_
  refine n_iast (k := 42) (e0 := 4) 58 (by decide) rfl rfl (by decide) (by decide) d_X4_init_96 (fun ω22 e22 => ?_)
  refine n_aload_n 0 d_X4_init_97 rfl rfl ?_
  refine n_get (k := 41) (j := 0) (z := .ref (E.1 + 42)) x_c4 rfl (by decide) (by decide) q668 (by rw [e22, upV_ne (by decide)]; rw [e21, upV_ne (by decide)]; rw [e20, upV_o (by decide)]; rw [e19, upW_ne (by decide)]; rw [e18, upV_o (by decide)]; rw [e17, upW_ne (by decide)]; rw [e16, upV_o (by decide)]; rw [e15, upW_ne (by decide)]; rw [e14, upV_o (by decide)]; rw [e13, upW_ne (by decide)]; rw [e12, upV_o (by decide)]; rw [e11, upW_ne (by decide)]; rw [e10, upV_o (by decide)]; rw [e9, upW_ne (by decide)]; rw [e8, upV_o (by decide)]; rw [e7, upW_ne (by decide)]; rw [e6, upV_o (by decide)]; rw [e5, upW_ne (by decide)]; rw [e4, upV_o (by decide)]; rw [e3, upW_ne (by decide)]; rw [e2, upV_s]; try rfl) d_X4_init_98 ?_
  refine n_bipush (x := 6) d_X4_init_101 (by decide) ?_
  refine n_iconst (x := 1) d_X4_init_103 (by decide) ?_
  refine n_iast (k := 42) (e0 := 6) 58 (by decide) rfl rfl (by decide) (by decide) d_X4_init_104 (fun ω23 e23 => ?_)
  refine n_iconst (x := 0) d_X4_init_105 (by decide) ?_
  refine n_istore_n [(1, .int 0), (0, .ref (E.1 + 41))] d_X4_init_106 rfl (Nat.le_of_ble_eq_true rfl) rfl ?_
  refine n_iload_n 0 d_X4_init_107 rfl rfl ?_
  refine n_bipush (x := 16) d_X4_init_108 (by decide) ?_
  refine n_icmp_ge 130 d_X4_init_110 (by decide) (fun c => ?_) (fun c => ?_)
  · exact absurd c (by decide)
  refine n_aload_n 1 d_X4_init_113 rfl rfl ?_
  refine n_get (k := 41) (j := 0) (z := .ref (E.1 + 42)) x_c4 rfl (by decide) (by decide) q668 (by rw [e23, upV_ne (by decide)]; rw [e22, upV_ne (by decide)]; rw [e21, upV_ne (by decide)]; rw [e20, upV_o (by decide)]; rw [e19, upW_ne (by decide)]; rw [e18, upV_o (by decide)]; rw [e17, upW_ne (by decide)]; rw [e16, upV_o (by decide)]; rw [e15, upW_ne (by decide)]; rw [e14, upV_o (by decide)]; rw [e13, upW_ne (by decide)]; rw [e12, upV_o (by decide)]; rw [e11, upW_ne (by decide)]; rw [e10, upV_o (by decide)]; rw [e9, upW_ne (by decide)]; rw [e8, upV_o (by decide)]; rw [e7, upW_ne (by decide)]; rw [e6, upV_o (by decide)]; rw [e5, upW_ne (by decide)]; rw [e4, upV_o (by decide)]; rw [e3, upW_ne (by decide)]; rw [e2, upV_s]; try rfl) d_X4_init_114 ?_
  refine n_bipush (x := 8) d_X4_init_117 (by decide) ?_
  refine n_iload_n 0 d_X4_init_119 rfl rfl ?_
  refine n_iadd d_X4_init_120 ?_
  rw [show (8 : Int32) + 0 = 8 from by decide]
  refine n_bipush (x := 50) d_X4_init_121 (by decide) ?_
  refine n_iast (k := 42) (e0 := 8) 58 (by decide) rfl rfl (by decide) (by decide) d_X4_init_123 (fun ω24 e24 => ?_)
  refine n_iinc [(1, .int 1), (0, .ref (E.1 + 41))] 0 d_X4_init_124 rfl (by decide) (Nat.le_of_ble_eq_true rfl) rfl ?_
  refine n_goto 107 d_X4_init_127 (by decide) ?_
  refine n_iload_n 0 d_X4_init_107 rfl rfl ?_
  refine n_bipush (x := 16) d_X4_init_108 (by decide) ?_
  refine n_icmp_ge 130 d_X4_init_110 (by decide) (fun c => ?_) (fun c => ?_)
  · exact absurd c (by decide)
  refine n_aload_n 1 d_X4_init_113 rfl rfl ?_
  refine n_get (k := 41) (j := 0) (z := .ref (E.1 + 42)) x_c4 rfl (by decide) (by decide) q668 (by rw [e24, upV_ne (by decide)]; rw [e23, upV_ne (by decide)]; rw [e22, upV_ne (by decide)]; rw [e21, upV_ne (by decide)]; rw [e20, upV_o (by decide)]; rw [e19, upW_ne (by decide)]; rw [e18, upV_o (by decide)]; rw [e17, upW_ne (by decide)]; rw [e16, upV_o (by decide)]; rw [e15, upW_ne (by decide)]; rw [e14, upV_o (by decide)]; rw [e13, upW_ne (by decide)]; rw [e12, upV_o (by decide)]; rw [e11, upW_ne (by decide)]; rw [e10, upV_o (by decide)]; rw [e9, upW_ne (by decide)]; rw [e8, upV_o (by decide)]; rw [e7, upW_ne (by decide)]; rw [e6, upV_o (by decide)]; rw [e5, upW_ne (by decide)]; rw [e4, upV_o (by decide)]; rw [e3, upW_ne (by decide)]; rw [e2, upV_s]; try rfl) d_X4_init_114 ?_
  refine n_bipush (x := 8) d_X4_init_117 (by decide) ?_
  refine n_iload_n 0 d_X4_init_119 rfl rfl ?_
  refine n_iadd d_X4_init_120 ?_
  rw [show (8 : Int32) + 1 = 9 from by decide]
  refine n_bipush (x := 50) d_X4_init_121 (by decide) ?_
  refine n_iast (k := 42) (e0 := 9) 58 (by decide) rfl rfl (by decide) (by decide) d_X4_init_123 (fun ω25 e25 => ?_)
  refine n_iinc [(1, .int 2), (0, .ref (E.1 + 41))] 0 d_X4_init_124 rfl (by decide) (Nat.le_of_ble_eq_true rfl) rfl ?_
  refine n_goto 107 d_X4_init_127 (by decide) ?_
  refine n_iload_n 0 d_X4_init_107 rfl rfl ?_
  refine n_bipush (x := 16) d_X4_init_108 (by decide) ?_
  refine n_icmp_ge 130 d_X4_init_110 (by decide) (fun c => ?_) (fun c => ?_)
  · exact absurd c (by decide)
  refine n_aload_n 1 d_X4_init_113 rfl rfl ?_
  refine n_get (k := 41) (j := 0) (z := .ref (E.1 + 42)) x_c4 rfl (by decide) (by decide) q668 (by rw [e25, upV_ne (by decide)]; rw [e24, upV_ne (by decide)]; rw [e23, upV_ne (by decide)]; rw [e22, upV_ne (by decide)]; rw [e21, upV_ne (by decide)]; rw [e20, upV_o (by decide)]; rw [e19, upW_ne (by decide)]; rw [e18, upV_o (by decide)]; rw [e17, upW_ne (by decide)]; rw [e16, upV_o (by decide)]; rw [e15, upW_ne (by decide)]; rw [e14, upV_o (by decide)]; rw [e13, upW_ne (by decide)]; rw [e12, upV_o (by decide)]; rw [e11, upW_ne (by decide)]; rw [e10, upV_o (by decide)]; rw [e9, upW_ne (by decide)]; rw [e8, upV_o (by decide)]; rw [e7, upW_ne (by decide)]; rw [e6, upV_o (by decide)]; rw [e5, upW_ne (by decide)]; rw [e4, upV_o (by decide)]; rw [e3, upW_ne (by decide)]; rw [e2, upV_s]; try rfl) d_X4_init_114 ?_
  refine n_bipush (x := 8) d_X4_init_117 (by decide) ?_
  refine n_iload_n 0 d_X4_init_119 rfl rfl ?_
  refine n_iadd d_X4_init_120 ?_
  rw [show (8 : Int32) + 2 = 10 from by decide]
  refine n_bipush (x := 50) d_X4_init_121 (by decide) ?_
  refine n_iast (k := 42) (e0 := 10) 58 (by decide) rfl rfl (by decide) (by decide) d_X4_init_123 (fun ω26 e26 => ?_)
  refine n_iinc [(1, .int 3), (0, .ref (E.1 + 41))] 0 d_X4_init_124 rfl (by decide) (Nat.le_of_ble_eq_true rfl) rfl ?_
  refine n_goto 107 d_X4_init_127 (by decide) ?_
  refine n_iload_n 0 d_X4_init_107 rfl rfl ?_
  refine n_bipush (x := 16) d_X4_init_108 (by decide) ?_
  refine n_icmp_ge 130 d_X4_init_110 (by decide) (fun c => ?_) (fun c => ?_)
  · exact absurd c (by decide)
  refine n_aload_n 1 d_X4_init_113 rfl rfl ?_
  refine n_get (k := 41) (j := 0) (z := .ref (E.1 + 42)) x_c4 rfl (by decide) (by decide) q668 (by rw [e26, upV_ne (by decide)]; rw [e25, upV_ne (by decide)]; rw [e24, upV_ne (by decide)]; rw [e23, upV_ne (by decide)]; rw [e22, upV_ne (by decide)]; rw [e21, upV_ne (by decide)]; rw [e20, upV_o (by decide)]; rw [e19, upW_ne (by decide)]; rw [e18, upV_o (by decide)]; rw [e17, upW_ne (by decide)]; rw [e16, upV_o (by decide)]; rw [e15, upW_ne (by decide)]; rw [e14, upV_o (by decide)]; rw [e13, upW_ne (by decide)]; rw [e12, upV_o (by decide)]; rw [e11, upW_ne (by decide)]; rw [e10, upV_o (by decide)]; rw [e9, upW_ne (by decide)]; rw [e8, upV_o (by decide)]; rw [e7, upW_ne (by decide)]; rw [e6, upV_o (by decide)]; rw [e5, upW_ne (by decide)]; rw [e4, upV_o (by decide)]; rw [e3, upW_ne (by decide)]; rw [e2, upV_s]; try rfl) d_X4_init_114 ?_
  refine n_bipush (x := 8) d_X4_init_117 (by decide) ?_
  refine n_iload_n 0 d_X4_init_119 rfl rfl ?_
  refine n_iadd d_X4_init_120 ?_
  rw [show (8 : Int32) + 3 = 11 from by decide]
  refine n_bipush (x := 50) d_X4_init_121 (by decide) ?_
  refine n_iast (k := 42) (e0 := 11) 58 (by decide) rfl rfl (by decide) (by decide) d_X4_init_123 (fun ω27 e27 => ?_)
  refine n_iinc [(1, .int 4), (0, .ref (E.1 + 41))] 0 d_X4_init_124 rfl (by decide) (Nat.le_of_ble_eq_true rfl) rfl ?_
  refine n_goto 107 d_X4_init_127 (by decide) ?_
  refine n_iload_n 0 d_X4_init_107 rfl rfl ?_
  refine n_bipush (x := 16) d_X4_init_108 (by decide) ?_
  refine n_icmp_ge 130 d_X4_init_110 (by decide) (fun c => ?_) (fun c => ?_)
  · exact absurd c (by decide)
  refine n_aload_n 1 d_X4_init_113 rfl rfl ?_
  refine n_get (k := 41) (j := 0) (z := .ref (E.1 + 42)) x_c4 rfl (by decide) (by decide) q668 (by rw [e27, upV_ne (by decide)]; rw [e26, upV_ne (by decide)]; rw [e25, upV_ne (by decide)]; rw [e24, upV_ne (by decide)]; rw [e23, upV_ne (by decide)]; rw [e22, upV_ne (by decide)]; rw [e21, upV_ne (by decide)]; rw [e20, upV_o (by decide)]; rw [e19, upW_ne (by decide)]; rw [e18, upV_o (by decide)]; rw [e17, upW_ne (by decide)]; rw [e16, upV_o (by decide)]; rw [e15, upW_ne (by decide)]; rw [e14, upV_o (by decide)]; rw [e13, upW_ne (by decide)]; rw [e12, upV_o (by decide)]; rw [e11, upW_ne (by decide)]; rw [e10, upV_o (by decide)]; rw [e9, upW_ne (by decide)]; rw [e8, upV_o (by decide)]; rw [e7, upW_ne (by decide)]; rw [e6, upV_o (by decide)]; rw [e5, upW_ne (by decide)]; rw [e4, upV_o (by decide)]; rw [e3, upW_ne (by decide)]; rw [e2, upV_s]; try rfl) d_X4_init_114 ?_
  refine n_bipush (x := 8) d_X4_init_117 (by decide) ?_
  refine n_iload_n 0 d_X4_init_119 rfl rfl ?_
  refine n_iadd d_X4_init_120 ?_
  rw [show (8 : Int32) + 4 = 12 from by decide]
  refine n_bipush (x := 50) d_X4_init_121 (by decide) ?_
  refine n_iast (k := 42) (e0 := 12) 58 (by decide) rfl rfl (by decide) (by decide) d_X4_init_123 (fun ω28 e28 => ?_)
  refine n_iinc [(1, .int 5), (0, .ref (E.1 + 41))] 0 d_X4_init_124 rfl (by decide) (Nat.le_of_ble_eq_true rfl) rfl ?_
  refine n_goto 107 d_X4_init_127 (by decide) ?_
  refine n_iload_n 0 d_X4_init_107 rfl rfl ?_
  refine n_bipush (x := 16) d_X4_init_108 (by decide) ?_
  refine n_icmp_ge 130 d_X4_init_110 (by decide) (fun c => ?_) (fun c => ?_)
  · exact absurd c (by decide)
  refine n_aload_n 1 d_X4_init_113 rfl rfl ?_
  refine n_get (k := 41) (j := 0) (z := .ref (E.1 + 42)) x_c4 rfl (by decide) (by decide) q668 (by rw [e28, upV_ne (by decide)]; rw [e27, upV_ne (by decide)]; rw [e26, upV_ne (by decide)]; rw [e25, upV_ne (by decide)]; rw [e24, upV_ne (by decide)]; rw [e23, upV_ne (by decide)]; rw [e22, upV_ne (by decide)]; rw [e21, upV_ne (by decide)]; rw [e20, upV_o (by decide)]; rw [e19, upW_ne (by decide)]; rw [e18, upV_o (by decide)]; rw [e17, upW_ne (by decide)]; rw [e16, upV_o (by decide)]; rw [e15, upW_ne (by decide)]; rw [e14, upV_o (by decide)]; rw [e13, upW_ne (by decide)]; rw [e12, upV_o (by decide)]; rw [e11, upW_ne (by decide)]; rw [e10, upV_o (by decide)]; rw [e9, upW_ne (by decide)]; rw [e8, upV_o (by decide)]; rw [e7, upW_ne (by decide)]; rw [e6, upV_o (by decide)]; rw [e5, upW_ne (by decide)]; rw [e4, upV_o (by decide)]; rw [e3, upW_ne (by decide)]; rw [e2, upV_s]; try rfl) d_X4_init_114 ?_
  refine n_bipush (x := 8) d_X4_init_117 (by decide) ?_
  refine n_iload_n 0 d_X4_init_119 rfl rfl ?_
  refine n_iadd d_X4_init_120 ?_
  rw [show (8 : Int32) + 5 = 13 from by decide]
  refine n_bipush (x := 50) d_X4_init_121 (by decide) ?_
  refine n_iast (k := 42) (e0 := 13) 58 (by decide) rfl rfl (by decide) (by decide) d_X4_init_123 (fun ω29 e29 => ?_)
  refine n_iinc [(1, .int 6), (0, .ref (E.1 + 41))] 0 d_X4_init_124 rfl (by decide) (Nat.le_of_ble_eq_true rfl) rfl ?_
  refine n_goto 107 d_X4_init_127 (by decide) ?_
  refine n_iload_n 0 d_X4_init_107 rfl rfl ?_
  refine n_bipush (x := 16) d_X4_init_108 (by decide) ?_
  refine n_icmp_ge 130 d_X4_init_110 (by decide) (fun c => ?_) (fun c => ?_)
  · exact absurd c (by decide)
  refine n_aload_n 1 d_X4_init_113 rfl rfl ?_
  refine n_get (k := 41) (j := 0) (z := .ref (E.1 + 42)) x_c4 rfl (by decide) (by decide) q668 (by rw [e29, upV_ne (by decide)]; rw [e28, upV_ne (by decide)]; rw [e27, upV_ne (by decide)]; rw [e26, upV_ne (by decide)]; rw [e25, upV_ne (by decide)]; rw [e24, upV_ne (by decide)]; rw [e23, upV_ne (by decide)]; rw [e22, upV_ne (by decide)]; rw [e21, upV_ne (by decide)]; rw [e20, upV_o (by decide)]; rw [e19, upW_ne (by decide)]; rw [e18, upV_o (by decide)]; rw [e17, upW_ne (by decide)]; rw [e16, upV_o (by decide)]; rw [e15, upW_ne (by decide)]; rw [e14, upV_o (by decide)]; rw [e13, upW_ne (by decide)]; rw [e12, upV_o (by decide)]; rw [e11, upW_ne (by decide)]; rw [e10, upV_o (by decide)]; rw [e9, upW_ne (by decide)]; rw [e8, upV_o (by decide)]; rw [e7, upW_ne (by decide)]; rw [e6, upV_o (by decide)]; rw [e5, upW_ne (by decide)]; rw [e4, upV_o (by decide)]; rw [e3, upW_ne (by decide)]; rw [e2, upV_s]; try rfl) d_X4_init_114 ?_
  refine n_bipush (x := 8) d_X4_init_117 (by decide) ?_
  refine n_iload_n 0 d_X4_init_119 rfl rfl ?_
  refine n_iadd d_X4_init_120 ?_
  rw [show (8 : Int32) + 6 = 14 from by decide]
  refine n_bipush (x := 50) d_X4_init_121 (by decide) ?_
  refine n_iast (k := 42) (e0 := 14) 58 (by decide) rfl rfl (by decide) (by decide) d_X4_init_123 (fun ω30 e30 => ?_)
  refine n_iinc [(1, .int 7), (0, .ref (E.1 + 41))] 0 d_X4_init_124 rfl (by decide) (Nat.le_of_ble_eq_true rfl) rfl ?_
  refine n_goto 107 d_X4_init_127 (by decide) ?_
  refine n_iload_n 0 d_X4_init_107 rfl rfl ?_
  refine n_bipush (x := 16) d_X4_init_108 (by decide) ?_
  refine n_icmp_ge 130 d_X4_init_110 (by decide) (fun c => ?_) (fun c => ?_)
  · exact absurd c (by decide)
  refine n_aload_n 1 d_X4_init_113 rfl rfl ?_
  refine n_get (k := 41) (j := 0) (z := .ref (E.1 + 42)) x_c4 rfl (by decide) (by decide) q668 (by rw [e30, upV_ne (by decide)]; rw [e29, upV_ne (by decide)]; rw [e28, upV_ne (by decide)]; rw [e27, upV_ne (by decide)]; rw [e26, upV_ne (by decide)]; rw [e25, upV_ne (by decide)]; rw [e24, upV_ne (by decide)]; rw [e23, upV_ne (by decide)]; rw [e22, upV_ne (by decide)]; rw [e21, upV_ne (by decide)]; rw [e20, upV_o (by decide)]; rw [e19, upW_ne (by decide)]; rw [e18, upV_o (by decide)]; rw [e17, upW_ne (by decide)]; rw [e16, upV_o (by decide)]; rw [e15, upW_ne (by decide)]; rw [e14, upV_o (by decide)]; rw [e13, upW_ne (by decide)]; rw [e12, upV_o (by decide)]; rw [e11, upW_ne (by decide)]; rw [e10, upV_o (by decide)]; rw [e9, upW_ne (by decide)]; rw [e8, upV_o (by decide)]; rw [e7, upW_ne (by decide)]; rw [e6, upV_o (by decide)]; rw [e5, upW_ne (by decide)]; rw [e4, upV_o (by decide)]; rw [e3, upW_ne (by decide)]; rw [e2, upV_s]; try rfl) d_X4_init_114 ?_
  refine n_bipush (x := 8) d_X4_init_117 (by decide) ?_
  refine n_iload_n 0 d_X4_init_119 rfl rfl ?_
  refine n_iadd d_X4_init_120 ?_
  rw [show (8 : Int32) + 7 = 15 from by decide]
  refine n_bipush (x := 50) d_X4_init_121 (by decide) ?_
  refine n_iast (k := 42) (e0 := 15) 58 (by decide) rfl rfl (by decide) (by decide) d_X4_init_123 (fun ω31 e31 => ?_)
  refine n_iinc [(1, .int 8), (0, .ref (E.1 + 41))] 0 d_X4_init_124 rfl (by decide) (Nat.le_of_ble_eq_true rfl) rfl ?_
  refine n_goto 107 d_X4_init_127 (by decide) ?_
  refine n_iload_n 0 d_X4_init_107 rfl rfl ?_
  refine n_bipush (x := 16) d_X4_init_108 (by decide) ?_
  refine n_icmp_ge 130 d_X4_init_110 (by decide) (fun c => ?_) (fun c => ?_)
  · exact absurd c (by decide)
  refine n_aload_n 1 d_X4_init_113 rfl rfl ?_
  refine n_get (k := 41) (j := 0) (z := .ref (E.1 + 42)) x_c4 rfl (by decide) (by decide) q668 (by rw [e31, upV_ne (by decide)]; rw [e30, upV_ne (by decide)]; rw [e29, upV_ne (by decide)]; rw [e28, upV_ne (by decide)]; rw [e27, upV_ne (by decide)]; rw [e26, upV_ne (by decide)]; rw [e25, upV_ne (by decide)]; rw [e24, upV_ne (by decide)]; rw [e23, upV_ne (by decide)]; rw [e22, upV_ne (by decide)]; rw [e21, upV_ne (by decide)]; rw [e20, upV_o (by decide)]; rw [e19, upW_ne (by decide)]; rw [e18, upV_o (by decide)]; rw [e17, upW_ne (by decide)]; rw [e16, upV_o (by decide)]; rw [e15, upW_ne (by decide)]; rw [e14, upV_o (by decide)]; rw [e13, upW_ne (by decide)]; rw [e12, upV_o (by decide)]; rw [e11, upW_ne (by decide)]; rw [e10, upV_o (by decide)]; rw [e9, upW_ne (by decide)]; rw [e8, upV_o (by decide)]; rw [e7, upW_ne (by decide)]; rw [e6, upV_o (by decide)]; rw [e5, upW_ne (by decide)]; rw [e4, upV_o (by decide)]; rw [e3, upW_ne (by decide)]; rw [e2, upV_s]; try rfl) d_X4_init_114 ?_
  refine n_bipush (x := 8) d_X4_init_117 (by decide) ?_
  refine n_iload_n 0 d_X4_init_119 rfl rfl ?_
  refine n_iadd d_X4_init_120 ?_
  rw [show (8 : Int32) + 8 = 16 from by decide]
  refine n_bipush (x := 50) d_X4_init_121 (by decide) ?_
  refine n_iast (k := 42) (e0 := 16) 58 (by decide) rfl rfl (by decide) (by decide) d_X4_init_123 (fun ω32 e32 => ?_)
  refine n_iinc [(1, .int 9), (0, .ref (E.1 + 41))] 0 d_X4_init_124 rfl (by decide) (Nat.le_of_ble_eq_true rfl) rfl ?_
  refine n_goto 107 d_X4_init_127 (by decide) ?_
  refine n_iload_n 0 d_X4_init_107 rfl rfl ?_
  refine n_bipush (x := 16) d_X4_init_108 (by decide) ?_
  refine n_icmp_ge 130 d_X4_init_110 (by decide) (fun c => ?_) (fun c => ?_)
  · exact absurd c (by decide)
  refine n_aload_n 1 d_X4_init_113 rfl rfl ?_
  refine n_get (k := 41) (j := 0) (z := .ref (E.1 + 42)) x_c4 rfl (by decide) (by decide) q668 (by rw [e32, upV_ne (by decide)]; rw [e31, upV_ne (by decide)]; rw [e30, upV_ne (by decide)]; rw [e29, upV_ne (by decide)]; rw [e28, upV_ne (by decide)]; rw [e27, upV_ne (by decide)]; rw [e26, upV_ne (by decide)]; rw [e25, upV_ne (by decide)]; rw [e24, upV_ne (by decide)]; rw [e23, upV_ne (by decide)]; rw [e22, upV_ne (by decide)]; rw [e21, upV_ne (by decide)]; rw [e20, upV_o (by decide)]; rw [e19, upW_ne (by decide)]; rw [e18, upV_o (by decide)]; rw [e17, upW_ne (by decide)]; rw [e16, upV_o (by decide)]; rw [e15, upW_ne (by decide)]; rw [e14, upV_o (by decide)]; rw [e13, upW_ne (by decide)]; rw [e12, upV_o (by decide)]; rw [e11, upW_ne (by decide)]; rw [e10, upV_o (by decide)]; rw [e9, upW_ne (by decide)]; rw [e8, upV_o (by decide)]; rw [e7, upW_ne (by decide)]; rw [e6, upV_o (by decide)]; rw [e5, upW_ne (by decide)]; rw [e4, upV_o (by decide)]; rw [e3, upW_ne (by decide)]; rw [e2, upV_s]; try rfl) d_X4_init_114 ?_
  refine n_bipush (x := 8) d_X4_init_117 (by decide) ?_
  refine n_iload_n 0 d_X4_init_119 rfl rfl ?_
  refine n_iadd d_X4_init_120 ?_
  rw [show (8 : Int32) + 9 = 17 from by decide]
  refine n_bipush (x := 50) d_X4_init_121 (by decide) ?_
  refine n_iast (k := 42) (e0 := 17) 58 (by decide) rfl rfl (by decide) (by decide) d_X4_init_123 (fun ω33 e33 => ?_)
  refine n_iinc [(1, .int 10), (0, .ref (E.1 + 41))] 0 d_X4_init_124 rfl (by decide) (Nat.le_of_ble_eq_true rfl) rfl ?_
  refine n_goto 107 d_X4_init_127 (by decide) ?_
  refine n_iload_n 0 d_X4_init_107 rfl rfl ?_
  refine n_bipush (x := 16) d_X4_init_108 (by decide) ?_
  refine n_icmp_ge 130 d_X4_init_110 (by decide) (fun c => ?_) (fun c => ?_)
  · exact absurd c (by decide)
  refine n_aload_n 1 d_X4_init_113 rfl rfl ?_
  refine n_get (k := 41) (j := 0) (z := .ref (E.1 + 42)) x_c4 rfl (by decide) (by decide) q668 (by rw [e33, upV_ne (by decide)]; rw [e32, upV_ne (by decide)]; rw [e31, upV_ne (by decide)]; rw [e30, upV_ne (by decide)]; rw [e29, upV_ne (by decide)]; rw [e28, upV_ne (by decide)]; rw [e27, upV_ne (by decide)]; rw [e26, upV_ne (by decide)]; rw [e25, upV_ne (by decide)]; rw [e24, upV_ne (by decide)]; rw [e23, upV_ne (by decide)]; rw [e22, upV_ne (by decide)]; rw [e21, upV_ne (by decide)]; rw [e20, upV_o (by decide)]; rw [e19, upW_ne (by decide)]; rw [e18, upV_o (by decide)]; rw [e17, upW_ne (by decide)]; rw [e16, upV_o (by decide)]; rw [e15, upW_ne (by decide)]; rw [e14, upV_o (by decide)]; rw [e13, upW_ne (by decide)]; rw [e12, upV_o (by decide)]; rw [e11, upW_ne (by decide)]; rw [e10, upV_o (by decide)]; rw [e9, upW_ne (by decide)]; rw [e8, upV_o (by decide)]; rw [e7, upW_ne (by decide)]; rw [e6, upV_o (by decide)]; rw [e5, upW_ne (by decide)]; rw [e4, upV_o (by decide)]; rw [e3, upW_ne (by decide)]; rw [e2, upV_s]; try rfl) d_X4_init_114 ?_
  refine n_bipush (x := 8) d_X4_init_117 (by decide) ?_
  refine n_iload_n 0 d_X4_init_119 rfl rfl ?_
  refine n_iadd d_X4_init_120 ?_
  rw [show (8 : Int32) + 10 = 18 from by decide]
  refine n_bipush (x := 50) d_X4_init_121 (by decide) ?_
  refine n_iast (k := 42) (e0 := 18) 58 (by decide) rfl rfl (by decide) (by decide) d_X4_init_123 (fun ω34 e34 => ?_)
  refine n_iinc [(1, .int 11), (0, .ref (E.1 + 41))] 0 d_X4_init_124 rfl (by decide) (Nat.le_of_ble_eq_true rfl) rfl ?_
  refine n_goto 107 d_X4_init_127 (by decide) ?_
  refine n_iload_n 0 d_X4_init_107 rfl rfl ?_
  refine n_bipush (x := 16) d_X4_init_108 (by decide) ?_
  refine n_icmp_ge 130 d_X4_init_110 (by decide) (fun c => ?_) (fun c => ?_)
  · exact absurd c (by decide)
  refine n_aload_n 1 d_X4_init_113 rfl rfl ?_
  refine n_get (k := 41) (j := 0) (z := .ref (E.1 + 42)) x_c4 rfl (by decide) (by decide) q668 (by rw [e34, upV_ne (by decide)]; rw [e33, upV_ne (by decide)]; rw [e32, upV_ne (by decide)]; rw [e31, upV_ne (by decide)]; rw [e30, upV_ne (by decide)]; rw [e29, upV_ne (by decide)]; rw [e28, upV_ne (by decide)]; rw [e27, upV_ne (by decide)]; rw [e26, upV_ne (by decide)]; rw [e25, upV_ne (by decide)]; rw [e24, upV_ne (by decide)]; rw [e23, upV_ne (by decide)]; rw [e22, upV_ne (by decide)]; rw [e21, upV_ne (by decide)]; rw [e20, upV_o (by decide)]; rw [e19, upW_ne (by decide)]; rw [e18, upV_o (by decide)]; rw [e17, upW_ne (by decide)]; rw [e16, upV_o (by decide)]; rw [e15, upW_ne (by decide)]; rw [e14, upV_o (by decide)]; rw [e13, upW_ne (by decide)]; rw [e12, upV_o (by decide)]; rw [e11, upW_ne (by decide)]; rw [e10, upV_o (by decide)]; rw [e9, upW_ne (by decide)]; rw [e8, upV_o (by decide)]; rw [e7, upW_ne (by decide)]; rw [e6, upV_o (by decide)]; rw [e5, upW_ne (by decide)]; rw [e4, upV_o (by decide)]; rw [e3, upW_ne (by decide)]; rw [e2, upV_s]; try rfl) d_X4_init_114 ?_
  refine n_bipush (x := 8) d_X4_init_117 (by decide) ?_
  refine n_iload_n 0 d_X4_init_119 rfl rfl ?_
  refine n_iadd d_X4_init_120 ?_
  rw [show (8 : Int32) + 11 = 19 from by decide]
  refine n_bipush (x := 50) d_X4_init_121 (by decide) ?_
  refine n_iast (k := 42) (e0 := 19) 58 (by decide) rfl rfl (by decide) (by decide) d_X4_init_123 (fun ω35 e35 => ?_)
  refine n_iinc [(1, .int 12), (0, .ref (E.1 + 41))] 0 d_X4_init_124 rfl (by decide) (Nat.le_of_ble_eq_true rfl) rfl ?_
  refine n_goto 107 d_X4_init_127 (by decide) ?_
  refine n_iload_n 0 d_X4_init_107 rfl rfl ?_
  refine n_bipush (x := 16) d_X4_init_108 (by decide) ?_
  refine n_icmp_ge 130 d_X4_init_110 (by decide) (fun c => ?_) (fun c => ?_)
  · exact absurd c (by decide)
  refine n_aload_n 1 d_X4_init_113 rfl rfl ?_
  refine n_get (k := 41) (j := 0) (z := .ref (E.1 + 42)) x_c4 rfl (by decide) (by decide) q668 (by rw [e35, upV_ne (by decide)]; rw [e34, upV_ne (by decide)]; rw [e33, upV_ne (by decide)]; rw [e32, upV_ne (by decide)]; rw [e31, upV_ne (by decide)]; rw [e30, upV_ne (by decide)]; rw [e29, upV_ne (by decide)]; rw [e28, upV_ne (by decide)]; rw [e27, upV_ne (by decide)]; rw [e26, upV_ne (by decide)]; rw [e25, upV_ne (by decide)]; rw [e24, upV_ne (by decide)]; rw [e23, upV_ne (by decide)]; rw [e22, upV_ne (by decide)]; rw [e21, upV_ne (by decide)]; rw [e20, upV_o (by decide)]; rw [e19, upW_ne (by decide)]; rw [e18, upV_o (by decide)]; rw [e17, upW_ne (by decide)]; rw [e16, upV_o (by decide)]; rw [e15, upW_ne (by decide)]; rw [e14, upV_o (by decide)]; rw [e13, upW_ne (by decide)]; rw [e12, upV_o (by decide)]; rw [e11, upW_ne (by decide)]; rw [e10, upV_o (by decide)]; rw [e9, upW_ne (by decide)]; rw [e8, upV_o (by decide)]; rw [e7, upW_ne (by decide)]; rw [e6, upV_o (by decide)]; rw [e5, upW_ne (by decide)]; rw [e4, upV_o (by decide)]; rw [e3, upW_ne (by decide)]; rw [e2, upV_s]; try rfl) d_X4_init_114 ?_
  refine n_bipush (x := 8) d_X4_init_117 (by decide) ?_
  refine n_iload_n 0 d_X4_init_119 rfl rfl ?_
  refine n_iadd d_X4_init_120 ?_
  rw [show (8 : Int32) + 12 = 20 from by decide]
  refine n_bipush (x := 50) d_X4_init_121 (by decide) ?_
  refine n_iast (k := 42) (e0 := 20) 58 (by decide) rfl rfl (by decide) (by decide) d_X4_init_123 (fun ω36 e36 => ?_)
  refine n_iinc [(1, .int 13), (0, .ref (E.1 + 41))] 0 d_X4_init_124 rfl (by decide) (Nat.le_of_ble_eq_true rfl) rfl ?_
  refine n_goto 107 d_X4_init_127 (by decide) ?_
  refine n_iload_n 0 d_X4_init_107 rfl rfl ?_
  refine n_bipush (x := 16) d_X4_init_108 (by decide) ?_
  refine n_icmp_ge 130 d_X4_init_110 (by decide) (fun c => ?_) (fun c => ?_)
  · exact absurd c (by decide)
  refine n_aload_n 1 d_X4_init_113 rfl rfl ?_
  refine n_get (k := 41) (j := 0) (z := .ref (E.1 + 42)) x_c4 rfl (by decide) (by decide) q668 (by rw [e36, upV_ne (by decide)]; rw [e35, upV_ne (by decide)]; rw [e34, upV_ne (by decide)]; rw [e33, upV_ne (by decide)]; rw [e32, upV_ne (by decide)]; rw [e31, upV_ne (by decide)]; rw [e30, upV_ne (by decide)]; rw [e29, upV_ne (by decide)]; rw [e28, upV_ne (by decide)]; rw [e27, upV_ne (by decide)]; rw [e26, upV_ne (by decide)]; rw [e25, upV_ne (by decide)]; rw [e24, upV_ne (by decide)]; rw [e23, upV_ne (by decide)]; rw [e22, upV_ne (by decide)]; rw [e21, upV_ne (by decide)]; rw [e20, upV_o (by decide)]; rw [e19, upW_ne (by decide)]; rw [e18, upV_o (by decide)]; rw [e17, upW_ne (by decide)]; rw [e16, upV_o (by decide)]; rw [e15, upW_ne (by decide)]; rw [e14, upV_o (by decide)]; rw [e13, upW_ne (by decide)]; rw [e12, upV_o (by decide)]; rw [e11, upW_ne (by decide)]; rw [e10, upV_o (by decide)]; rw [e9, upW_ne (by decide)]; rw [e8, upV_o (by decide)]; rw [e7, upW_ne (by decide)]; rw [e6, upV_o (by decide)]; rw [e5, upW_ne (by decide)]; rw [e4, upV_o (by decide)]; rw [e3, upW_ne (by decide)]; rw [e2, upV_s]; try rfl) d_X4_init_114 ?_
  refine n_bipush (x := 8) d_X4_init_117 (by decide) ?_
  refine n_iload_n 0 d_X4_init_119 rfl rfl ?_
  refine n_iadd d_X4_init_120 ?_
  rw [show (8 : Int32) + 13 = 21 from by decide]
  refine n_bipush (x := 50) d_X4_init_121 (by decide) ?_
  refine n_iast (k := 42) (e0 := 21) 58 (by decide) rfl rfl (by decide) (by decide) d_X4_init_123 (fun ω37 e37 => ?_)
  refine n_iinc [(1, .int 14), (0, .ref (E.1 + 41))] 0 d_X4_init_124 rfl (by decide) (Nat.le_of_ble_eq_true rfl) rfl ?_
  refine n_goto 107 d_X4_init_127 (by decide) ?_
  refine n_iload_n 0 d_X4_init_107 rfl rfl ?_
  refine n_bipush (x := 16) d_X4_init_108 (by decide) ?_
  refine n_icmp_ge 130 d_X4_init_110 (by decide) (fun c => ?_) (fun c => ?_)
  · exact absurd c (by decide)
  refine n_aload_n 1 d_X4_init_113 rfl rfl ?_
  refine n_get (k := 41) (j := 0) (z := .ref (E.1 + 42)) x_c4 rfl (by decide) (by decide) q668 (by rw [e37, upV_ne (by decide)]; rw [e36, upV_ne (by decide)]; rw [e35, upV_ne (by decide)]; rw [e34, upV_ne (by decide)]; rw [e33, upV_ne (by decide)]; rw [e32, upV_ne (by decide)]; rw [e31, upV_ne (by decide)]; rw [e30, upV_ne (by decide)]; rw [e29, upV_ne (by decide)]; rw [e28, upV_ne (by decide)]; rw [e27, upV_ne (by decide)]; rw [e26, upV_ne (by decide)]; rw [e25, upV_ne (by decide)]; rw [e24, upV_ne (by decide)]; rw [e23, upV_ne (by decide)]; rw [e22, upV_ne (by decide)]; rw [e21, upV_ne (by decide)]; rw [e20, upV_o (by decide)]; rw [e19, upW_ne (by decide)]; rw [e18, upV_o (by decide)]; rw [e17, upW_ne (by decide)]; rw [e16, upV_o (by decide)]; rw [e15, upW_ne (by decide)]; rw [e14, upV_o (by decide)]; rw [e13, upW_ne (by decide)]; rw [e12, upV_o (by decide)]; rw [e11, upW_ne (by decide)]; rw [e10, upV_o (by decide)]; rw [e9, upW_ne (by decide)]; rw [e8, upV_o (by decide)]; rw [e7, upW_ne (by decide)]; rw [e6, upV_o (by decide)]; rw [e5, upW_ne (by decide)]; rw [e4, upV_o (by decide)]; rw [e3, upW_ne (by decide)]; rw [e2, upV_s]; try rfl) d_X4_init_114 ?_
  refine n_bipush (x := 8) d_X4_init_117 (by decide) ?_
  refine n_iload_n 0 d_X4_init_119 rfl rfl ?_
  refine n_iadd d_X4_init_120 ?_
  rw [show (8 : Int32) + 14 = 22 from by decide]
  refine n_bipush (x := 50) d_X4_init_121 (by decide) ?_
  refine n_iast (k := 42) (e0 := 22) 58 (by decide) rfl rfl (by decide) (by decide) d_X4_init_123 (fun ω38 e38 => ?_)
  refine n_iinc [(1, .int 15), (0, .ref (E.1 + 41))] 0 d_X4_init_124 rfl (by decide) (Nat.le_of_ble_eq_true rfl) rfl ?_
  refine n_goto 107 d_X4_init_127 (by decide) ?_
  refine n_iload_n 0 d_X4_init_107 rfl rfl ?_
  refine n_bipush (x := 16) d_X4_init_108 (by decide) ?_
  refine n_icmp_ge 130 d_X4_init_110 (by decide) (fun c => ?_) (fun c => ?_)
  · exact absurd c (by decide)
  refine n_aload_n 1 d_X4_init_113 rfl rfl ?_
  refine n_get (k := 41) (j := 0) (z := .ref (E.1 + 42)) x_c4 rfl (by decide) (by decide) q668 (by rw [e38, upV_ne (by decide)]; rw [e37, upV_ne (by decide)]; rw [e36, upV_ne (by decide)]; rw [e35, upV_ne (by decide)]; rw [e34, upV_ne (by decide)]; rw [e33, upV_ne (by decide)]; rw [e32, upV_ne (by decide)]; rw [e31, upV_ne (by decide)]; rw [e30, upV_ne (by decide)]; rw [e29, upV_ne (by decide)]; rw [e28, upV_ne (by decide)]; rw [e27, upV_ne (by decide)]; rw [e26, upV_ne (by decide)]; rw [e25, upV_ne (by decide)]; rw [e24, upV_ne (by decide)]; rw [e23, upV_ne (by decide)]; rw [e22, upV_ne (by decide)]; rw [e21, upV_ne (by decide)]; rw [e20, upV_o (by decide)]; rw [e19, upW_ne (by decide)]; rw [e18, upV_o (by decide)]; rw [e17, upW_ne (by decide)]; rw [e16, upV_o (by decide)]; rw [e15, upW_ne (by decide)]; rw [e14, upV_o (by decide)]; rw [e13, upW_ne (by decide)]; rw [e12, upV_o (by decide)]; rw [e11, upW_ne (by decide)]; rw [e10, upV_o (by decide)]; rw [e9, upW_ne (by decide)]; rw [e8, upV_o (by decide)]; rw [e7, upW_ne (by decide)]; rw [e6, upV_o (by decide)]; rw [e5, upW_ne (by decide)]; rw [e4, upV_o (by decide)]; rw [e3, upW_ne (by decide)]; rw [e2, upV_s]; try rfl) d_X4_init_114 ?_
  refine n_bipush (x := 8) d_X4_init_117 (by decide) ?_
  refine n_iload_n 0 d_X4_init_119 rfl rfl ?_
  refine n_iadd d_X4_init_120 ?_
  rw [show (8 : Int32) + 15 = 23 from by decide]
  refine n_bipush (x := 50) d_X4_init_121 (by decide) ?_
  refine n_iast (k := 42) (e0 := 23) 58 (by decide) rfl rfl (by decide) (by decide) d_X4_init_123 (fun ω39 e39 => ?_)
  refine n_iinc [(1, .int 16), (0, .ref (E.1 + 41))] 0 d_X4_init_124 rfl (by decide) (Nat.le_of_ble_eq_true rfl) rfl ?_
  refine n_goto 107 d_X4_init_127 (by decide) ?_
  refine n_iload_n 0 d_X4_init_107 rfl rfl ?_
  refine n_bipush (x := 16) d_X4_init_108 (by decide) ?_
  refine n_icmp_ge 130 d_X4_init_110 (by decide) (fun c => ?_) (fun c => ?_)
  rotate_left
  · exact absurd (by decide) c
  refine n_bipush (x := 48) d_X4_init_130 (by decide) ?_
  refine n_istore_n [(1, .int 48), (0, .ref (E.1 + 41))] d_X4_init_132 rfl (Nat.le_of_ble_eq_true rfl) rfl ?_
  refine n_iload_n 0 d_X4_init_133 rfl rfl ?_
  refine n_bipush (x := 58) d_X4_init_134 (by decide) ?_
  refine n_icmp_ge 152 d_X4_init_136 (by decide) (fun c => ?_) (fun c => ?_)
  · exact absurd c (by decide)
  refine n_aload_n 1 d_X4_init_139 rfl rfl ?_
  refine n_get (k := 41) (j := 0) (z := .ref (E.1 + 42)) x_c4 rfl (by decide) (by decide) q668 (by rw [e39, upV_ne (by decide)]; rw [e38, upV_ne (by decide)]; rw [e37, upV_ne (by decide)]; rw [e36, upV_ne (by decide)]; rw [e35, upV_ne (by decide)]; rw [e34, upV_ne (by decide)]; rw [e33, upV_ne (by decide)]; rw [e32, upV_ne (by decide)]; rw [e31, upV_ne (by decide)]; rw [e30, upV_ne (by decide)]; rw [e29, upV_ne (by decide)]; rw [e28, upV_ne (by decide)]; rw [e27, upV_ne (by decide)]; rw [e26, upV_ne (by decide)]; rw [e25, upV_ne (by decide)]; rw [e24, upV_ne (by decide)]; rw [e23, upV_ne (by decide)]; rw [e22, upV_ne (by decide)]; rw [e21, upV_ne (by decide)]; rw [e20, upV_o (by decide)]; rw [e19, upW_ne (by decide)]; rw [e18, upV_o (by decide)]; rw [e17, upW_ne (by decide)]; rw [e16, upV_o (by decide)]; rw [e15, upW_ne (by decide)]; rw [e14, upV_o (by decide)]; rw [e13, upW_ne (by decide)]; rw [e12, upV_o (by decide)]; rw [e11, upW_ne (by decide)]; rw [e10, upV_o (by decide)]; rw [e9, upW_ne (by decide)]; rw [e8, upV_o (by decide)]; rw [e7, upW_ne (by decide)]; rw [e6, upV_o (by decide)]; rw [e5, upW_ne (by decide)]; rw [e4, upV_o (by decide)]; rw [e3, upW_ne (by decide)]; rw [e2, upV_s]; try rfl) d_X4_init_140 ?_
  refine n_iload_n 0 d_X4_init_143 rfl rfl ?_
  refine n_iconst (x := (-1)) d_X4_init_144 (by decide) ?_
  refine n_iast (k := 42) (e0 := 48) 58 (by decide) rfl rfl (by decide) (by decide) d_X4_init_145 (fun ω40 e40 => ?_)
  refine n_iinc [(1, .int 49), (0, .ref (E.1 + 41))] 0 d_X4_init_146 rfl (by decide) (Nat.le_of_ble_eq_true rfl) rfl ?_
  refine n_goto 133 d_X4_init_149 (by decide) ?_
  refine n_iload_n 0 d_X4_init_133 rfl rfl ?_
  refine n_bipush (x := 58) d_X4_init_134 (by decide) ?_
  refine n_icmp_ge 152 d_X4_init_136 (by decide) (fun c => ?_) (fun c => ?_)
  · exact absurd c (by decide)
  refine n_aload_n 1 d_X4_init_139 rfl rfl ?_
  refine n_get (k := 41) (j := 0) (z := .ref (E.1 + 42)) x_c4 rfl (by decide) (by decide) q668 (by rw [e40, upV_ne (by decide)]; rw [e39, upV_ne (by decide)]; rw [e38, upV_ne (by decide)]; rw [e37, upV_ne (by decide)]; rw [e36, upV_ne (by decide)]; rw [e35, upV_ne (by decide)]; rw [e34, upV_ne (by decide)]; rw [e33, upV_ne (by decide)]; rw [e32, upV_ne (by decide)]; rw [e31, upV_ne (by decide)]; rw [e30, upV_ne (by decide)]; rw [e29, upV_ne (by decide)]; rw [e28, upV_ne (by decide)]; rw [e27, upV_ne (by decide)]; rw [e26, upV_ne (by decide)]; rw [e25, upV_ne (by decide)]; rw [e24, upV_ne (by decide)]; rw [e23, upV_ne (by decide)]; rw [e22, upV_ne (by decide)]; rw [e21, upV_ne (by decide)]; rw [e20, upV_o (by decide)]; rw [e19, upW_ne (by decide)]; rw [e18, upV_o (by decide)]; rw [e17, upW_ne (by decide)]; rw [e16, upV_o (by decide)]; rw [e15, upW_ne (by decide)]; rw [e14, upV_o (by decide)]; rw [e13, upW_ne (by decide)]; rw [e12, upV_o (by decide)]; rw [e11, upW_ne (by decide)]; rw [e10, upV_o (by decide)]; rw [e9, upW_ne (by decide)]; rw [e8, upV_o (by decide)]; rw [e7, upW_ne (by decide)]; rw [e6, upV_o (by decide)]; rw [e5, upW_ne (by decide)]; rw [e4, upV_o (by decide)]; rw [e3, upW_ne (by decide)]; rw [e2, upV_s]; try rfl) d_X4_init_140 ?_
  refine n_iload_n 0 d_X4_init_143 rfl rfl ?_
  refine n_iconst (x := (-1)) d_X4_init_144 (by decide) ?_
  refine n_iast (k := 42) (e0 := 49) 58 (by decide) rfl rfl (by decide) (by decide) d_X4_init_145 (fun ω41 e41 => ?_)
  refine n_iinc [(1, .int 50), (0, .ref (E.1 + 41))] 0 d_X4_init_146 rfl (by decide) (Nat.le_of_ble_eq_true rfl) rfl ?_
  refine n_goto 133 d_X4_init_149 (by decide) ?_
  refine n_iload_n 0 d_X4_init_133 rfl rfl ?_
  refine n_bipush (x := 58) d_X4_init_134 (by decide) ?_
  refine n_icmp_ge 152 d_X4_init_136 (by decide) (fun c => ?_) (fun c => ?_)
  · exact absurd c (by decide)
  refine n_aload_n 1 d_X4_init_139 rfl rfl ?_
  refine n_get (k := 41) (j := 0) (z := .ref (E.1 + 42)) x_c4 rfl (by decide) (by decide) q668 (by rw [e41, upV_ne (by decide)]; rw [e40, upV_ne (by decide)]; rw [e39, upV_ne (by decide)]; rw [e38, upV_ne (by decide)]; rw [e37, upV_ne (by decide)]; rw [e36, upV_ne (by decide)]; rw [e35, upV_ne (by decide)]; rw [e34, upV_ne (by decide)]; rw [e33, upV_ne (by decide)]; rw [e32, upV_ne (by decide)]; rw [e31, upV_ne (by decide)]; rw [e30, upV_ne (by decide)]; rw [e29, upV_ne (by decide)]; rw [e28, upV_ne (by decide)]; rw [e27, upV_ne (by decide)]; rw [e26, upV_ne (by decide)]; rw [e25, upV_ne (by decide)]; rw [e24, upV_ne (by decide)]; rw [e23, upV_ne (by decide)]; rw [e22, upV_ne (by decide)]; rw [e21, upV_ne (by decide)]; rw [e20, upV_o (by decide)]; rw [e19, upW_ne (by decide)]; rw [e18, upV_o (by decide)]; rw [e17, upW_ne (by decide)]; rw [e16, upV_o (by decide)]; rw [e15, upW_ne (by decide)]; rw [e14, upV_o (by decide)]; rw [e13, upW_ne (by decide)]; rw [e12, upV_o (by decide)]; rw [e11, upW_ne (by decide)]; rw [e10, upV_o (by decide)]; rw [e9, upW_ne (by decide)]; rw [e8, upV_o (by decide)]; rw [e7, upW_ne (by decide)]; rw [e6, upV_o (by decide)]; rw [e5, upW_ne (by decide)]; rw [e4, upV_o (by decide)]; rw [e3, upW_ne (by decide)]; rw [e2, upV_s]; try rfl) d_X4_init_140 ?_
  refine n_iload_n 0 d_X4_init_143 rfl rfl ?_
  refine n_iconst (x := (-1)) d_X4_init_144 (by decide) ?_
  refine n_iast (k := 42) (e0 := 50) 58 (by decide) rfl rfl (by decide) (by decide) d_X4_init_145 (fun ω42 e42 => ?_)
  refine n_iinc [(1, .int 51), (0, .ref (E.1 + 41))] 0 d_X4_init_146 rfl (by decide) (Nat.le_of_ble_eq_true rfl) rfl ?_
  refine n_goto 133 d_X4_init_149 (by decide) ?_
  refine n_iload_n 0 d_X4_init_133 rfl rfl ?_
  refine n_bipush (x := 58) d_X4_init_134 (by decide) ?_
  refine n_icmp_ge 152 d_X4_init_136 (by decide) (fun c => ?_) (fun c => ?_)
  · exact absurd c (by decide)
  refine n_aload_n 1 d_X4_init_139 rfl rfl ?_
  refine n_get (k := 41) (j := 0) (z := .ref (E.1 + 42)) x_c4 rfl (by decide) (by decide) q668 (by rw [e42, upV_ne (by decide)]; rw [e41, upV_ne (by decide)]; rw [e40, upV_ne (by decide)]; rw [e39, upV_ne (by decide)]; rw [e38, upV_ne (by decide)]; rw [e37, upV_ne (by decide)]; rw [e36, upV_ne (by decide)]; rw [e35, upV_ne (by decide)]; rw [e34, upV_ne (by decide)]; rw [e33, upV_ne (by decide)]; rw [e32, upV_ne (by decide)]; rw [e31, upV_ne (by decide)]; rw [e30, upV_ne (by decide)]; rw [e29, upV_ne (by decide)]; rw [e28, upV_ne (by decide)]; rw [e27, upV_ne (by decide)]; rw [e26, upV_ne (by decide)]; rw [e25, upV_ne (by decide)]; rw [e24, upV_ne (by decide)]; rw [e23, upV_ne (by decide)]; rw [e22, upV_ne (by decide)]; rw [e21, upV_ne (by decide)]; rw [e20, upV_o (by decide)]; rw [e19, upW_ne (by decide)]; rw [e18, upV_o (by decide)]; rw [e17, upW_ne (by decide)]; rw [e16, upV_o (by decide)]; rw [e15, upW_ne (by decide)]; rw [e14, upV_o (by decide)]; rw [e13, upW_ne (by decide)]; rw [e12, upV_o (by decide)]; rw [e11, upW_ne (by decide)]; rw [e10, upV_o (by decide)]; rw [e9, upW_ne (by decide)]; rw [e8, upV_o (by decide)]; rw [e7, upW_ne (by decide)]; rw [e6, upV_o (by decide)]; rw [e5, upW_ne (by decide)]; rw [e4, upV_o (by decide)]; rw [e3, upW_ne (by decide)]; rw [e2, upV_s]; try rfl) d_X4_init_140 ?_
  refine n_iload_n 0 d_X4_init_143 rfl rfl ?_
  refine n_iconst (x := (-1)) d_X4_init_144 (by decide) ?_
  refine n_iast (k := 42) (e0 := 51) 58 (by decide) rfl rfl (by decide) (by decide) d_X4_init_145 (fun ω43 e43 => ?_)
  refine n_iinc [(1, .int 52), (0, .ref (E.1 + 41))] 0 d_X4_init_146 rfl (by decide) (Nat.le_of_ble_eq_true rfl) rfl ?_
  refine n_goto 133 d_X4_init_149 (by decide) ?_
  refine n_iload_n 0 d_X4_init_133 rfl rfl ?_
  refine n_bipush (x := 58) d_X4_init_134 (by decide) ?_
  refine n_icmp_ge 152 d_X4_init_136 (by decide) (fun c => ?_) (fun c => ?_)
  · exact absurd c (by decide)
  refine n_aload_n 1 d_X4_init_139 rfl rfl ?_
  refine n_get (k := 41) (j := 0) (z := .ref (E.1 + 42)) x_c4 rfl (by decide) (by decide) q668 (by rw [e43, upV_ne (by decide)]; rw [e42, upV_ne (by decide)]; rw [e41, upV_ne (by decide)]; rw [e40, upV_ne (by decide)]; rw [e39, upV_ne (by decide)]; rw [e38, upV_ne (by decide)]; rw [e37, upV_ne (by decide)]; rw [e36, upV_ne (by decide)]; rw [e35, upV_ne (by decide)]; rw [e34, upV_ne (by decide)]; rw [e33, upV_ne (by decide)]; rw [e32, upV_ne (by decide)]; rw [e31, upV_ne (by decide)]; rw [e30, upV_ne (by decide)]; rw [e29, upV_ne (by decide)]; rw [e28, upV_ne (by decide)]; rw [e27, upV_ne (by decide)]; rw [e26, upV_ne (by decide)]; rw [e25, upV_ne (by decide)]; rw [e24, upV_ne (by decide)]; rw [e23, upV_ne (by decide)]; rw [e22, upV_ne (by decide)]; rw [e21, upV_ne (by decide)]; rw [e20, upV_o (by decide)]; rw [e19, upW_ne (by decide)]; rw [e18, upV_o (by decide)]; rw [e17, upW_ne (by decide)]; rw [e16, upV_o (by decide)]; rw [e15, upW_ne (by decide)]; rw [e14, upV_o (by decide)]; rw [e13, upW_ne (by decide)]; rw [e12, upV_o (by decide)]; rw [e11, upW_ne (by decide)]; rw [e10, upV_o (by decide)]; rw [e9, upW_ne (by decide)]; rw [e8, upV_o (by decide)]; rw [e7, upW_ne (by decide)]; rw [e6, upV_o (by decide)]; rw [e5, upW_ne (by decide)]; rw [e4, upV_o (by decide)]; rw [e3, upW_ne (by decide)]; rw [e2, upV_s]; try rfl) d_X4_init_140 ?_
  refine n_iload_n 0 d_X4_init_143 rfl rfl ?_
  refine n_iconst (x := (-1)) d_X4_init_144 (by decide) ?_
  refine n_iast (k := 42) (e0 := 52) 58 (by decide) rfl rfl (by decide) (by decide) d_X4_init_145 (fun ω44 e44 => ?_)
  refine n_iinc [(1, .int 53), (0, .ref (E.1 + 41))] 0 d_X4_init_146 rfl (by decide) (Nat.le_of_ble_eq_true rfl) rfl ?_
  refine n_goto 133 d_X4_init_149 (by decide) ?_
  refine n_iload_n 0 d_X4_init_133 rfl rfl ?_
  refine n_bipush (x := 58) d_X4_init_134 (by decide) ?_
  refine n_icmp_ge 152 d_X4_init_136 (by decide) (fun c => ?_) (fun c => ?_)
  · exact absurd c (by decide)
  refine n_aload_n 1 d_X4_init_139 rfl rfl ?_
  refine n_get (k := 41) (j := 0) (z := .ref (E.1 + 42)) x_c4 rfl (by decide) (by decide) q668 (by rw [e44, upV_ne (by decide)]; rw [e43, upV_ne (by decide)]; rw [e42, upV_ne (by decide)]; rw [e41, upV_ne (by decide)]; rw [e40, upV_ne (by decide)]; rw [e39, upV_ne (by decide)]; rw [e38, upV_ne (by decide)]; rw [e37, upV_ne (by decide)]; rw [e36, upV_ne (by decide)]; rw [e35, upV_ne (by decide)]; rw [e34, upV_ne (by decide)]; rw [e33, upV_ne (by decide)]; rw [e32, upV_ne (by decide)]; rw [e31, upV_ne (by decide)]; rw [e30, upV_ne (by decide)]; rw [e29, upV_ne (by decide)]; rw [e28, upV_ne (by decide)]; rw [e27, upV_ne (by decide)]; rw [e26, upV_ne (by decide)]; rw [e25, upV_ne (by decide)]; rw [e24, upV_ne (by decide)]; rw [e23, upV_ne (by decide)]; rw [e22, upV_ne (by decide)]; rw [e21, upV_ne (by decide)]; rw [e20, upV_o (by decide)]; rw [e19, upW_ne (by decide)]; rw [e18, upV_o (by decide)]; rw [e17, upW_ne (by decide)]; rw [e16, upV_o (by decide)]; rw [e15, upW_ne (by decide)]; rw [e14, upV_o (by decide)]; rw [e13, upW_ne (by decide)]; rw [e12, upV_o (by decide)]; rw [e11, upW_ne (by decide)]; rw [e10, upV_o (by decide)]; rw [e9, upW_ne (by decide)]; rw [e8, upV_o (by decide)]; rw [e7, upW_ne (by decide)]; rw [e6, upV_o (by decide)]; rw [e5, upW_ne (by decide)]; rw [e4, upV_o (by decide)]; rw [e3, upW_ne (by decide)]; rw [e2, upV_s]; try rfl) d_X4_init_140 ?_
  refine n_iload_n 0 d_X4_init_143 rfl rfl ?_
  refine n_iconst (x := (-1)) d_X4_init_144 (by decide) ?_
  refine n_iast (k := 42) (e0 := 53) 58 (by decide) rfl rfl (by decide) (by decide) d_X4_init_145 (fun ω45 e45 => ?_)
  refine n_iinc [(1, .int 54), (0, .ref (E.1 + 41))] 0 d_X4_init_146 rfl (by decide) (Nat.le_of_ble_eq_true rfl) rfl ?_
  refine n_goto 133 d_X4_init_149 (by decide) ?_
  refine n_iload_n 0 d_X4_init_133 rfl rfl ?_
  refine n_bipush (x := 58) d_X4_init_134 (by decide) ?_
  refine n_icmp_ge 152 d_X4_init_136 (by decide) (fun c => ?_) (fun c => ?_)
  · exact absurd c (by decide)
  refine n_aload_n 1 d_X4_init_139 rfl rfl ?_
  refine n_get (k := 41) (j := 0) (z := .ref (E.1 + 42)) x_c4 rfl (by decide) (by decide) q668 (by rw [e45, upV_ne (by decide)]; rw [e44, upV_ne (by decide)]; rw [e43, upV_ne (by decide)]; rw [e42, upV_ne (by decide)]; rw [e41, upV_ne (by decide)]; rw [e40, upV_ne (by decide)]; rw [e39, upV_ne (by decide)]; rw [e38, upV_ne (by decide)]; rw [e37, upV_ne (by decide)]; rw [e36, upV_ne (by decide)]; rw [e35, upV_ne (by decide)]; rw [e34, upV_ne (by decide)]; rw [e33, upV_ne (by decide)]; rw [e32, upV_ne (by decide)]; rw [e31, upV_ne (by decide)]; rw [e30, upV_ne (by decide)]; rw [e29, upV_ne (by decide)]; rw [e28, upV_ne (by decide)]; rw [e27, upV_ne (by decide)]; rw [e26, upV_ne (by decide)]; rw [e25, upV_ne (by decide)]; rw [e24, upV_ne (by decide)]; rw [e23, upV_ne (by decide)]; rw [e22, upV_ne (by decide)]; rw [e21, upV_ne (by decide)]; rw [e20, upV_o (by decide)]; rw [e19, upW_ne (by decide)]; rw [e18, upV_o (by decide)]; rw [e17, upW_ne (by decide)]; rw [e16, upV_o (by decide)]; rw [e15, upW_ne (by decide)]; rw [e14, upV_o (by decide)]; rw [e13, upW_ne (by decide)]; rw [e12, upV_o (by decide)]; rw [e11, upW_ne (by decide)]; rw [e10, upV_o (by decide)]; rw [e9, upW_ne (by decide)]; rw [e8, upV_o (by decide)]; rw [e7, upW_ne (by decide)]; rw [e6, upV_o (by decide)]; rw [e5, upW_ne (by decide)]; rw [e4, upV_o (by decide)]; rw [e3, upW_ne (by decide)]; rw [e2, upV_s]; try rfl) d_X4_init_140 ?_
  refine n_iload_n 0 d_X4_init_143 rfl rfl ?_
  refine n_iconst (x := (-1)) d_X4_init_144 (by decide) ?_
  refine n_iast (k := 42) (e0 := 54) 58 (by decide) rfl rfl (by decide) (by decide) d_X4_init_145 (fun ω46 e46 => ?_)
  refine n_iinc [(1, .int 55), (0, .ref (E.1 + 41))] 0 d_X4_init_146 rfl (by decide) (Nat.le_of_ble_eq_true rfl) rfl ?_
  refine n_goto 133 d_X4_init_149 (by decide) ?_
  refine n_iload_n 0 d_X4_init_133 rfl rfl ?_
  refine n_bipush (x := 58) d_X4_init_134 (by decide) ?_
  refine n_icmp_ge 152 d_X4_init_136 (by decide) (fun c => ?_) (fun c => ?_)
  · exact absurd c (by decide)
  refine n_aload_n 1 d_X4_init_139 rfl rfl ?_
  refine n_get (k := 41) (j := 0) (z := .ref (E.1 + 42)) x_c4 rfl (by decide) (by decide) q668 (by rw [e46, upV_ne (by decide)]; rw [e45, upV_ne (by decide)]; rw [e44, upV_ne (by decide)]; rw [e43, upV_ne (by decide)]; rw [e42, upV_ne (by decide)]; rw [e41, upV_ne (by decide)]; rw [e40, upV_ne (by decide)]; rw [e39, upV_ne (by decide)]; rw [e38, upV_ne (by decide)]; rw [e37, upV_ne (by decide)]; rw [e36, upV_ne (by decide)]; rw [e35, upV_ne (by decide)]; rw [e34, upV_ne (by decide)]; rw [e33, upV_ne (by decide)]; rw [e32, upV_ne (by decide)]; rw [e31, upV_ne (by decide)]; rw [e30, upV_ne (by decide)]; rw [e29, upV_ne (by decide)]; rw [e28, upV_ne (by decide)]; rw [e27, upV_ne (by decide)]; rw [e26, upV_ne (by decide)]; rw [e25, upV_ne (by decide)]; rw [e24, upV_ne (by decide)]; rw [e23, upV_ne (by decide)]; rw [e22, upV_ne (by decide)]; rw [e21, upV_ne (by decide)]; rw [e20, upV_o (by decide)]; rw [e19, upW_ne (by decide)]; rw [e18, upV_o (by decide)]; rw [e17, upW_ne (by decide)]; rw [e16, upV_o (by decide)]; rw [e15, upW_ne (by decide)]; rw [e14, upV_o (by decide)]; rw [e13, upW_ne (by decide)]; rw [e12, upV_o (by decide)]; rw [e11, upW_ne (by decide)]; rw [e10, upV_o (by decide)]; rw [e9, upW_ne (by decide)]; rw [e8, upV_o (by decide)]; rw [e7, upW_ne (by decide)]; rw [e6, upV_o (by decide)]; rw [e5, upW_ne (by decide)]; rw [e4, upV_o (by decide)]; rw [e3, upW_ne (by decide)]; rw [e2, upV_s]; try rfl) d_X4_init_140 ?_
  refine n_iload_n 0 d_X4_init_143 rfl rfl ?_
  refine n_iconst (x := (-1)) d_X4_init_144 (by decide) ?_
  refine n_iast (k := 42) (e0 := 55) 58 (by decide) rfl rfl (by decide) (by decide) d_X4_init_145 (fun ω47 e47 => ?_)
  refine n_iinc [(1, .int 56), (0, .ref (E.1 + 41))] 0 d_X4_init_146 rfl (by decide) (Nat.le_of_ble_eq_true rfl) rfl ?_
  refine n_goto 133 d_X4_init_149 (by decide) ?_
  refine n_iload_n 0 d_X4_init_133 rfl rfl ?_
  refine n_bipush (x := 58) d_X4_init_134 (by decide) ?_
  refine n_icmp_ge 152 d_X4_init_136 (by decide) (fun c => ?_) (fun c => ?_)
  · exact absurd c (by decide)
  refine n_aload_n 1 d_X4_init_139 rfl rfl ?_
  refine n_get (k := 41) (j := 0) (z := .ref (E.1 + 42)) x_c4 rfl (by decide) (by decide) q668 (by rw [e47, upV_ne (by decide)]; rw [e46, upV_ne (by decide)]; rw [e45, upV_ne (by decide)]; rw [e44, upV_ne (by decide)]; rw [e43, upV_ne (by decide)]; rw [e42, upV_ne (by decide)]; rw [e41, upV_ne (by decide)]; rw [e40, upV_ne (by decide)]; rw [e39, upV_ne (by decide)]; rw [e38, upV_ne (by decide)]; rw [e37, upV_ne (by decide)]; rw [e36, upV_ne (by decide)]; rw [e35, upV_ne (by decide)]; rw [e34, upV_ne (by decide)]; rw [e33, upV_ne (by decide)]; rw [e32, upV_ne (by decide)]; rw [e31, upV_ne (by decide)]; rw [e30, upV_ne (by decide)]; rw [e29, upV_ne (by decide)]; rw [e28, upV_ne (by decide)]; rw [e27, upV_ne (by decide)]; rw [e26, upV_ne (by decide)]; rw [e25, upV_ne (by decide)]; rw [e24, upV_ne (by decide)]; rw [e23, upV_ne (by decide)]; rw [e22, upV_ne (by decide)]; rw [e21, upV_ne (by decide)]; rw [e20, upV_o (by decide)]; rw [e19, upW_ne (by decide)]; rw [e18, upV_o (by decide)]; rw [e17, upW_ne (by decide)]; rw [e16, upV_o (by decide)]; rw [e15, upW_ne (by decide)]; rw [e14, upV_o (by decide)]; rw [e13, upW_ne (by decide)]; rw [e12, upV_o (by decide)]; rw [e11, upW_ne (by decide)]; rw [e10, upV_o (by decide)]; rw [e9, upW_ne (by decide)]; rw [e8, upV_o (by decide)]; rw [e7, upW_ne (by decide)]; rw [e6, upV_o (by decide)]; rw [e5, upW_ne (by decide)]; rw [e4, upV_o (by decide)]; rw [e3, upW_ne (by decide)]; rw [e2, upV_s]; try rfl) d_X4_init_140 ?_
  refine n_iload_n 0 d_X4_init_143 rfl rfl ?_
  refine n_iconst (x := (-1)) d_X4_init_144 (by decide) ?_
  refine n_iast (k := 42) (e0 := 56) 58 (by decide) rfl rfl (by decide) (by decide) d_X4_init_145 (fun ω48 e48 => ?_)
  refine n_iinc [(1, .int 57), (0, .ref (E.1 + 41))] 0 d_X4_init_146 rfl (by decide) (Nat.le_of_ble_eq_true rfl) rfl ?_
  refine n_goto 133 d_X4_init_149 (by decide) ?_
  refine n_iload_n 0 d_X4_init_133 rfl rfl ?_
  refine n_bipush (x := 58) d_X4_init_134 (by decide) ?_
  refine n_icmp_ge 152 d_X4_init_136 (by decide) (fun c => ?_) (fun c => ?_)
  · exact absurd c (by decide)
  refine n_aload_n 1 d_X4_init_139 rfl rfl ?_
  refine n_get (k := 41) (j := 0) (z := .ref (E.1 + 42)) x_c4 rfl (by decide) (by decide) q668 (by rw [e48, upV_ne (by decide)]; rw [e47, upV_ne (by decide)]; rw [e46, upV_ne (by decide)]; rw [e45, upV_ne (by decide)]; rw [e44, upV_ne (by decide)]; rw [e43, upV_ne (by decide)]; rw [e42, upV_ne (by decide)]; rw [e41, upV_ne (by decide)]; rw [e40, upV_ne (by decide)]; rw [e39, upV_ne (by decide)]; rw [e38, upV_ne (by decide)]; rw [e37, upV_ne (by decide)]; rw [e36, upV_ne (by decide)]; rw [e35, upV_ne (by decide)]; rw [e34, upV_ne (by decide)]; rw [e33, upV_ne (by decide)]; rw [e32, upV_ne (by decide)]; rw [e31, upV_ne (by decide)]; rw [e30, upV_ne (by decide)]; rw [e29, upV_ne (by decide)]; rw [e28, upV_ne (by decide)]; rw [e27, upV_ne (by decide)]; rw [e26, upV_ne (by decide)]; rw [e25, upV_ne (by decide)]; rw [e24, upV_ne (by decide)]; rw [e23, upV_ne (by decide)]; rw [e22, upV_ne (by decide)]; rw [e21, upV_ne (by decide)]; rw [e20, upV_o (by decide)]; rw [e19, upW_ne (by decide)]; rw [e18, upV_o (by decide)]; rw [e17, upW_ne (by decide)]; rw [e16, upV_o (by decide)]; rw [e15, upW_ne (by decide)]; rw [e14, upV_o (by decide)]; rw [e13, upW_ne (by decide)]; rw [e12, upV_o (by decide)]; rw [e11, upW_ne (by decide)]; rw [e10, upV_o (by decide)]; rw [e9, upW_ne (by decide)]; rw [e8, upV_o (by decide)]; rw [e7, upW_ne (by decide)]; rw [e6, upV_o (by decide)]; rw [e5, upW_ne (by decide)]; rw [e4, upV_o (by decide)]; rw [e3, upW_ne (by decide)]; rw [e2, upV_s]; try rfl) d_X4_init_140 ?_
  refine n_iload_n 0 d_X4_init_143 rfl rfl ?_
  refine n_iconst (x := (-1)) d_X4_init_144 (by decide) ?_
  refine n_iast (k := 42) (e0 := 57) 58 (by decide) rfl rfl (by decide) (by decide) d_X4_init_145 (fun ω49 e49 => ?_)
  refine n_iinc [(1, .int 58), (0, .ref (E.1 + 41))] 0 d_X4_init_146 rfl (by decide) (Nat.le_of_ble_eq_true rfl) rfl ?_
  refine n_goto 133 d_X4_init_149 (by decide) ?_
  refine n_iload_n 0 d_X4_init_133 rfl rfl ?_
  refine n_bipush (x := 58) d_X4_init_134 (by decide) ?_
  refine n_icmp_ge 152 d_X4_init_136 (by decide) (fun c => ?_) (fun c => ?_)
  rotate_left
  · exact absurd (by decide) c
  refine n_ret rfl d_X4_init_152 ?_
  refine ⟨rfl, fun c h1 h2 => ?_, fun c h => ?_⟩
  · obtain rfl | rfl | rfl | rfl | rfl | rfl | rfl | rfl | rfl | rfl | rfl : c = 41 ∨ c = 42 ∨ c = 43 ∨ c = 44 ∨ c = 45 ∨ c = 46 ∨ c = 47 ∨ c = 48 ∨ c = 49 ∨ c = 50 ∨ c = 51 := by omega
    · intro j hj
      have hj : j < 17 := hj
      rcases Nat.eq_or_lt_of_le (show j ≤ 16 by omega) with hq | hq
      · subst hq; rw [e49, upV_ne (by decide)]; rw [e48, upV_ne (by decide)]; rw [e47, upV_ne (by decide)]; rw [e46, upV_ne (by decide)]; rw [e45, upV_ne (by decide)]; rw [e44, upV_ne (by decide)]; rw [e43, upV_ne (by decide)]; rw [e42, upV_ne (by decide)]; rw [e41, upV_ne (by decide)]; rw [e40, upV_ne (by decide)]; rw [e39, upV_ne (by decide)]; rw [e38, upV_ne (by decide)]; rw [e37, upV_ne (by decide)]; rw [e36, upV_ne (by decide)]; rw [e35, upV_ne (by decide)]; rw [e34, upV_ne (by decide)]; rw [e33, upV_ne (by decide)]; rw [e32, upV_ne (by decide)]; rw [e31, upV_ne (by decide)]; rw [e30, upV_ne (by decide)]; rw [e29, upV_ne (by decide)]; rw [e28, upV_ne (by decide)]; rw [e27, upV_ne (by decide)]; rw [e26, upV_ne (by decide)]; rw [e25, upV_ne (by decide)]; rw [e24, upV_ne (by decide)]; rw [e23, upV_ne (by decide)]; rw [e22, upV_ne (by decide)]; rw [e21, upV_ne (by decide)]; rw [e20, upV_o (by decide)]; rw [e19, upW_ne (by decide)]; rw [e18, upV_o (by decide)]; rw [e17, upW_ne (by decide)]; rw [e16, upV_o (by decide)]; rw [e15, upW_ne (by decide)]; rw [e14, upV_o (by decide)]; rw [e13, upW_ne (by decide)]; rw [e12, upV_o (by decide)]; rw [e11, upW_ne (by decide)]; rw [e10, upV_o (by decide)]; rw [e9, upW_ne (by decide)]; rw [e8, upV_o (by decide)]; rw [e7, upW_ne (by decide)]; rw [e6, upV_o (by decide)]; rw [e5, upW_ne (by decide)]; rw [e4, upV_o (by decide)]; rw [e3, upW_ne (by decide)]; rw [e2, upV_o (by decide)]; rw [e1, upW_ne (by decide)]; rw [h0]; try rfl
      replace hj : j < 16 := hq
      rcases Nat.eq_or_lt_of_le (show j ≤ 15 by omega) with hq | hq
      · subst hq; rw [e49, upV_ne (by decide)]; rw [e48, upV_ne (by decide)]; rw [e47, upV_ne (by decide)]; rw [e46, upV_ne (by decide)]; rw [e45, upV_ne (by decide)]; rw [e44, upV_ne (by decide)]; rw [e43, upV_ne (by decide)]; rw [e42, upV_ne (by decide)]; rw [e41, upV_ne (by decide)]; rw [e40, upV_ne (by decide)]; rw [e39, upV_ne (by decide)]; rw [e38, upV_ne (by decide)]; rw [e37, upV_ne (by decide)]; rw [e36, upV_ne (by decide)]; rw [e35, upV_ne (by decide)]; rw [e34, upV_ne (by decide)]; rw [e33, upV_ne (by decide)]; rw [e32, upV_ne (by decide)]; rw [e31, upV_ne (by decide)]; rw [e30, upV_ne (by decide)]; rw [e29, upV_ne (by decide)]; rw [e28, upV_ne (by decide)]; rw [e27, upV_ne (by decide)]; rw [e26, upV_ne (by decide)]; rw [e25, upV_ne (by decide)]; rw [e24, upV_ne (by decide)]; rw [e23, upV_ne (by decide)]; rw [e22, upV_ne (by decide)]; rw [e21, upV_ne (by decide)]; rw [e20, upV_o (by decide)]; rw [e19, upW_ne (by decide)]; rw [e18, upV_o (by decide)]; rw [e17, upW_ne (by decide)]; rw [e16, upV_o (by decide)]; rw [e15, upW_ne (by decide)]; rw [e14, upV_o (by decide)]; rw [e13, upW_ne (by decide)]; rw [e12, upV_o (by decide)]; rw [e11, upW_ne (by decide)]; rw [e10, upV_o (by decide)]; rw [e9, upW_ne (by decide)]; rw [e8, upV_o (by decide)]; rw [e7, upW_ne (by decide)]; rw [e6, upV_o (by decide)]; rw [e5, upW_ne (by decide)]; rw [e4, upV_o (by decide)]; rw [e3, upW_ne (by decide)]; rw [e2, upV_o (by decide)]; rw [e1, upW_ne (by decide)]; rw [h0]; try rfl
      replace hj : j < 15 := hq
      rcases Nat.eq_or_lt_of_le (show j ≤ 14 by omega) with hq | hq
      · subst hq; rw [e49, upV_ne (by decide)]; rw [e48, upV_ne (by decide)]; rw [e47, upV_ne (by decide)]; rw [e46, upV_ne (by decide)]; rw [e45, upV_ne (by decide)]; rw [e44, upV_ne (by decide)]; rw [e43, upV_ne (by decide)]; rw [e42, upV_ne (by decide)]; rw [e41, upV_ne (by decide)]; rw [e40, upV_ne (by decide)]; rw [e39, upV_ne (by decide)]; rw [e38, upV_ne (by decide)]; rw [e37, upV_ne (by decide)]; rw [e36, upV_ne (by decide)]; rw [e35, upV_ne (by decide)]; rw [e34, upV_ne (by decide)]; rw [e33, upV_ne (by decide)]; rw [e32, upV_ne (by decide)]; rw [e31, upV_ne (by decide)]; rw [e30, upV_ne (by decide)]; rw [e29, upV_ne (by decide)]; rw [e28, upV_ne (by decide)]; rw [e27, upV_ne (by decide)]; rw [e26, upV_ne (by decide)]; rw [e25, upV_ne (by decide)]; rw [e24, upV_ne (by decide)]; rw [e23, upV_ne (by decide)]; rw [e22, upV_ne (by decide)]; rw [e21, upV_ne (by decide)]; rw [e20, upV_o (by decide)]; rw [e19, upW_ne (by decide)]; rw [e18, upV_o (by decide)]; rw [e17, upW_ne (by decide)]; rw [e16, upV_o (by decide)]; rw [e15, upW_ne (by decide)]; rw [e14, upV_o (by decide)]; rw [e13, upW_ne (by decide)]; rw [e12, upV_o (by decide)]; rw [e11, upW_ne (by decide)]; rw [e10, upV_o (by decide)]; rw [e9, upW_ne (by decide)]; rw [e8, upV_o (by decide)]; rw [e7, upW_ne (by decide)]; rw [e6, upV_o (by decide)]; rw [e5, upW_ne (by decide)]; rw [e4, upV_o (by decide)]; rw [e3, upW_ne (by decide)]; rw [e2, upV_o (by decide)]; rw [e1, upW_ne (by decide)]; rw [h0]; try rfl
      replace hj : j < 14 := hq
      rcases Nat.eq_or_lt_of_le (show j ≤ 13 by omega) with hq | hq
      · subst hq; rw [e49, upV_ne (by decide)]; rw [e48, upV_ne (by decide)]; rw [e47, upV_ne (by decide)]; rw [e46, upV_ne (by decide)]; rw [e45, upV_ne (by decide)]; rw [e44, upV_ne (by decide)]; rw [e43, upV_ne (by decide)]; rw [e42, upV_ne (by decide)]; rw [e41, upV_ne (by decide)]; rw [e40, upV_ne (by decide)]; rw [e39, upV_ne (by decide)]; rw [e38, upV_ne (by decide)]; rw [e37, upV_ne (by decide)]; rw [e36, upV_ne (by decide)]; rw [e35, upV_ne (by decide)]; rw [e34, upV_ne (by decide)]; rw [e33, upV_ne (by decide)]; rw [e32, upV_ne (by decide)]; rw [e31, upV_ne (by decide)]; rw [e30, upV_ne (by decide)]; rw [e29, upV_ne (by decide)]; rw [e28, upV_ne (by decide)]; rw [e27, upV_ne (by decide)]; rw [e26, upV_ne (by decide)]; rw [e25, upV_ne (by decide)]; rw [e24, upV_ne (by decide)]; rw [e23, upV_ne (by decide)]; rw [e22, upV_ne (by decide)]; rw [e21, upV_ne (by decide)]; rw [e20, upV_o (by decide)]; rw [e19, upW_ne (by decide)]; rw [e18, upV_o (by decide)]; rw [e17, upW_ne (by decide)]; rw [e16, upV_o (by decide)]; rw [e15, upW_ne (by decide)]; rw [e14, upV_o (by decide)]; rw [e13, upW_ne (by decide)]; rw [e12, upV_o (by decide)]; rw [e11, upW_ne (by decide)]; rw [e10, upV_o (by decide)]; rw [e9, upW_ne (by decide)]; rw [e8, upV_o (by decide)]; rw [e7, upW_ne (by decide)]; rw [e6, upV_o (by decide)]; rw [e5, upW_ne (by decide)]; rw [e4, upV_o (by decide)]; rw [e3, upW_ne (by decide)]; rw [e2, upV_o (by decide)]; rw [e1, upW_ne (by decide)]; rw [h0]; try rfl
      replace hj : j < 13 := hq
      rcases Nat.eq_or_lt_of_le (show j ≤ 12 by omega) with hq | hq
      · subst hq; rw [e49, upV_ne (by decide)]; rw [e48, upV_ne (by decide)]; rw [e47, upV_ne (by decide)]; rw [e46, upV_ne (by decide)]; rw [e45, upV_ne (by decide)]; rw [e44, upV_ne (by decide)]; rw [e43, upV_ne (by decide)]; rw [e42, upV_ne (by decide)]; rw [e41, upV_ne (by decide)]; rw [e40, upV_ne (by decide)]; rw [e39, upV_ne (by decide)]; rw [e38, upV_ne (by decide)]; rw [e37, upV_ne (by decide)]; rw [e36, upV_ne (by decide)]; rw [e35, upV_ne (by decide)]; rw [e34, upV_ne (by decide)]; rw [e33, upV_ne (by decide)]; rw [e32, upV_ne (by decide)]; rw [e31, upV_ne (by decide)]; rw [e30, upV_ne (by decide)]; rw [e29, upV_ne (by decide)]; rw [e28, upV_ne (by decide)]; rw [e27, upV_ne (by decide)]; rw [e26, upV_ne (by decide)]; rw [e25, upV_ne (by decide)]; rw [e24, upV_ne (by decide)]; rw [e23, upV_ne (by decide)]; rw [e22, upV_ne (by decide)]; rw [e21, upV_ne (by decide)]; rw [e20, upV_o (by decide)]; rw [e19, upW_ne (by decide)]; rw [e18, upV_o (by decide)]; rw [e17, upW_ne (by decide)]; rw [e16, upV_o (by decide)]; rw [e15, upW_ne (by decide)]; rw [e14, upV_o (by decide)]; rw [e13, upW_ne (by decide)]; rw [e12, upV_o (by decide)]; rw [e11, upW_ne (by decide)]; rw [e10, upV_o (by decide)]; rw [e9, upW_ne (by decide)]; rw [e8, upV_o (by decide)]; rw [e7, upW_ne (by decide)]; rw [e6, upV_o (by decide)]; rw [e5, upW_ne (by decide)]; rw [e4, upV_o (by decide)]; rw [e3, upW_ne (by decide)]; rw [e2, upV_o (by decide)]; rw [e1, upW_ne (by decide)]; rw [h0]; try rfl
      replace hj : j < 12 := hq
      rcases Nat.eq_or_lt_of_le (show j ≤ 11 by omega) with hq | hq
      · subst hq; rw [e49, upV_ne (by decide)]; rw [e48, upV_ne (by decide)]; rw [e47, upV_ne (by decide)]; rw [e46, upV_ne (by decide)]; rw [e45, upV_ne (by decide)]; rw [e44, upV_ne (by decide)]; rw [e43, upV_ne (by decide)]; rw [e42, upV_ne (by decide)]; rw [e41, upV_ne (by decide)]; rw [e40, upV_ne (by decide)]; rw [e39, upV_ne (by decide)]; rw [e38, upV_ne (by decide)]; rw [e37, upV_ne (by decide)]; rw [e36, upV_ne (by decide)]; rw [e35, upV_ne (by decide)]; rw [e34, upV_ne (by decide)]; rw [e33, upV_ne (by decide)]; rw [e32, upV_ne (by decide)]; rw [e31, upV_ne (by decide)]; rw [e30, upV_ne (by decide)]; rw [e29, upV_ne (by decide)]; rw [e28, upV_ne (by decide)]; rw [e27, upV_ne (by decide)]; rw [e26, upV_ne (by decide)]; rw [e25, upV_ne (by decide)]; rw [e24, upV_ne (by decide)]; rw [e23, upV_ne (by decide)]; rw [e22, upV_ne (by decide)]; rw [e21, upV_ne (by decide)]; rw [e20, upV_o (by decide)]; rw [e19, upW_ne (by decide)]; rw [e18, upV_o (by decide)]; rw [e17, upW_ne (by decide)]; rw [e16, upV_o (by decide)]; rw [e15, upW_ne (by decide)]; rw [e14, upV_o (by decide)]; rw [e13, upW_ne (by decide)]; rw [e12, upV_o (by decide)]; rw [e11, upW_ne (by decide)]; rw [e10, upV_o (by decide)]; rw [e9, upW_ne (by decide)]; rw [e8, upV_o (by decide)]; rw [e7, upW_ne (by decide)]; rw [e6, upV_o (by decide)]; rw [e5, upW_ne (by decide)]; rw [e4, upV_o (by decide)]; rw [e3, upW_ne (by decide)]; rw [e2, upV_o (by decide)]; rw [e1, upW_ne (by decide)]; rw [h0]; try rfl
      replace hj : j < 11 := hq
      rcases Nat.eq_or_lt_of_le (show j ≤ 10 by omega) with hq | hq
      · subst hq; rw [e49, upV_ne (by decide)]; rw [e48, upV_ne (by decide)]; rw [e47, upV_ne (by decide)]; rw [e46, upV_ne (by decide)]; rw [e45, upV_ne (by decide)]; rw [e44, upV_ne (by decide)]; rw [e43, upV_ne (by decide)]; rw [e42, upV_ne (by decide)]; rw [e41, upV_ne (by decide)]; rw [e40, upV_ne (by decide)]; rw [e39, upV_ne (by decide)]; rw [e38, upV_ne (by decide)]; rw [e37, upV_ne (by decide)]; rw [e36, upV_ne (by decide)]; rw [e35, upV_ne (by decide)]; rw [e34, upV_ne (by decide)]; rw [e33, upV_ne (by decide)]; rw [e32, upV_ne (by decide)]; rw [e31, upV_ne (by decide)]; rw [e30, upV_ne (by decide)]; rw [e29, upV_ne (by decide)]; rw [e28, upV_ne (by decide)]; rw [e27, upV_ne (by decide)]; rw [e26, upV_ne (by decide)]; rw [e25, upV_ne (by decide)]; rw [e24, upV_ne (by decide)]; rw [e23, upV_ne (by decide)]; rw [e22, upV_ne (by decide)]; rw [e21, upV_ne (by decide)]; rw [e20, upV_s]; try rfl
      replace hj : j < 10 := hq
      rcases Nat.eq_or_lt_of_le (show j ≤ 9 by omega) with hq | hq
      · subst hq; rw [e49, upV_ne (by decide)]; rw [e48, upV_ne (by decide)]; rw [e47, upV_ne (by decide)]; rw [e46, upV_ne (by decide)]; rw [e45, upV_ne (by decide)]; rw [e44, upV_ne (by decide)]; rw [e43, upV_ne (by decide)]; rw [e42, upV_ne (by decide)]; rw [e41, upV_ne (by decide)]; rw [e40, upV_ne (by decide)]; rw [e39, upV_ne (by decide)]; rw [e38, upV_ne (by decide)]; rw [e37, upV_ne (by decide)]; rw [e36, upV_ne (by decide)]; rw [e35, upV_ne (by decide)]; rw [e34, upV_ne (by decide)]; rw [e33, upV_ne (by decide)]; rw [e32, upV_ne (by decide)]; rw [e31, upV_ne (by decide)]; rw [e30, upV_ne (by decide)]; rw [e29, upV_ne (by decide)]; rw [e28, upV_ne (by decide)]; rw [e27, upV_ne (by decide)]; rw [e26, upV_ne (by decide)]; rw [e25, upV_ne (by decide)]; rw [e24, upV_ne (by decide)]; rw [e23, upV_ne (by decide)]; rw [e22, upV_ne (by decide)]; rw [e21, upV_ne (by decide)]; rw [e20, upV_o (by decide)]; rw [e19, upW_ne (by decide)]; rw [e18, upV_s]; try rfl
      replace hj : j < 9 := hq
      rcases Nat.eq_or_lt_of_le (show j ≤ 8 by omega) with hq | hq
      · subst hq; rw [e49, upV_ne (by decide)]; rw [e48, upV_ne (by decide)]; rw [e47, upV_ne (by decide)]; rw [e46, upV_ne (by decide)]; rw [e45, upV_ne (by decide)]; rw [e44, upV_ne (by decide)]; rw [e43, upV_ne (by decide)]; rw [e42, upV_ne (by decide)]; rw [e41, upV_ne (by decide)]; rw [e40, upV_ne (by decide)]; rw [e39, upV_ne (by decide)]; rw [e38, upV_ne (by decide)]; rw [e37, upV_ne (by decide)]; rw [e36, upV_ne (by decide)]; rw [e35, upV_ne (by decide)]; rw [e34, upV_ne (by decide)]; rw [e33, upV_ne (by decide)]; rw [e32, upV_ne (by decide)]; rw [e31, upV_ne (by decide)]; rw [e30, upV_ne (by decide)]; rw [e29, upV_ne (by decide)]; rw [e28, upV_ne (by decide)]; rw [e27, upV_ne (by decide)]; rw [e26, upV_ne (by decide)]; rw [e25, upV_ne (by decide)]; rw [e24, upV_ne (by decide)]; rw [e23, upV_ne (by decide)]; rw [e22, upV_ne (by decide)]; rw [e21, upV_ne (by decide)]; rw [e20, upV_o (by decide)]; rw [e19, upW_ne (by decide)]; rw [e18, upV_o (by decide)]; rw [e17, upW_ne (by decide)]; rw [e16, upV_s]; try rfl
      replace hj : j < 8 := hq
      rcases Nat.eq_or_lt_of_le (show j ≤ 7 by omega) with hq | hq
      · subst hq; rw [e49, upV_ne (by decide)]; rw [e48, upV_ne (by decide)]; rw [e47, upV_ne (by decide)]; rw [e46, upV_ne (by decide)]; rw [e45, upV_ne (by decide)]; rw [e44, upV_ne (by decide)]; rw [e43, upV_ne (by decide)]; rw [e42, upV_ne (by decide)]; rw [e41, upV_ne (by decide)]; rw [e40, upV_ne (by decide)]; rw [e39, upV_ne (by decide)]; rw [e38, upV_ne (by decide)]; rw [e37, upV_ne (by decide)]; rw [e36, upV_ne (by decide)]; rw [e35, upV_ne (by decide)]; rw [e34, upV_ne (by decide)]; rw [e33, upV_ne (by decide)]; rw [e32, upV_ne (by decide)]; rw [e31, upV_ne (by decide)]; rw [e30, upV_ne (by decide)]; rw [e29, upV_ne (by decide)]; rw [e28, upV_ne (by decide)]; rw [e27, upV_ne (by decide)]; rw [e26, upV_ne (by decide)]; rw [e25, upV_ne (by decide)]; rw [e24, upV_ne (by decide)]; rw [e23, upV_ne (by decide)]; rw [e22, upV_ne (by decide)]; rw [e21, upV_ne (by decide)]; rw [e20, upV_o (by decide)]; rw [e19, upW_ne (by decide)]; rw [e18, upV_o (by decide)]; rw [e17, upW_ne (by decide)]; rw [e16, upV_o (by decide)]; rw [e15, upW_ne (by decide)]; rw [e14, upV_s]; try rfl
      replace hj : j < 7 := hq
      rcases Nat.eq_or_lt_of_le (show j ≤ 6 by omega) with hq | hq
      · subst hq; rw [e49, upV_ne (by decide)]; rw [e48, upV_ne (by decide)]; rw [e47, upV_ne (by decide)]; rw [e46, upV_ne (by decide)]; rw [e45, upV_ne (by decide)]; rw [e44, upV_ne (by decide)]; rw [e43, upV_ne (by decide)]; rw [e42, upV_ne (by decide)]; rw [e41, upV_ne (by decide)]; rw [e40, upV_ne (by decide)]; rw [e39, upV_ne (by decide)]; rw [e38, upV_ne (by decide)]; rw [e37, upV_ne (by decide)]; rw [e36, upV_ne (by decide)]; rw [e35, upV_ne (by decide)]; rw [e34, upV_ne (by decide)]; rw [e33, upV_ne (by decide)]; rw [e32, upV_ne (by decide)]; rw [e31, upV_ne (by decide)]; rw [e30, upV_ne (by decide)]; rw [e29, upV_ne (by decide)]; rw [e28, upV_ne (by decide)]; rw [e27, upV_ne (by decide)]; rw [e26, upV_ne (by decide)]; rw [e25, upV_ne (by decide)]; rw [e24, upV_ne (by decide)]; rw [e23, upV_ne (by decide)]; rw [e22, upV_ne (by decide)]; rw [e21, upV_ne (by decide)]; rw [e20, upV_o (by decide)]; rw [e19, upW_ne (by decide)]; rw [e18, upV_o (by decide)]; rw [e17, upW_ne (by decide)]; rw [e16, upV_o (by decide)]; rw [e15, upW_ne (by decide)]; rw [e14, upV_o (by decide)]; rw [e13, upW_ne (by decide)]; rw [e12, upV_s]; try rfl
      replace hj : j < 6 := hq
      rcases Nat.eq_or_lt_of_le (show j ≤ 5 by omega) with hq | hq
      · subst hq; rw [e49, upV_ne (by decide)]; rw [e48, upV_ne (by decide)]; rw [e47, upV_ne (by decide)]; rw [e46, upV_ne (by decide)]; rw [e45, upV_ne (by decide)]; rw [e44, upV_ne (by decide)]; rw [e43, upV_ne (by decide)]; rw [e42, upV_ne (by decide)]; rw [e41, upV_ne (by decide)]; rw [e40, upV_ne (by decide)]; rw [e39, upV_ne (by decide)]; rw [e38, upV_ne (by decide)]; rw [e37, upV_ne (by decide)]; rw [e36, upV_ne (by decide)]; rw [e35, upV_ne (by decide)]; rw [e34, upV_ne (by decide)]; rw [e33, upV_ne (by decide)]; rw [e32, upV_ne (by decide)]; rw [e31, upV_ne (by decide)]; rw [e30, upV_ne (by decide)]; rw [e29, upV_ne (by decide)]; rw [e28, upV_ne (by decide)]; rw [e27, upV_ne (by decide)]; rw [e26, upV_ne (by decide)]; rw [e25, upV_ne (by decide)]; rw [e24, upV_ne (by decide)]; rw [e23, upV_ne (by decide)]; rw [e22, upV_ne (by decide)]; rw [e21, upV_ne (by decide)]; rw [e20, upV_o (by decide)]; rw [e19, upW_ne (by decide)]; rw [e18, upV_o (by decide)]; rw [e17, upW_ne (by decide)]; rw [e16, upV_o (by decide)]; rw [e15, upW_ne (by decide)]; rw [e14, upV_o (by decide)]; rw [e13, upW_ne (by decide)]; rw [e12, upV_o (by decide)]; rw [e11, upW_ne (by decide)]; rw [e10, upV_s]; try rfl
      replace hj : j < 5 := hq
      rcases Nat.eq_or_lt_of_le (show j ≤ 4 by omega) with hq | hq
      · subst hq; rw [e49, upV_ne (by decide)]; rw [e48, upV_ne (by decide)]; rw [e47, upV_ne (by decide)]; rw [e46, upV_ne (by decide)]; rw [e45, upV_ne (by decide)]; rw [e44, upV_ne (by decide)]; rw [e43, upV_ne (by decide)]; rw [e42, upV_ne (by decide)]; rw [e41, upV_ne (by decide)]; rw [e40, upV_ne (by decide)]; rw [e39, upV_ne (by decide)]; rw [e38, upV_ne (by decide)]; rw [e37, upV_ne (by decide)]; rw [e36, upV_ne (by decide)]; rw [e35, upV_ne (by decide)]; rw [e34, upV_ne (by decide)]; rw [e33, upV_ne (by decide)]; rw [e32, upV_ne (by decide)]; rw [e31, upV_ne (by decide)]; rw [e30, upV_ne (by decide)]; rw [e29, upV_ne (by decide)]; rw [e28, upV_ne (by decide)]; rw [e27, upV_ne (by decide)]; rw [e26, upV_ne (by decide)]; rw [e25, upV_ne (by decide)]; rw [e24, upV_ne (by decide)]; rw [e23, upV_ne (by decide)]; rw [e22, upV_ne (by decide)]; rw [e21, upV_ne (by decide)]; rw [e20, upV_o (by decide)]; rw [e19, upW_ne (by decide)]; rw [e18, upV_o (by decide)]; rw [e17, upW_ne (by decide)]; rw [e16, upV_o (by decide)]; rw [e15, upW_ne (by decide)]; rw [e14, upV_o (by decide)]; rw [e13, upW_ne (by decide)]; rw [e12, upV_o (by decide)]; rw [e11, upW_ne (by decide)]; rw [e10, upV_o (by decide)]; rw [e9, upW_ne (by decide)]; rw [e8, upV_s]; try rfl
      replace hj : j < 4 := hq
      rcases Nat.eq_or_lt_of_le (show j ≤ 3 by omega) with hq | hq
      · subst hq; rw [e49, upV_ne (by decide)]; rw [e48, upV_ne (by decide)]; rw [e47, upV_ne (by decide)]; rw [e46, upV_ne (by decide)]; rw [e45, upV_ne (by decide)]; rw [e44, upV_ne (by decide)]; rw [e43, upV_ne (by decide)]; rw [e42, upV_ne (by decide)]; rw [e41, upV_ne (by decide)]; rw [e40, upV_ne (by decide)]; rw [e39, upV_ne (by decide)]; rw [e38, upV_ne (by decide)]; rw [e37, upV_ne (by decide)]; rw [e36, upV_ne (by decide)]; rw [e35, upV_ne (by decide)]; rw [e34, upV_ne (by decide)]; rw [e33, upV_ne (by decide)]; rw [e32, upV_ne (by decide)]; rw [e31, upV_ne (by decide)]; rw [e30, upV_ne (by decide)]; rw [e29, upV_ne (by decide)]; rw [e28, upV_ne (by decide)]; rw [e27, upV_ne (by decide)]; rw [e26, upV_ne (by decide)]; rw [e25, upV_ne (by decide)]; rw [e24, upV_ne (by decide)]; rw [e23, upV_ne (by decide)]; rw [e22, upV_ne (by decide)]; rw [e21, upV_ne (by decide)]; rw [e20, upV_o (by decide)]; rw [e19, upW_ne (by decide)]; rw [e18, upV_o (by decide)]; rw [e17, upW_ne (by decide)]; rw [e16, upV_o (by decide)]; rw [e15, upW_ne (by decide)]; rw [e14, upV_o (by decide)]; rw [e13, upW_ne (by decide)]; rw [e12, upV_o (by decide)]; rw [e11, upW_ne (by decide)]; rw [e10, upV_o (by decide)]; rw [e9, upW_ne (by decide)]; rw [e8, upV_o (by decide)]; rw [e7, upW_ne (by decide)]; rw [e6, upV_o (by decide)]; rw [e5, upW_ne (by decide)]; rw [e4, upV_o (by decide)]; rw [e3, upW_ne (by decide)]; rw [e2, upV_o (by decide)]; rw [e1, upW_ne (by decide)]; rw [h0]; try rfl
      replace hj : j < 3 := hq
      rcases Nat.eq_or_lt_of_le (show j ≤ 2 by omega) with hq | hq
      · subst hq; rw [e49, upV_ne (by decide)]; rw [e48, upV_ne (by decide)]; rw [e47, upV_ne (by decide)]; rw [e46, upV_ne (by decide)]; rw [e45, upV_ne (by decide)]; rw [e44, upV_ne (by decide)]; rw [e43, upV_ne (by decide)]; rw [e42, upV_ne (by decide)]; rw [e41, upV_ne (by decide)]; rw [e40, upV_ne (by decide)]; rw [e39, upV_ne (by decide)]; rw [e38, upV_ne (by decide)]; rw [e37, upV_ne (by decide)]; rw [e36, upV_ne (by decide)]; rw [e35, upV_ne (by decide)]; rw [e34, upV_ne (by decide)]; rw [e33, upV_ne (by decide)]; rw [e32, upV_ne (by decide)]; rw [e31, upV_ne (by decide)]; rw [e30, upV_ne (by decide)]; rw [e29, upV_ne (by decide)]; rw [e28, upV_ne (by decide)]; rw [e27, upV_ne (by decide)]; rw [e26, upV_ne (by decide)]; rw [e25, upV_ne (by decide)]; rw [e24, upV_ne (by decide)]; rw [e23, upV_ne (by decide)]; rw [e22, upV_ne (by decide)]; rw [e21, upV_ne (by decide)]; rw [e20, upV_o (by decide)]; rw [e19, upW_ne (by decide)]; rw [e18, upV_o (by decide)]; rw [e17, upW_ne (by decide)]; rw [e16, upV_o (by decide)]; rw [e15, upW_ne (by decide)]; rw [e14, upV_o (by decide)]; rw [e13, upW_ne (by decide)]; rw [e12, upV_o (by decide)]; rw [e11, upW_ne (by decide)]; rw [e10, upV_o (by decide)]; rw [e9, upW_ne (by decide)]; rw [e8, upV_o (by decide)]; rw [e7, upW_ne (by decide)]; rw [e6, upV_s]; try rfl
      replace hj : j < 2 := hq
      rcases Nat.eq_or_lt_of_le (show j ≤ 1 by omega) with hq | hq
      · subst hq; rw [e49, upV_ne (by decide)]; rw [e48, upV_ne (by decide)]; rw [e47, upV_ne (by decide)]; rw [e46, upV_ne (by decide)]; rw [e45, upV_ne (by decide)]; rw [e44, upV_ne (by decide)]; rw [e43, upV_ne (by decide)]; rw [e42, upV_ne (by decide)]; rw [e41, upV_ne (by decide)]; rw [e40, upV_ne (by decide)]; rw [e39, upV_ne (by decide)]; rw [e38, upV_ne (by decide)]; rw [e37, upV_ne (by decide)]; rw [e36, upV_ne (by decide)]; rw [e35, upV_ne (by decide)]; rw [e34, upV_ne (by decide)]; rw [e33, upV_ne (by decide)]; rw [e32, upV_ne (by decide)]; rw [e31, upV_ne (by decide)]; rw [e30, upV_ne (by decide)]; rw [e29, upV_ne (by decide)]; rw [e28, upV_ne (by decide)]; rw [e27, upV_ne (by decide)]; rw [e26, upV_ne (by decide)]; rw [e25, upV_ne (by decide)]; rw [e24, upV_ne (by decide)]; rw [e23, upV_ne (by decide)]; rw [e22, upV_ne (by decide)]; rw [e21, upV_ne (by decide)]; rw [e20, upV_o (by decide)]; rw [e19, upW_ne (by decide)]; rw [e18, upV_o (by decide)]; rw [e17, upW_ne (by decide)]; rw [e16, upV_o (by decide)]; rw [e15, upW_ne (by decide)]; rw [e14, upV_o (by decide)]; rw [e13, upW_ne (by decide)]; rw [e12, upV_o (by decide)]; rw [e11, upW_ne (by decide)]; rw [e10, upV_o (by decide)]; rw [e9, upW_ne (by decide)]; rw [e8, upV_o (by decide)]; rw [e7, upW_ne (by decide)]; rw [e6, upV_o (by decide)]; rw [e5, upW_ne (by decide)]; rw [e4, upV_s]; try rfl
      replace hj : j < 1 := hq
      obtain rfl : j = 0 := by omega
      rw [e49, upV_ne (by decide)]
      rw [e48, upV_ne (by decide)]
      rw [e47, upV_ne (by decide)]
      rw [e46, upV_ne (by decide)]
      rw [e45, upV_ne (by decide)]
      rw [e44, upV_ne (by decide)]
      rw [e43, upV_ne (by decide)]
      rw [e42, upV_ne (by decide)]
      rw [e41, upV_ne (by decide)]
      rw [e40, upV_ne (by decide)]
      rw [e39, upV_ne (by decide)]
      rw [e38, upV_ne (by decide)]
      rw [e37, upV_ne (by decide)]
      rw [e36, upV_ne (by decide)]
      rw [e35, upV_ne (by decide)]
      rw [e34, upV_ne (by decide)]
      rw [e33, upV_ne (by decide)]
      rw [e32, upV_ne (by decide)]
      rw [e31, upV_ne (by decide)]
      rw [e30, upV_ne (by decide)]
      rw [e29, upV_ne (by decide)]
      rw [e28, upV_ne (by decide)]
      rw [e27, upV_ne (by decide)]
      rw [e26, upV_ne (by decide)]
      rw [e25, upV_ne (by decide)]
      rw [e24, upV_ne (by decide)]
      rw [e23, upV_ne (by decide)]
      rw [e22, upV_ne (by decide)]
      rw [e21, upV_ne (by decide)]
      rw [e20, upV_o (by decide)]
      rw [e19, upW_ne (by decide)]
      rw [e18, upV_o (by decide)]
      rw [e17, upW_ne (by decide)]
      rw [e16, upV_o (by decide)]
      rw [e15, upW_ne (by decide)]
      rw [e14, upV_o (by decide)]
      rw [e13, upW_ne (by decide)]
      rw [e12, upV_o (by decide)]
      rw [e11, upW_ne (by decide)]
      rw [e10, upV_o (by decide)]
      rw [e9, upW_ne (by decide)]
      rw [e8, upV_o (by decide)]
      rw [e7, upW_ne (by decide)]
      rw [e6, upV_o (by decide)]
      rw [e5, upW_ne (by decide)]
      rw [e4, upV_o (by decide)]
      rw [e3, upW_ne (by decide)]
      rw [e2, upV_s]
      try rfl
    · intro j hj
      have hj : j < 58 := hj
      rcases Nat.eq_or_lt_of_le (show j ≤ 57 by omega) with hq | hq
      · subst hq; rw [e49, upV_s]; try rfl
      replace hj : j < 57 := hq
      rcases Nat.eq_or_lt_of_le (show j ≤ 56 by omega) with hq | hq
      · subst hq; rw [e49, upV_o (by decide)]; rw [e48, upV_s]; try rfl
      replace hj : j < 56 := hq
      rcases Nat.eq_or_lt_of_le (show j ≤ 55 by omega) with hq | hq
      · subst hq; rw [e49, upV_o (by decide)]; rw [e48, upV_o (by decide)]; rw [e47, upV_s]; try rfl
      replace hj : j < 55 := hq
      rcases Nat.eq_or_lt_of_le (show j ≤ 54 by omega) with hq | hq
      · subst hq; rw [e49, upV_o (by decide)]; rw [e48, upV_o (by decide)]; rw [e47, upV_o (by decide)]; rw [e46, upV_s]; try rfl
      replace hj : j < 54 := hq
      rcases Nat.eq_or_lt_of_le (show j ≤ 53 by omega) with hq | hq
      · subst hq; rw [e49, upV_o (by decide)]; rw [e48, upV_o (by decide)]; rw [e47, upV_o (by decide)]; rw [e46, upV_o (by decide)]; rw [e45, upV_s]; try rfl
      replace hj : j < 53 := hq
      rcases Nat.eq_or_lt_of_le (show j ≤ 52 by omega) with hq | hq
      · subst hq; rw [e49, upV_o (by decide)]; rw [e48, upV_o (by decide)]; rw [e47, upV_o (by decide)]; rw [e46, upV_o (by decide)]; rw [e45, upV_o (by decide)]; rw [e44, upV_s]; try rfl
      replace hj : j < 52 := hq
      rcases Nat.eq_or_lt_of_le (show j ≤ 51 by omega) with hq | hq
      · subst hq; rw [e49, upV_o (by decide)]; rw [e48, upV_o (by decide)]; rw [e47, upV_o (by decide)]; rw [e46, upV_o (by decide)]; rw [e45, upV_o (by decide)]; rw [e44, upV_o (by decide)]; rw [e43, upV_s]; try rfl
      replace hj : j < 51 := hq
      rcases Nat.eq_or_lt_of_le (show j ≤ 50 by omega) with hq | hq
      · subst hq; rw [e49, upV_o (by decide)]; rw [e48, upV_o (by decide)]; rw [e47, upV_o (by decide)]; rw [e46, upV_o (by decide)]; rw [e45, upV_o (by decide)]; rw [e44, upV_o (by decide)]; rw [e43, upV_o (by decide)]; rw [e42, upV_s]; try rfl
      replace hj : j < 50 := hq
      rcases Nat.eq_or_lt_of_le (show j ≤ 49 by omega) with hq | hq
      · subst hq; rw [e49, upV_o (by decide)]; rw [e48, upV_o (by decide)]; rw [e47, upV_o (by decide)]; rw [e46, upV_o (by decide)]; rw [e45, upV_o (by decide)]; rw [e44, upV_o (by decide)]; rw [e43, upV_o (by decide)]; rw [e42, upV_o (by decide)]; rw [e41, upV_s]; try rfl
      replace hj : j < 49 := hq
      rcases Nat.eq_or_lt_of_le (show j ≤ 48 by omega) with hq | hq
      · subst hq; rw [e49, upV_o (by decide)]; rw [e48, upV_o (by decide)]; rw [e47, upV_o (by decide)]; rw [e46, upV_o (by decide)]; rw [e45, upV_o (by decide)]; rw [e44, upV_o (by decide)]; rw [e43, upV_o (by decide)]; rw [e42, upV_o (by decide)]; rw [e41, upV_o (by decide)]; rw [e40, upV_s]; try rfl
      replace hj : j < 48 := hq
      rcases Nat.eq_or_lt_of_le (show j ≤ 47 by omega) with hq | hq
      · subst hq; rw [e49, upV_o (by decide)]; rw [e48, upV_o (by decide)]; rw [e47, upV_o (by decide)]; rw [e46, upV_o (by decide)]; rw [e45, upV_o (by decide)]; rw [e44, upV_o (by decide)]; rw [e43, upV_o (by decide)]; rw [e42, upV_o (by decide)]; rw [e41, upV_o (by decide)]; rw [e40, upV_o (by decide)]; rw [e39, upV_o (by decide)]; rw [e38, upV_o (by decide)]; rw [e37, upV_o (by decide)]; rw [e36, upV_o (by decide)]; rw [e35, upV_o (by decide)]; rw [e34, upV_o (by decide)]; rw [e33, upV_o (by decide)]; rw [e32, upV_o (by decide)]; rw [e31, upV_o (by decide)]; rw [e30, upV_o (by decide)]; rw [e29, upV_o (by decide)]; rw [e28, upV_o (by decide)]; rw [e27, upV_o (by decide)]; rw [e26, upV_o (by decide)]; rw [e25, upV_o (by decide)]; rw [e24, upV_o (by decide)]; rw [e23, upV_o (by decide)]; rw [e22, upV_o (by decide)]; rw [e21, upV_o (by decide)]; rw [e20, upV_ne (by decide)]; rw [e19, upW_ne (by decide)]; rw [e18, upV_ne (by decide)]; rw [e17, upW_ne (by decide)]; rw [e16, upV_ne (by decide)]; rw [e15, upW_ne (by decide)]; rw [e14, upV_ne (by decide)]; rw [e13, upW_ne (by decide)]; rw [e12, upV_ne (by decide)]; rw [e11, upW_ne (by decide)]; rw [e10, upV_ne (by decide)]; rw [e9, upW_ne (by decide)]; rw [e8, upV_ne (by decide)]; rw [e7, upW_ne (by decide)]; rw [e6, upV_ne (by decide)]; rw [e5, upW_ne (by decide)]; rw [e4, upV_ne (by decide)]; rw [e3, upW_ne (by decide)]; rw [e2, upV_ne (by decide)]; rw [e1, upW_s]; try rfl
      replace hj : j < 47 := hq
      rcases Nat.eq_or_lt_of_le (show j ≤ 46 by omega) with hq | hq
      · subst hq; rw [e49, upV_o (by decide)]; rw [e48, upV_o (by decide)]; rw [e47, upV_o (by decide)]; rw [e46, upV_o (by decide)]; rw [e45, upV_o (by decide)]; rw [e44, upV_o (by decide)]; rw [e43, upV_o (by decide)]; rw [e42, upV_o (by decide)]; rw [e41, upV_o (by decide)]; rw [e40, upV_o (by decide)]; rw [e39, upV_o (by decide)]; rw [e38, upV_o (by decide)]; rw [e37, upV_o (by decide)]; rw [e36, upV_o (by decide)]; rw [e35, upV_o (by decide)]; rw [e34, upV_o (by decide)]; rw [e33, upV_o (by decide)]; rw [e32, upV_o (by decide)]; rw [e31, upV_o (by decide)]; rw [e30, upV_o (by decide)]; rw [e29, upV_o (by decide)]; rw [e28, upV_o (by decide)]; rw [e27, upV_o (by decide)]; rw [e26, upV_o (by decide)]; rw [e25, upV_o (by decide)]; rw [e24, upV_o (by decide)]; rw [e23, upV_o (by decide)]; rw [e22, upV_o (by decide)]; rw [e21, upV_o (by decide)]; rw [e20, upV_ne (by decide)]; rw [e19, upW_ne (by decide)]; rw [e18, upV_ne (by decide)]; rw [e17, upW_ne (by decide)]; rw [e16, upV_ne (by decide)]; rw [e15, upW_ne (by decide)]; rw [e14, upV_ne (by decide)]; rw [e13, upW_ne (by decide)]; rw [e12, upV_ne (by decide)]; rw [e11, upW_ne (by decide)]; rw [e10, upV_ne (by decide)]; rw [e9, upW_ne (by decide)]; rw [e8, upV_ne (by decide)]; rw [e7, upW_ne (by decide)]; rw [e6, upV_ne (by decide)]; rw [e5, upW_ne (by decide)]; rw [e4, upV_ne (by decide)]; rw [e3, upW_ne (by decide)]; rw [e2, upV_ne (by decide)]; rw [e1, upW_s]; try rfl
      replace hj : j < 46 := hq
      rcases Nat.eq_or_lt_of_le (show j ≤ 45 by omega) with hq | hq
      · subst hq; rw [e49, upV_o (by decide)]; rw [e48, upV_o (by decide)]; rw [e47, upV_o (by decide)]; rw [e46, upV_o (by decide)]; rw [e45, upV_o (by decide)]; rw [e44, upV_o (by decide)]; rw [e43, upV_o (by decide)]; rw [e42, upV_o (by decide)]; rw [e41, upV_o (by decide)]; rw [e40, upV_o (by decide)]; rw [e39, upV_o (by decide)]; rw [e38, upV_o (by decide)]; rw [e37, upV_o (by decide)]; rw [e36, upV_o (by decide)]; rw [e35, upV_o (by decide)]; rw [e34, upV_o (by decide)]; rw [e33, upV_o (by decide)]; rw [e32, upV_o (by decide)]; rw [e31, upV_o (by decide)]; rw [e30, upV_o (by decide)]; rw [e29, upV_o (by decide)]; rw [e28, upV_o (by decide)]; rw [e27, upV_o (by decide)]; rw [e26, upV_o (by decide)]; rw [e25, upV_o (by decide)]; rw [e24, upV_o (by decide)]; rw [e23, upV_o (by decide)]; rw [e22, upV_o (by decide)]; rw [e21, upV_o (by decide)]; rw [e20, upV_ne (by decide)]; rw [e19, upW_ne (by decide)]; rw [e18, upV_ne (by decide)]; rw [e17, upW_ne (by decide)]; rw [e16, upV_ne (by decide)]; rw [e15, upW_ne (by decide)]; rw [e14, upV_ne (by decide)]; rw [e13, upW_ne (by decide)]; rw [e12, upV_ne (by decide)]; rw [e11, upW_ne (by decide)]; rw [e10, upV_ne (by decide)]; rw [e9, upW_ne (by decide)]; rw [e8, upV_ne (by decide)]; rw [e7, upW_ne (by decide)]; rw [e6, upV_ne (by decide)]; rw [e5, upW_ne (by decide)]; rw [e4, upV_ne (by decide)]; rw [e3, upW_ne (by decide)]; rw [e2, upV_ne (by decide)]; rw [e1, upW_s]; try rfl
      replace hj : j < 45 := hq
      rcases Nat.eq_or_lt_of_le (show j ≤ 44 by omega) with hq | hq
      · subst hq; rw [e49, upV_o (by decide)]; rw [e48, upV_o (by decide)]; rw [e47, upV_o (by decide)]; rw [e46, upV_o (by decide)]; rw [e45, upV_o (by decide)]; rw [e44, upV_o (by decide)]; rw [e43, upV_o (by decide)]; rw [e42, upV_o (by decide)]; rw [e41, upV_o (by decide)]; rw [e40, upV_o (by decide)]; rw [e39, upV_o (by decide)]; rw [e38, upV_o (by decide)]; rw [e37, upV_o (by decide)]; rw [e36, upV_o (by decide)]; rw [e35, upV_o (by decide)]; rw [e34, upV_o (by decide)]; rw [e33, upV_o (by decide)]; rw [e32, upV_o (by decide)]; rw [e31, upV_o (by decide)]; rw [e30, upV_o (by decide)]; rw [e29, upV_o (by decide)]; rw [e28, upV_o (by decide)]; rw [e27, upV_o (by decide)]; rw [e26, upV_o (by decide)]; rw [e25, upV_o (by decide)]; rw [e24, upV_o (by decide)]; rw [e23, upV_o (by decide)]; rw [e22, upV_o (by decide)]; rw [e21, upV_o (by decide)]; rw [e20, upV_ne (by decide)]; rw [e19, upW_ne (by decide)]; rw [e18, upV_ne (by decide)]; rw [e17, upW_ne (by decide)]; rw [e16, upV_ne (by decide)]; rw [e15, upW_ne (by decide)]; rw [e14, upV_ne (by decide)]; rw [e13, upW_ne (by decide)]; rw [e12, upV_ne (by decide)]; rw [e11, upW_ne (by decide)]; rw [e10, upV_ne (by decide)]; rw [e9, upW_ne (by decide)]; rw [e8, upV_ne (by decide)]; rw [e7, upW_ne (by decide)]; rw [e6, upV_ne (by decide)]; rw [e5, upW_ne (by decide)]; rw [e4, upV_ne (by decide)]; rw [e3, upW_ne (by decide)]; rw [e2, upV_ne (by decide)]; rw [e1, upW_s]; try rfl
      replace hj : j < 44 := hq
      rcases Nat.eq_or_lt_of_le (show j ≤ 43 by omega) with hq | hq
      · subst hq; rw [e49, upV_o (by decide)]; rw [e48, upV_o (by decide)]; rw [e47, upV_o (by decide)]; rw [e46, upV_o (by decide)]; rw [e45, upV_o (by decide)]; rw [e44, upV_o (by decide)]; rw [e43, upV_o (by decide)]; rw [e42, upV_o (by decide)]; rw [e41, upV_o (by decide)]; rw [e40, upV_o (by decide)]; rw [e39, upV_o (by decide)]; rw [e38, upV_o (by decide)]; rw [e37, upV_o (by decide)]; rw [e36, upV_o (by decide)]; rw [e35, upV_o (by decide)]; rw [e34, upV_o (by decide)]; rw [e33, upV_o (by decide)]; rw [e32, upV_o (by decide)]; rw [e31, upV_o (by decide)]; rw [e30, upV_o (by decide)]; rw [e29, upV_o (by decide)]; rw [e28, upV_o (by decide)]; rw [e27, upV_o (by decide)]; rw [e26, upV_o (by decide)]; rw [e25, upV_o (by decide)]; rw [e24, upV_o (by decide)]; rw [e23, upV_o (by decide)]; rw [e22, upV_o (by decide)]; rw [e21, upV_o (by decide)]; rw [e20, upV_ne (by decide)]; rw [e19, upW_ne (by decide)]; rw [e18, upV_ne (by decide)]; rw [e17, upW_ne (by decide)]; rw [e16, upV_ne (by decide)]; rw [e15, upW_ne (by decide)]; rw [e14, upV_ne (by decide)]; rw [e13, upW_ne (by decide)]; rw [e12, upV_ne (by decide)]; rw [e11, upW_ne (by decide)]; rw [e10, upV_ne (by decide)]; rw [e9, upW_ne (by decide)]; rw [e8, upV_ne (by decide)]; rw [e7, upW_ne (by decide)]; rw [e6, upV_ne (by decide)]; rw [e5, upW_ne (by decide)]; rw [e4, upV_ne (by decide)]; rw [e3, upW_ne (by decide)]; rw [e2, upV_ne (by decide)]; rw [e1, upW_s]; try rfl
      replace hj : j < 43 := hq
      rcases Nat.eq_or_lt_of_le (show j ≤ 42 by omega) with hq | hq
      · subst hq; rw [e49, upV_o (by decide)]; rw [e48, upV_o (by decide)]; rw [e47, upV_o (by decide)]; rw [e46, upV_o (by decide)]; rw [e45, upV_o (by decide)]; rw [e44, upV_o (by decide)]; rw [e43, upV_o (by decide)]; rw [e42, upV_o (by decide)]; rw [e41, upV_o (by decide)]; rw [e40, upV_o (by decide)]; rw [e39, upV_o (by decide)]; rw [e38, upV_o (by decide)]; rw [e37, upV_o (by decide)]; rw [e36, upV_o (by decide)]; rw [e35, upV_o (by decide)]; rw [e34, upV_o (by decide)]; rw [e33, upV_o (by decide)]; rw [e32, upV_o (by decide)]; rw [e31, upV_o (by decide)]; rw [e30, upV_o (by decide)]; rw [e29, upV_o (by decide)]; rw [e28, upV_o (by decide)]; rw [e27, upV_o (by decide)]; rw [e26, upV_o (by decide)]; rw [e25, upV_o (by decide)]; rw [e24, upV_o (by decide)]; rw [e23, upV_o (by decide)]; rw [e22, upV_o (by decide)]; rw [e21, upV_o (by decide)]; rw [e20, upV_ne (by decide)]; rw [e19, upW_ne (by decide)]; rw [e18, upV_ne (by decide)]; rw [e17, upW_ne (by decide)]; rw [e16, upV_ne (by decide)]; rw [e15, upW_ne (by decide)]; rw [e14, upV_ne (by decide)]; rw [e13, upW_ne (by decide)]; rw [e12, upV_ne (by decide)]; rw [e11, upW_ne (by decide)]; rw [e10, upV_ne (by decide)]; rw [e9, upW_ne (by decide)]; rw [e8, upV_ne (by decide)]; rw [e7, upW_ne (by decide)]; rw [e6, upV_ne (by decide)]; rw [e5, upW_ne (by decide)]; rw [e4, upV_ne (by decide)]; rw [e3, upW_ne (by decide)]; rw [e2, upV_ne (by decide)]; rw [e1, upW_s]; try rfl
      replace hj : j < 42 := hq
      rcases Nat.eq_or_lt_of_le (show j ≤ 41 by omega) with hq | hq
      · subst hq; rw [e49, upV_o (by decide)]; rw [e48, upV_o (by decide)]; rw [e47, upV_o (by decide)]; rw [e46, upV_o (by decide)]; rw [e45, upV_o (by decide)]; rw [e44, upV_o (by decide)]; rw [e43, upV_o (by decide)]; rw [e42, upV_o (by decide)]; rw [e41, upV_o (by decide)]; rw [e40, upV_o (by decide)]; rw [e39, upV_o (by decide)]; rw [e38, upV_o (by decide)]; rw [e37, upV_o (by decide)]; rw [e36, upV_o (by decide)]; rw [e35, upV_o (by decide)]; rw [e34, upV_o (by decide)]; rw [e33, upV_o (by decide)]; rw [e32, upV_o (by decide)]; rw [e31, upV_o (by decide)]; rw [e30, upV_o (by decide)]; rw [e29, upV_o (by decide)]; rw [e28, upV_o (by decide)]; rw [e27, upV_o (by decide)]; rw [e26, upV_o (by decide)]; rw [e25, upV_o (by decide)]; rw [e24, upV_o (by decide)]; rw [e23, upV_o (by decide)]; rw [e22, upV_o (by decide)]; rw [e21, upV_o (by decide)]; rw [e20, upV_ne (by decide)]; rw [e19, upW_ne (by decide)]; rw [e18, upV_ne (by decide)]; rw [e17, upW_ne (by decide)]; rw [e16, upV_ne (by decide)]; rw [e15, upW_ne (by decide)]; rw [e14, upV_ne (by decide)]; rw [e13, upW_ne (by decide)]; rw [e12, upV_ne (by decide)]; rw [e11, upW_ne (by decide)]; rw [e10, upV_ne (by decide)]; rw [e9, upW_ne (by decide)]; rw [e8, upV_ne (by decide)]; rw [e7, upW_ne (by decide)]; rw [e6, upV_ne (by decide)]; rw [e5, upW_ne (by decide)]; rw [e4, upV_ne (by decide)]; rw [e3, upW_ne (by decide)]; rw [e2, upV_ne (by decide)]; rw [e1, upW_s]; try rfl
      replace hj : j < 41 := hq
      rcases Nat.eq_or_lt_of_le (show j ≤ 40 by omega) with hq | hq
      · subst hq; rw [e49, upV_o (by decide)]; rw [e48, upV_o (by decide)]; rw [e47, upV_o (by decide)]; rw [e46, upV_o (by decide)]; rw [e45, upV_o (by decide)]; rw [e44, upV_o (by decide)]; rw [e43, upV_o (by decide)]; rw [e42, upV_o (by decide)]; rw [e41, upV_o (by decide)]; rw [e40, upV_o (by decide)]; rw [e39, upV_o (by decide)]; rw [e38, upV_o (by decide)]; rw [e37, upV_o (by decide)]; rw [e36, upV_o (by decide)]; rw [e35, upV_o (by decide)]; rw [e34, upV_o (by decide)]; rw [e33, upV_o (by decide)]; rw [e32, upV_o (by decide)]; rw [e31, upV_o (by decide)]; rw [e30, upV_o (by decide)]; rw [e29, upV_o (by decide)]; rw [e28, upV_o (by decide)]; rw [e27, upV_o (by decide)]; rw [e26, upV_o (by decide)]; rw [e25, upV_o (by decide)]; rw [e24, upV_o (by decide)]; rw [e23, upV_o (by decide)]; rw [e22, upV_o (by decide)]; rw [e21, upV_o (by decide)]; rw [e20, upV_ne (by decide)]; rw [e19, upW_ne (by decide)]; rw [e18, upV_ne (by decide)]; rw [e17, upW_ne (by decide)]; rw [e16, upV_ne (by decide)]; rw [e15, upW_ne (by decide)]; rw [e14, upV_ne (by decide)]; rw [e13, upW_ne (by decide)]; rw [e12, upV_ne (by decide)]; rw [e11, upW_ne (by decide)]; rw [e10, upV_ne (by decide)]; rw [e9, upW_ne (by decide)]; rw [e8, upV_ne (by decide)]; rw [e7, upW_ne (by decide)]; rw [e6, upV_ne (by decide)]; rw [e5, upW_ne (by decide)]; rw [e4, upV_ne (by decide)]; rw [e3, upW_ne (by decide)]; rw [e2, upV_ne (by decide)]; rw [e1, upW_s]; try rfl
      replace hj : j < 40 := hq
      rcases Nat.eq_or_lt_of_le (show j ≤ 39 by omega) with hq | hq
      · subst hq; rw [e49, upV_o (by decide)]; rw [e48, upV_o (by decide)]; rw [e47, upV_o (by decide)]; rw [e46, upV_o (by decide)]; rw [e45, upV_o (by decide)]; rw [e44, upV_o (by decide)]; rw [e43, upV_o (by decide)]; rw [e42, upV_o (by decide)]; rw [e41, upV_o (by decide)]; rw [e40, upV_o (by decide)]; rw [e39, upV_o (by decide)]; rw [e38, upV_o (by decide)]; rw [e37, upV_o (by decide)]; rw [e36, upV_o (by decide)]; rw [e35, upV_o (by decide)]; rw [e34, upV_o (by decide)]; rw [e33, upV_o (by decide)]; rw [e32, upV_o (by decide)]; rw [e31, upV_o (by decide)]; rw [e30, upV_o (by decide)]; rw [e29, upV_o (by decide)]; rw [e28, upV_o (by decide)]; rw [e27, upV_o (by decide)]; rw [e26, upV_o (by decide)]; rw [e25, upV_o (by decide)]; rw [e24, upV_o (by decide)]; rw [e23, upV_o (by decide)]; rw [e22, upV_o (by decide)]; rw [e21, upV_o (by decide)]; rw [e20, upV_ne (by decide)]; rw [e19, upW_ne (by decide)]; rw [e18, upV_ne (by decide)]; rw [e17, upW_ne (by decide)]; rw [e16, upV_ne (by decide)]; rw [e15, upW_ne (by decide)]; rw [e14, upV_ne (by decide)]; rw [e13, upW_ne (by decide)]; rw [e12, upV_ne (by decide)]; rw [e11, upW_ne (by decide)]; rw [e10, upV_ne (by decide)]; rw [e9, upW_ne (by decide)]; rw [e8, upV_ne (by decide)]; rw [e7, upW_ne (by decide)]; rw [e6, upV_ne (by decide)]; rw [e5, upW_ne (by decide)]; rw [e4, upV_ne (by decide)]; rw [e3, upW_ne (by decide)]; rw [e2, upV_ne (by decide)]; rw [e1, upW_s]; try rfl
      replace hj : j < 39 := hq
      rcases Nat.eq_or_lt_of_le (show j ≤ 38 by omega) with hq | hq
      · subst hq; rw [e49, upV_o (by decide)]; rw [e48, upV_o (by decide)]; rw [e47, upV_o (by decide)]; rw [e46, upV_o (by decide)]; rw [e45, upV_o (by decide)]; rw [e44, upV_o (by decide)]; rw [e43, upV_o (by decide)]; rw [e42, upV_o (by decide)]; rw [e41, upV_o (by decide)]; rw [e40, upV_o (by decide)]; rw [e39, upV_o (by decide)]; rw [e38, upV_o (by decide)]; rw [e37, upV_o (by decide)]; rw [e36, upV_o (by decide)]; rw [e35, upV_o (by decide)]; rw [e34, upV_o (by decide)]; rw [e33, upV_o (by decide)]; rw [e32, upV_o (by decide)]; rw [e31, upV_o (by decide)]; rw [e30, upV_o (by decide)]; rw [e29, upV_o (by decide)]; rw [e28, upV_o (by decide)]; rw [e27, upV_o (by decide)]; rw [e26, upV_o (by decide)]; rw [e25, upV_o (by decide)]; rw [e24, upV_o (by decide)]; rw [e23, upV_o (by decide)]; rw [e22, upV_o (by decide)]; rw [e21, upV_o (by decide)]; rw [e20, upV_ne (by decide)]; rw [e19, upW_ne (by decide)]; rw [e18, upV_ne (by decide)]; rw [e17, upW_ne (by decide)]; rw [e16, upV_ne (by decide)]; rw [e15, upW_ne (by decide)]; rw [e14, upV_ne (by decide)]; rw [e13, upW_ne (by decide)]; rw [e12, upV_ne (by decide)]; rw [e11, upW_ne (by decide)]; rw [e10, upV_ne (by decide)]; rw [e9, upW_ne (by decide)]; rw [e8, upV_ne (by decide)]; rw [e7, upW_ne (by decide)]; rw [e6, upV_ne (by decide)]; rw [e5, upW_ne (by decide)]; rw [e4, upV_ne (by decide)]; rw [e3, upW_ne (by decide)]; rw [e2, upV_ne (by decide)]; rw [e1, upW_s]; try rfl
      replace hj : j < 38 := hq
      rcases Nat.eq_or_lt_of_le (show j ≤ 37 by omega) with hq | hq
      · subst hq; rw [e49, upV_o (by decide)]; rw [e48, upV_o (by decide)]; rw [e47, upV_o (by decide)]; rw [e46, upV_o (by decide)]; rw [e45, upV_o (by decide)]; rw [e44, upV_o (by decide)]; rw [e43, upV_o (by decide)]; rw [e42, upV_o (by decide)]; rw [e41, upV_o (by decide)]; rw [e40, upV_o (by decide)]; rw [e39, upV_o (by decide)]; rw [e38, upV_o (by decide)]; rw [e37, upV_o (by decide)]; rw [e36, upV_o (by decide)]; rw [e35, upV_o (by decide)]; rw [e34, upV_o (by decide)]; rw [e33, upV_o (by decide)]; rw [e32, upV_o (by decide)]; rw [e31, upV_o (by decide)]; rw [e30, upV_o (by decide)]; rw [e29, upV_o (by decide)]; rw [e28, upV_o (by decide)]; rw [e27, upV_o (by decide)]; rw [e26, upV_o (by decide)]; rw [e25, upV_o (by decide)]; rw [e24, upV_o (by decide)]; rw [e23, upV_o (by decide)]; rw [e22, upV_o (by decide)]; rw [e21, upV_o (by decide)]; rw [e20, upV_ne (by decide)]; rw [e19, upW_ne (by decide)]; rw [e18, upV_ne (by decide)]; rw [e17, upW_ne (by decide)]; rw [e16, upV_ne (by decide)]; rw [e15, upW_ne (by decide)]; rw [e14, upV_ne (by decide)]; rw [e13, upW_ne (by decide)]; rw [e12, upV_ne (by decide)]; rw [e11, upW_ne (by decide)]; rw [e10, upV_ne (by decide)]; rw [e9, upW_ne (by decide)]; rw [e8, upV_ne (by decide)]; rw [e7, upW_ne (by decide)]; rw [e6, upV_ne (by decide)]; rw [e5, upW_ne (by decide)]; rw [e4, upV_ne (by decide)]; rw [e3, upW_ne (by decide)]; rw [e2, upV_ne (by decide)]; rw [e1, upW_s]; try rfl
      replace hj : j < 37 := hq
      rcases Nat.eq_or_lt_of_le (show j ≤ 36 by omega) with hq | hq
      · subst hq; rw [e49, upV_o (by decide)]; rw [e48, upV_o (by decide)]; rw [e47, upV_o (by decide)]; rw [e46, upV_o (by decide)]; rw [e45, upV_o (by decide)]; rw [e44, upV_o (by decide)]; rw [e43, upV_o (by decide)]; rw [e42, upV_o (by decide)]; rw [e41, upV_o (by decide)]; rw [e40, upV_o (by decide)]; rw [e39, upV_o (by decide)]; rw [e38, upV_o (by decide)]; rw [e37, upV_o (by decide)]; rw [e36, upV_o (by decide)]; rw [e35, upV_o (by decide)]; rw [e34, upV_o (by decide)]; rw [e33, upV_o (by decide)]; rw [e32, upV_o (by decide)]; rw [e31, upV_o (by decide)]; rw [e30, upV_o (by decide)]; rw [e29, upV_o (by decide)]; rw [e28, upV_o (by decide)]; rw [e27, upV_o (by decide)]; rw [e26, upV_o (by decide)]; rw [e25, upV_o (by decide)]; rw [e24, upV_o (by decide)]; rw [e23, upV_o (by decide)]; rw [e22, upV_o (by decide)]; rw [e21, upV_o (by decide)]; rw [e20, upV_ne (by decide)]; rw [e19, upW_ne (by decide)]; rw [e18, upV_ne (by decide)]; rw [e17, upW_ne (by decide)]; rw [e16, upV_ne (by decide)]; rw [e15, upW_ne (by decide)]; rw [e14, upV_ne (by decide)]; rw [e13, upW_ne (by decide)]; rw [e12, upV_ne (by decide)]; rw [e11, upW_ne (by decide)]; rw [e10, upV_ne (by decide)]; rw [e9, upW_ne (by decide)]; rw [e8, upV_ne (by decide)]; rw [e7, upW_ne (by decide)]; rw [e6, upV_ne (by decide)]; rw [e5, upW_ne (by decide)]; rw [e4, upV_ne (by decide)]; rw [e3, upW_ne (by decide)]; rw [e2, upV_ne (by decide)]; rw [e1, upW_s]; try rfl
      replace hj : j < 36 := hq
      rcases Nat.eq_or_lt_of_le (show j ≤ 35 by omega) with hq | hq
      · subst hq; rw [e49, upV_o (by decide)]; rw [e48, upV_o (by decide)]; rw [e47, upV_o (by decide)]; rw [e46, upV_o (by decide)]; rw [e45, upV_o (by decide)]; rw [e44, upV_o (by decide)]; rw [e43, upV_o (by decide)]; rw [e42, upV_o (by decide)]; rw [e41, upV_o (by decide)]; rw [e40, upV_o (by decide)]; rw [e39, upV_o (by decide)]; rw [e38, upV_o (by decide)]; rw [e37, upV_o (by decide)]; rw [e36, upV_o (by decide)]; rw [e35, upV_o (by decide)]; rw [e34, upV_o (by decide)]; rw [e33, upV_o (by decide)]; rw [e32, upV_o (by decide)]; rw [e31, upV_o (by decide)]; rw [e30, upV_o (by decide)]; rw [e29, upV_o (by decide)]; rw [e28, upV_o (by decide)]; rw [e27, upV_o (by decide)]; rw [e26, upV_o (by decide)]; rw [e25, upV_o (by decide)]; rw [e24, upV_o (by decide)]; rw [e23, upV_o (by decide)]; rw [e22, upV_o (by decide)]; rw [e21, upV_o (by decide)]; rw [e20, upV_ne (by decide)]; rw [e19, upW_ne (by decide)]; rw [e18, upV_ne (by decide)]; rw [e17, upW_ne (by decide)]; rw [e16, upV_ne (by decide)]; rw [e15, upW_ne (by decide)]; rw [e14, upV_ne (by decide)]; rw [e13, upW_ne (by decide)]; rw [e12, upV_ne (by decide)]; rw [e11, upW_ne (by decide)]; rw [e10, upV_ne (by decide)]; rw [e9, upW_ne (by decide)]; rw [e8, upV_ne (by decide)]; rw [e7, upW_ne (by decide)]; rw [e6, upV_ne (by decide)]; rw [e5, upW_ne (by decide)]; rw [e4, upV_ne (by decide)]; rw [e3, upW_ne (by decide)]; rw [e2, upV_ne (by decide)]; rw [e1, upW_s]; try rfl
      replace hj : j < 35 := hq
      rcases Nat.eq_or_lt_of_le (show j ≤ 34 by omega) with hq | hq
      · subst hq; rw [e49, upV_o (by decide)]; rw [e48, upV_o (by decide)]; rw [e47, upV_o (by decide)]; rw [e46, upV_o (by decide)]; rw [e45, upV_o (by decide)]; rw [e44, upV_o (by decide)]; rw [e43, upV_o (by decide)]; rw [e42, upV_o (by decide)]; rw [e41, upV_o (by decide)]; rw [e40, upV_o (by decide)]; rw [e39, upV_o (by decide)]; rw [e38, upV_o (by decide)]; rw [e37, upV_o (by decide)]; rw [e36, upV_o (by decide)]; rw [e35, upV_o (by decide)]; rw [e34, upV_o (by decide)]; rw [e33, upV_o (by decide)]; rw [e32, upV_o (by decide)]; rw [e31, upV_o (by decide)]; rw [e30, upV_o (by decide)]; rw [e29, upV_o (by decide)]; rw [e28, upV_o (by decide)]; rw [e27, upV_o (by decide)]; rw [e26, upV_o (by decide)]; rw [e25, upV_o (by decide)]; rw [e24, upV_o (by decide)]; rw [e23, upV_o (by decide)]; rw [e22, upV_o (by decide)]; rw [e21, upV_o (by decide)]; rw [e20, upV_ne (by decide)]; rw [e19, upW_ne (by decide)]; rw [e18, upV_ne (by decide)]; rw [e17, upW_ne (by decide)]; rw [e16, upV_ne (by decide)]; rw [e15, upW_ne (by decide)]; rw [e14, upV_ne (by decide)]; rw [e13, upW_ne (by decide)]; rw [e12, upV_ne (by decide)]; rw [e11, upW_ne (by decide)]; rw [e10, upV_ne (by decide)]; rw [e9, upW_ne (by decide)]; rw [e8, upV_ne (by decide)]; rw [e7, upW_ne (by decide)]; rw [e6, upV_ne (by decide)]; rw [e5, upW_ne (by decide)]; rw [e4, upV_ne (by decide)]; rw [e3, upW_ne (by decide)]; rw [e2, upV_ne (by decide)]; rw [e1, upW_s]; try rfl
      replace hj : j < 34 := hq
      rcases Nat.eq_or_lt_of_le (show j ≤ 33 by omega) with hq | hq
      · subst hq; rw [e49, upV_o (by decide)]; rw [e48, upV_o (by decide)]; rw [e47, upV_o (by decide)]; rw [e46, upV_o (by decide)]; rw [e45, upV_o (by decide)]; rw [e44, upV_o (by decide)]; rw [e43, upV_o (by decide)]; rw [e42, upV_o (by decide)]; rw [e41, upV_o (by decide)]; rw [e40, upV_o (by decide)]; rw [e39, upV_o (by decide)]; rw [e38, upV_o (by decide)]; rw [e37, upV_o (by decide)]; rw [e36, upV_o (by decide)]; rw [e35, upV_o (by decide)]; rw [e34, upV_o (by decide)]; rw [e33, upV_o (by decide)]; rw [e32, upV_o (by decide)]; rw [e31, upV_o (by decide)]; rw [e30, upV_o (by decide)]; rw [e29, upV_o (by decide)]; rw [e28, upV_o (by decide)]; rw [e27, upV_o (by decide)]; rw [e26, upV_o (by decide)]; rw [e25, upV_o (by decide)]; rw [e24, upV_o (by decide)]; rw [e23, upV_o (by decide)]; rw [e22, upV_o (by decide)]; rw [e21, upV_o (by decide)]; rw [e20, upV_ne (by decide)]; rw [e19, upW_ne (by decide)]; rw [e18, upV_ne (by decide)]; rw [e17, upW_ne (by decide)]; rw [e16, upV_ne (by decide)]; rw [e15, upW_ne (by decide)]; rw [e14, upV_ne (by decide)]; rw [e13, upW_ne (by decide)]; rw [e12, upV_ne (by decide)]; rw [e11, upW_ne (by decide)]; rw [e10, upV_ne (by decide)]; rw [e9, upW_ne (by decide)]; rw [e8, upV_ne (by decide)]; rw [e7, upW_ne (by decide)]; rw [e6, upV_ne (by decide)]; rw [e5, upW_ne (by decide)]; rw [e4, upV_ne (by decide)]; rw [e3, upW_ne (by decide)]; rw [e2, upV_ne (by decide)]; rw [e1, upW_s]; try rfl
      replace hj : j < 33 := hq
      rcases Nat.eq_or_lt_of_le (show j ≤ 32 by omega) with hq | hq
      · subst hq; rw [e49, upV_o (by decide)]; rw [e48, upV_o (by decide)]; rw [e47, upV_o (by decide)]; rw [e46, upV_o (by decide)]; rw [e45, upV_o (by decide)]; rw [e44, upV_o (by decide)]; rw [e43, upV_o (by decide)]; rw [e42, upV_o (by decide)]; rw [e41, upV_o (by decide)]; rw [e40, upV_o (by decide)]; rw [e39, upV_o (by decide)]; rw [e38, upV_o (by decide)]; rw [e37, upV_o (by decide)]; rw [e36, upV_o (by decide)]; rw [e35, upV_o (by decide)]; rw [e34, upV_o (by decide)]; rw [e33, upV_o (by decide)]; rw [e32, upV_o (by decide)]; rw [e31, upV_o (by decide)]; rw [e30, upV_o (by decide)]; rw [e29, upV_o (by decide)]; rw [e28, upV_o (by decide)]; rw [e27, upV_o (by decide)]; rw [e26, upV_o (by decide)]; rw [e25, upV_o (by decide)]; rw [e24, upV_o (by decide)]; rw [e23, upV_o (by decide)]; rw [e22, upV_o (by decide)]; rw [e21, upV_o (by decide)]; rw [e20, upV_ne (by decide)]; rw [e19, upW_ne (by decide)]; rw [e18, upV_ne (by decide)]; rw [e17, upW_ne (by decide)]; rw [e16, upV_ne (by decide)]; rw [e15, upW_ne (by decide)]; rw [e14, upV_ne (by decide)]; rw [e13, upW_ne (by decide)]; rw [e12, upV_ne (by decide)]; rw [e11, upW_ne (by decide)]; rw [e10, upV_ne (by decide)]; rw [e9, upW_ne (by decide)]; rw [e8, upV_ne (by decide)]; rw [e7, upW_ne (by decide)]; rw [e6, upV_ne (by decide)]; rw [e5, upW_ne (by decide)]; rw [e4, upV_ne (by decide)]; rw [e3, upW_ne (by decide)]; rw [e2, upV_ne (by decide)]; rw [e1, upW_s]; try rfl
      replace hj : j < 32 := hq
      rcases Nat.eq_or_lt_of_le (show j ≤ 31 by omega) with hq | hq
      · subst hq; rw [e49, upV_o (by decide)]; rw [e48, upV_o (by decide)]; rw [e47, upV_o (by decide)]; rw [e46, upV_o (by decide)]; rw [e45, upV_o (by decide)]; rw [e44, upV_o (by decide)]; rw [e43, upV_o (by decide)]; rw [e42, upV_o (by decide)]; rw [e41, upV_o (by decide)]; rw [e40, upV_o (by decide)]; rw [e39, upV_o (by decide)]; rw [e38, upV_o (by decide)]; rw [e37, upV_o (by decide)]; rw [e36, upV_o (by decide)]; rw [e35, upV_o (by decide)]; rw [e34, upV_o (by decide)]; rw [e33, upV_o (by decide)]; rw [e32, upV_o (by decide)]; rw [e31, upV_o (by decide)]; rw [e30, upV_o (by decide)]; rw [e29, upV_o (by decide)]; rw [e28, upV_o (by decide)]; rw [e27, upV_o (by decide)]; rw [e26, upV_o (by decide)]; rw [e25, upV_o (by decide)]; rw [e24, upV_o (by decide)]; rw [e23, upV_o (by decide)]; rw [e22, upV_o (by decide)]; rw [e21, upV_o (by decide)]; rw [e20, upV_ne (by decide)]; rw [e19, upW_ne (by decide)]; rw [e18, upV_ne (by decide)]; rw [e17, upW_ne (by decide)]; rw [e16, upV_ne (by decide)]; rw [e15, upW_ne (by decide)]; rw [e14, upV_ne (by decide)]; rw [e13, upW_ne (by decide)]; rw [e12, upV_ne (by decide)]; rw [e11, upW_ne (by decide)]; rw [e10, upV_ne (by decide)]; rw [e9, upW_ne (by decide)]; rw [e8, upV_ne (by decide)]; rw [e7, upW_ne (by decide)]; rw [e6, upV_ne (by decide)]; rw [e5, upW_ne (by decide)]; rw [e4, upV_ne (by decide)]; rw [e3, upW_ne (by decide)]; rw [e2, upV_ne (by decide)]; rw [e1, upW_s]; try rfl
      replace hj : j < 31 := hq
      rcases Nat.eq_or_lt_of_le (show j ≤ 30 by omega) with hq | hq
      · subst hq; rw [e49, upV_o (by decide)]; rw [e48, upV_o (by decide)]; rw [e47, upV_o (by decide)]; rw [e46, upV_o (by decide)]; rw [e45, upV_o (by decide)]; rw [e44, upV_o (by decide)]; rw [e43, upV_o (by decide)]; rw [e42, upV_o (by decide)]; rw [e41, upV_o (by decide)]; rw [e40, upV_o (by decide)]; rw [e39, upV_o (by decide)]; rw [e38, upV_o (by decide)]; rw [e37, upV_o (by decide)]; rw [e36, upV_o (by decide)]; rw [e35, upV_o (by decide)]; rw [e34, upV_o (by decide)]; rw [e33, upV_o (by decide)]; rw [e32, upV_o (by decide)]; rw [e31, upV_o (by decide)]; rw [e30, upV_o (by decide)]; rw [e29, upV_o (by decide)]; rw [e28, upV_o (by decide)]; rw [e27, upV_o (by decide)]; rw [e26, upV_o (by decide)]; rw [e25, upV_o (by decide)]; rw [e24, upV_o (by decide)]; rw [e23, upV_o (by decide)]; rw [e22, upV_o (by decide)]; rw [e21, upV_o (by decide)]; rw [e20, upV_ne (by decide)]; rw [e19, upW_ne (by decide)]; rw [e18, upV_ne (by decide)]; rw [e17, upW_ne (by decide)]; rw [e16, upV_ne (by decide)]; rw [e15, upW_ne (by decide)]; rw [e14, upV_ne (by decide)]; rw [e13, upW_ne (by decide)]; rw [e12, upV_ne (by decide)]; rw [e11, upW_ne (by decide)]; rw [e10, upV_ne (by decide)]; rw [e9, upW_ne (by decide)]; rw [e8, upV_ne (by decide)]; rw [e7, upW_ne (by decide)]; rw [e6, upV_ne (by decide)]; rw [e5, upW_ne (by decide)]; rw [e4, upV_ne (by decide)]; rw [e3, upW_ne (by decide)]; rw [e2, upV_ne (by decide)]; rw [e1, upW_s]; try rfl
      replace hj : j < 30 := hq
      rcases Nat.eq_or_lt_of_le (show j ≤ 29 by omega) with hq | hq
      · subst hq; rw [e49, upV_o (by decide)]; rw [e48, upV_o (by decide)]; rw [e47, upV_o (by decide)]; rw [e46, upV_o (by decide)]; rw [e45, upV_o (by decide)]; rw [e44, upV_o (by decide)]; rw [e43, upV_o (by decide)]; rw [e42, upV_o (by decide)]; rw [e41, upV_o (by decide)]; rw [e40, upV_o (by decide)]; rw [e39, upV_o (by decide)]; rw [e38, upV_o (by decide)]; rw [e37, upV_o (by decide)]; rw [e36, upV_o (by decide)]; rw [e35, upV_o (by decide)]; rw [e34, upV_o (by decide)]; rw [e33, upV_o (by decide)]; rw [e32, upV_o (by decide)]; rw [e31, upV_o (by decide)]; rw [e30, upV_o (by decide)]; rw [e29, upV_o (by decide)]; rw [e28, upV_o (by decide)]; rw [e27, upV_o (by decide)]; rw [e26, upV_o (by decide)]; rw [e25, upV_o (by decide)]; rw [e24, upV_o (by decide)]; rw [e23, upV_o (by decide)]; rw [e22, upV_o (by decide)]; rw [e21, upV_o (by decide)]; rw [e20, upV_ne (by decide)]; rw [e19, upW_ne (by decide)]; rw [e18, upV_ne (by decide)]; rw [e17, upW_ne (by decide)]; rw [e16, upV_ne (by decide)]; rw [e15, upW_ne (by decide)]; rw [e14, upV_ne (by decide)]; rw [e13, upW_ne (by decide)]; rw [e12, upV_ne (by decide)]; rw [e11, upW_ne (by decide)]; rw [e10, upV_ne (by decide)]; rw [e9, upW_ne (by decide)]; rw [e8, upV_ne (by decide)]; rw [e7, upW_ne (by decide)]; rw [e6, upV_ne (by decide)]; rw [e5, upW_ne (by decide)]; rw [e4, upV_ne (by decide)]; rw [e3, upW_ne (by decide)]; rw [e2, upV_ne (by decide)]; rw [e1, upW_s]; try rfl
      replace hj : j < 29 := hq
      rcases Nat.eq_or_lt_of_le (show j ≤ 28 by omega) with hq | hq
      · subst hq; rw [e49, upV_o (by decide)]; rw [e48, upV_o (by decide)]; rw [e47, upV_o (by decide)]; rw [e46, upV_o (by decide)]; rw [e45, upV_o (by decide)]; rw [e44, upV_o (by decide)]; rw [e43, upV_o (by decide)]; rw [e42, upV_o (by decide)]; rw [e41, upV_o (by decide)]; rw [e40, upV_o (by decide)]; rw [e39, upV_o (by decide)]; rw [e38, upV_o (by decide)]; rw [e37, upV_o (by decide)]; rw [e36, upV_o (by decide)]; rw [e35, upV_o (by decide)]; rw [e34, upV_o (by decide)]; rw [e33, upV_o (by decide)]; rw [e32, upV_o (by decide)]; rw [e31, upV_o (by decide)]; rw [e30, upV_o (by decide)]; rw [e29, upV_o (by decide)]; rw [e28, upV_o (by decide)]; rw [e27, upV_o (by decide)]; rw [e26, upV_o (by decide)]; rw [e25, upV_o (by decide)]; rw [e24, upV_o (by decide)]; rw [e23, upV_o (by decide)]; rw [e22, upV_o (by decide)]; rw [e21, upV_o (by decide)]; rw [e20, upV_ne (by decide)]; rw [e19, upW_ne (by decide)]; rw [e18, upV_ne (by decide)]; rw [e17, upW_ne (by decide)]; rw [e16, upV_ne (by decide)]; rw [e15, upW_ne (by decide)]; rw [e14, upV_ne (by decide)]; rw [e13, upW_ne (by decide)]; rw [e12, upV_ne (by decide)]; rw [e11, upW_ne (by decide)]; rw [e10, upV_ne (by decide)]; rw [e9, upW_ne (by decide)]; rw [e8, upV_ne (by decide)]; rw [e7, upW_ne (by decide)]; rw [e6, upV_ne (by decide)]; rw [e5, upW_ne (by decide)]; rw [e4, upV_ne (by decide)]; rw [e3, upW_ne (by decide)]; rw [e2, upV_ne (by decide)]; rw [e1, upW_s]; try rfl
      replace hj : j < 28 := hq
      rcases Nat.eq_or_lt_of_le (show j ≤ 27 by omega) with hq | hq
      · subst hq; rw [e49, upV_o (by decide)]; rw [e48, upV_o (by decide)]; rw [e47, upV_o (by decide)]; rw [e46, upV_o (by decide)]; rw [e45, upV_o (by decide)]; rw [e44, upV_o (by decide)]; rw [e43, upV_o (by decide)]; rw [e42, upV_o (by decide)]; rw [e41, upV_o (by decide)]; rw [e40, upV_o (by decide)]; rw [e39, upV_o (by decide)]; rw [e38, upV_o (by decide)]; rw [e37, upV_o (by decide)]; rw [e36, upV_o (by decide)]; rw [e35, upV_o (by decide)]; rw [e34, upV_o (by decide)]; rw [e33, upV_o (by decide)]; rw [e32, upV_o (by decide)]; rw [e31, upV_o (by decide)]; rw [e30, upV_o (by decide)]; rw [e29, upV_o (by decide)]; rw [e28, upV_o (by decide)]; rw [e27, upV_o (by decide)]; rw [e26, upV_o (by decide)]; rw [e25, upV_o (by decide)]; rw [e24, upV_o (by decide)]; rw [e23, upV_o (by decide)]; rw [e22, upV_o (by decide)]; rw [e21, upV_o (by decide)]; rw [e20, upV_ne (by decide)]; rw [e19, upW_ne (by decide)]; rw [e18, upV_ne (by decide)]; rw [e17, upW_ne (by decide)]; rw [e16, upV_ne (by decide)]; rw [e15, upW_ne (by decide)]; rw [e14, upV_ne (by decide)]; rw [e13, upW_ne (by decide)]; rw [e12, upV_ne (by decide)]; rw [e11, upW_ne (by decide)]; rw [e10, upV_ne (by decide)]; rw [e9, upW_ne (by decide)]; rw [e8, upV_ne (by decide)]; rw [e7, upW_ne (by decide)]; rw [e6, upV_ne (by decide)]; rw [e5, upW_ne (by decide)]; rw [e4, upV_ne (by decide)]; rw [e3, upW_ne (by decide)]; rw [e2, upV_ne (by decide)]; rw [e1, upW_s]; try rfl
      replace hj : j < 27 := hq
      rcases Nat.eq_or_lt_of_le (show j ≤ 26 by omega) with hq | hq
      · subst hq; rw [e49, upV_o (by decide)]; rw [e48, upV_o (by decide)]; rw [e47, upV_o (by decide)]; rw [e46, upV_o (by decide)]; rw [e45, upV_o (by decide)]; rw [e44, upV_o (by decide)]; rw [e43, upV_o (by decide)]; rw [e42, upV_o (by decide)]; rw [e41, upV_o (by decide)]; rw [e40, upV_o (by decide)]; rw [e39, upV_o (by decide)]; rw [e38, upV_o (by decide)]; rw [e37, upV_o (by decide)]; rw [e36, upV_o (by decide)]; rw [e35, upV_o (by decide)]; rw [e34, upV_o (by decide)]; rw [e33, upV_o (by decide)]; rw [e32, upV_o (by decide)]; rw [e31, upV_o (by decide)]; rw [e30, upV_o (by decide)]; rw [e29, upV_o (by decide)]; rw [e28, upV_o (by decide)]; rw [e27, upV_o (by decide)]; rw [e26, upV_o (by decide)]; rw [e25, upV_o (by decide)]; rw [e24, upV_o (by decide)]; rw [e23, upV_o (by decide)]; rw [e22, upV_o (by decide)]; rw [e21, upV_o (by decide)]; rw [e20, upV_ne (by decide)]; rw [e19, upW_ne (by decide)]; rw [e18, upV_ne (by decide)]; rw [e17, upW_ne (by decide)]; rw [e16, upV_ne (by decide)]; rw [e15, upW_ne (by decide)]; rw [e14, upV_ne (by decide)]; rw [e13, upW_ne (by decide)]; rw [e12, upV_ne (by decide)]; rw [e11, upW_ne (by decide)]; rw [e10, upV_ne (by decide)]; rw [e9, upW_ne (by decide)]; rw [e8, upV_ne (by decide)]; rw [e7, upW_ne (by decide)]; rw [e6, upV_ne (by decide)]; rw [e5, upW_ne (by decide)]; rw [e4, upV_ne (by decide)]; rw [e3, upW_ne (by decide)]; rw [e2, upV_ne (by decide)]; rw [e1, upW_s]; try rfl
      replace hj : j < 26 := hq
      rcases Nat.eq_or_lt_of_le (show j ≤ 25 by omega) with hq | hq
      · subst hq; rw [e49, upV_o (by decide)]; rw [e48, upV_o (by decide)]; rw [e47, upV_o (by decide)]; rw [e46, upV_o (by decide)]; rw [e45, upV_o (by decide)]; rw [e44, upV_o (by decide)]; rw [e43, upV_o (by decide)]; rw [e42, upV_o (by decide)]; rw [e41, upV_o (by decide)]; rw [e40, upV_o (by decide)]; rw [e39, upV_o (by decide)]; rw [e38, upV_o (by decide)]; rw [e37, upV_o (by decide)]; rw [e36, upV_o (by decide)]; rw [e35, upV_o (by decide)]; rw [e34, upV_o (by decide)]; rw [e33, upV_o (by decide)]; rw [e32, upV_o (by decide)]; rw [e31, upV_o (by decide)]; rw [e30, upV_o (by decide)]; rw [e29, upV_o (by decide)]; rw [e28, upV_o (by decide)]; rw [e27, upV_o (by decide)]; rw [e26, upV_o (by decide)]; rw [e25, upV_o (by decide)]; rw [e24, upV_o (by decide)]; rw [e23, upV_o (by decide)]; rw [e22, upV_o (by decide)]; rw [e21, upV_o (by decide)]; rw [e20, upV_ne (by decide)]; rw [e19, upW_ne (by decide)]; rw [e18, upV_ne (by decide)]; rw [e17, upW_ne (by decide)]; rw [e16, upV_ne (by decide)]; rw [e15, upW_ne (by decide)]; rw [e14, upV_ne (by decide)]; rw [e13, upW_ne (by decide)]; rw [e12, upV_ne (by decide)]; rw [e11, upW_ne (by decide)]; rw [e10, upV_ne (by decide)]; rw [e9, upW_ne (by decide)]; rw [e8, upV_ne (by decide)]; rw [e7, upW_ne (by decide)]; rw [e6, upV_ne (by decide)]; rw [e5, upW_ne (by decide)]; rw [e4, upV_ne (by decide)]; rw [e3, upW_ne (by decide)]; rw [e2, upV_ne (by decide)]; rw [e1, upW_s]; try rfl
      replace hj : j < 25 := hq
      rcases Nat.eq_or_lt_of_le (show j ≤ 24 by omega) with hq | hq
      · subst hq; rw [e49, upV_o (by decide)]; rw [e48, upV_o (by decide)]; rw [e47, upV_o (by decide)]; rw [e46, upV_o (by decide)]; rw [e45, upV_o (by decide)]; rw [e44, upV_o (by decide)]; rw [e43, upV_o (by decide)]; rw [e42, upV_o (by decide)]; rw [e41, upV_o (by decide)]; rw [e40, upV_o (by decide)]; rw [e39, upV_o (by decide)]; rw [e38, upV_o (by decide)]; rw [e37, upV_o (by decide)]; rw [e36, upV_o (by decide)]; rw [e35, upV_o (by decide)]; rw [e34, upV_o (by decide)]; rw [e33, upV_o (by decide)]; rw [e32, upV_o (by decide)]; rw [e31, upV_o (by decide)]; rw [e30, upV_o (by decide)]; rw [e29, upV_o (by decide)]; rw [e28, upV_o (by decide)]; rw [e27, upV_o (by decide)]; rw [e26, upV_o (by decide)]; rw [e25, upV_o (by decide)]; rw [e24, upV_o (by decide)]; rw [e23, upV_o (by decide)]; rw [e22, upV_o (by decide)]; rw [e21, upV_o (by decide)]; rw [e20, upV_ne (by decide)]; rw [e19, upW_ne (by decide)]; rw [e18, upV_ne (by decide)]; rw [e17, upW_ne (by decide)]; rw [e16, upV_ne (by decide)]; rw [e15, upW_ne (by decide)]; rw [e14, upV_ne (by decide)]; rw [e13, upW_ne (by decide)]; rw [e12, upV_ne (by decide)]; rw [e11, upW_ne (by decide)]; rw [e10, upV_ne (by decide)]; rw [e9, upW_ne (by decide)]; rw [e8, upV_ne (by decide)]; rw [e7, upW_ne (by decide)]; rw [e6, upV_ne (by decide)]; rw [e5, upW_ne (by decide)]; rw [e4, upV_ne (by decide)]; rw [e3, upW_ne (by decide)]; rw [e2, upV_ne (by decide)]; rw [e1, upW_s]; try rfl
      replace hj : j < 24 := hq
      rcases Nat.eq_or_lt_of_le (show j ≤ 23 by omega) with hq | hq
      · subst hq; rw [e49, upV_o (by decide)]; rw [e48, upV_o (by decide)]; rw [e47, upV_o (by decide)]; rw [e46, upV_o (by decide)]; rw [e45, upV_o (by decide)]; rw [e44, upV_o (by decide)]; rw [e43, upV_o (by decide)]; rw [e42, upV_o (by decide)]; rw [e41, upV_o (by decide)]; rw [e40, upV_o (by decide)]; rw [e39, upV_s]; try rfl
      replace hj : j < 23 := hq
      rcases Nat.eq_or_lt_of_le (show j ≤ 22 by omega) with hq | hq
      · subst hq; rw [e49, upV_o (by decide)]; rw [e48, upV_o (by decide)]; rw [e47, upV_o (by decide)]; rw [e46, upV_o (by decide)]; rw [e45, upV_o (by decide)]; rw [e44, upV_o (by decide)]; rw [e43, upV_o (by decide)]; rw [e42, upV_o (by decide)]; rw [e41, upV_o (by decide)]; rw [e40, upV_o (by decide)]; rw [e39, upV_o (by decide)]; rw [e38, upV_s]; try rfl
      replace hj : j < 22 := hq
      rcases Nat.eq_or_lt_of_le (show j ≤ 21 by omega) with hq | hq
      · subst hq; rw [e49, upV_o (by decide)]; rw [e48, upV_o (by decide)]; rw [e47, upV_o (by decide)]; rw [e46, upV_o (by decide)]; rw [e45, upV_o (by decide)]; rw [e44, upV_o (by decide)]; rw [e43, upV_o (by decide)]; rw [e42, upV_o (by decide)]; rw [e41, upV_o (by decide)]; rw [e40, upV_o (by decide)]; rw [e39, upV_o (by decide)]; rw [e38, upV_o (by decide)]; rw [e37, upV_s]; try rfl
      replace hj : j < 21 := hq
      rcases Nat.eq_or_lt_of_le (show j ≤ 20 by omega) with hq | hq
      · subst hq; rw [e49, upV_o (by decide)]; rw [e48, upV_o (by decide)]; rw [e47, upV_o (by decide)]; rw [e46, upV_o (by decide)]; rw [e45, upV_o (by decide)]; rw [e44, upV_o (by decide)]; rw [e43, upV_o (by decide)]; rw [e42, upV_o (by decide)]; rw [e41, upV_o (by decide)]; rw [e40, upV_o (by decide)]; rw [e39, upV_o (by decide)]; rw [e38, upV_o (by decide)]; rw [e37, upV_o (by decide)]; rw [e36, upV_s]; try rfl
      replace hj : j < 20 := hq
      rcases Nat.eq_or_lt_of_le (show j ≤ 19 by omega) with hq | hq
      · subst hq; rw [e49, upV_o (by decide)]; rw [e48, upV_o (by decide)]; rw [e47, upV_o (by decide)]; rw [e46, upV_o (by decide)]; rw [e45, upV_o (by decide)]; rw [e44, upV_o (by decide)]; rw [e43, upV_o (by decide)]; rw [e42, upV_o (by decide)]; rw [e41, upV_o (by decide)]; rw [e40, upV_o (by decide)]; rw [e39, upV_o (by decide)]; rw [e38, upV_o (by decide)]; rw [e37, upV_o (by decide)]; rw [e36, upV_o (by decide)]; rw [e35, upV_s]; try rfl
      replace hj : j < 19 := hq
      rcases Nat.eq_or_lt_of_le (show j ≤ 18 by omega) with hq | hq
      · subst hq; rw [e49, upV_o (by decide)]; rw [e48, upV_o (by decide)]; rw [e47, upV_o (by decide)]; rw [e46, upV_o (by decide)]; rw [e45, upV_o (by decide)]; rw [e44, upV_o (by decide)]; rw [e43, upV_o (by decide)]; rw [e42, upV_o (by decide)]; rw [e41, upV_o (by decide)]; rw [e40, upV_o (by decide)]; rw [e39, upV_o (by decide)]; rw [e38, upV_o (by decide)]; rw [e37, upV_o (by decide)]; rw [e36, upV_o (by decide)]; rw [e35, upV_o (by decide)]; rw [e34, upV_s]; try rfl
      replace hj : j < 18 := hq
      rcases Nat.eq_or_lt_of_le (show j ≤ 17 by omega) with hq | hq
      · subst hq; rw [e49, upV_o (by decide)]; rw [e48, upV_o (by decide)]; rw [e47, upV_o (by decide)]; rw [e46, upV_o (by decide)]; rw [e45, upV_o (by decide)]; rw [e44, upV_o (by decide)]; rw [e43, upV_o (by decide)]; rw [e42, upV_o (by decide)]; rw [e41, upV_o (by decide)]; rw [e40, upV_o (by decide)]; rw [e39, upV_o (by decide)]; rw [e38, upV_o (by decide)]; rw [e37, upV_o (by decide)]; rw [e36, upV_o (by decide)]; rw [e35, upV_o (by decide)]; rw [e34, upV_o (by decide)]; rw [e33, upV_s]; try rfl
      replace hj : j < 17 := hq
      rcases Nat.eq_or_lt_of_le (show j ≤ 16 by omega) with hq | hq
      · subst hq; rw [e49, upV_o (by decide)]; rw [e48, upV_o (by decide)]; rw [e47, upV_o (by decide)]; rw [e46, upV_o (by decide)]; rw [e45, upV_o (by decide)]; rw [e44, upV_o (by decide)]; rw [e43, upV_o (by decide)]; rw [e42, upV_o (by decide)]; rw [e41, upV_o (by decide)]; rw [e40, upV_o (by decide)]; rw [e39, upV_o (by decide)]; rw [e38, upV_o (by decide)]; rw [e37, upV_o (by decide)]; rw [e36, upV_o (by decide)]; rw [e35, upV_o (by decide)]; rw [e34, upV_o (by decide)]; rw [e33, upV_o (by decide)]; rw [e32, upV_s]; try rfl
      replace hj : j < 16 := hq
      rcases Nat.eq_or_lt_of_le (show j ≤ 15 by omega) with hq | hq
      · subst hq; rw [e49, upV_o (by decide)]; rw [e48, upV_o (by decide)]; rw [e47, upV_o (by decide)]; rw [e46, upV_o (by decide)]; rw [e45, upV_o (by decide)]; rw [e44, upV_o (by decide)]; rw [e43, upV_o (by decide)]; rw [e42, upV_o (by decide)]; rw [e41, upV_o (by decide)]; rw [e40, upV_o (by decide)]; rw [e39, upV_o (by decide)]; rw [e38, upV_o (by decide)]; rw [e37, upV_o (by decide)]; rw [e36, upV_o (by decide)]; rw [e35, upV_o (by decide)]; rw [e34, upV_o (by decide)]; rw [e33, upV_o (by decide)]; rw [e32, upV_o (by decide)]; rw [e31, upV_s]; try rfl
      replace hj : j < 15 := hq
      rcases Nat.eq_or_lt_of_le (show j ≤ 14 by omega) with hq | hq
      · subst hq; rw [e49, upV_o (by decide)]; rw [e48, upV_o (by decide)]; rw [e47, upV_o (by decide)]; rw [e46, upV_o (by decide)]; rw [e45, upV_o (by decide)]; rw [e44, upV_o (by decide)]; rw [e43, upV_o (by decide)]; rw [e42, upV_o (by decide)]; rw [e41, upV_o (by decide)]; rw [e40, upV_o (by decide)]; rw [e39, upV_o (by decide)]; rw [e38, upV_o (by decide)]; rw [e37, upV_o (by decide)]; rw [e36, upV_o (by decide)]; rw [e35, upV_o (by decide)]; rw [e34, upV_o (by decide)]; rw [e33, upV_o (by decide)]; rw [e32, upV_o (by decide)]; rw [e31, upV_o (by decide)]; rw [e30, upV_s]; try rfl
      replace hj : j < 14 := hq
      rcases Nat.eq_or_lt_of_le (show j ≤ 13 by omega) with hq | hq
      · subst hq; rw [e49, upV_o (by decide)]; rw [e48, upV_o (by decide)]; rw [e47, upV_o (by decide)]; rw [e46, upV_o (by decide)]; rw [e45, upV_o (by decide)]; rw [e44, upV_o (by decide)]; rw [e43, upV_o (by decide)]; rw [e42, upV_o (by decide)]; rw [e41, upV_o (by decide)]; rw [e40, upV_o (by decide)]; rw [e39, upV_o (by decide)]; rw [e38, upV_o (by decide)]; rw [e37, upV_o (by decide)]; rw [e36, upV_o (by decide)]; rw [e35, upV_o (by decide)]; rw [e34, upV_o (by decide)]; rw [e33, upV_o (by decide)]; rw [e32, upV_o (by decide)]; rw [e31, upV_o (by decide)]; rw [e30, upV_o (by decide)]; rw [e29, upV_s]; try rfl
      replace hj : j < 13 := hq
      rcases Nat.eq_or_lt_of_le (show j ≤ 12 by omega) with hq | hq
      · subst hq; rw [e49, upV_o (by decide)]; rw [e48, upV_o (by decide)]; rw [e47, upV_o (by decide)]; rw [e46, upV_o (by decide)]; rw [e45, upV_o (by decide)]; rw [e44, upV_o (by decide)]; rw [e43, upV_o (by decide)]; rw [e42, upV_o (by decide)]; rw [e41, upV_o (by decide)]; rw [e40, upV_o (by decide)]; rw [e39, upV_o (by decide)]; rw [e38, upV_o (by decide)]; rw [e37, upV_o (by decide)]; rw [e36, upV_o (by decide)]; rw [e35, upV_o (by decide)]; rw [e34, upV_o (by decide)]; rw [e33, upV_o (by decide)]; rw [e32, upV_o (by decide)]; rw [e31, upV_o (by decide)]; rw [e30, upV_o (by decide)]; rw [e29, upV_o (by decide)]; rw [e28, upV_s]; try rfl
      replace hj : j < 12 := hq
      rcases Nat.eq_or_lt_of_le (show j ≤ 11 by omega) with hq | hq
      · subst hq; rw [e49, upV_o (by decide)]; rw [e48, upV_o (by decide)]; rw [e47, upV_o (by decide)]; rw [e46, upV_o (by decide)]; rw [e45, upV_o (by decide)]; rw [e44, upV_o (by decide)]; rw [e43, upV_o (by decide)]; rw [e42, upV_o (by decide)]; rw [e41, upV_o (by decide)]; rw [e40, upV_o (by decide)]; rw [e39, upV_o (by decide)]; rw [e38, upV_o (by decide)]; rw [e37, upV_o (by decide)]; rw [e36, upV_o (by decide)]; rw [e35, upV_o (by decide)]; rw [e34, upV_o (by decide)]; rw [e33, upV_o (by decide)]; rw [e32, upV_o (by decide)]; rw [e31, upV_o (by decide)]; rw [e30, upV_o (by decide)]; rw [e29, upV_o (by decide)]; rw [e28, upV_o (by decide)]; rw [e27, upV_s]; try rfl
      replace hj : j < 11 := hq
      rcases Nat.eq_or_lt_of_le (show j ≤ 10 by omega) with hq | hq
      · subst hq; rw [e49, upV_o (by decide)]; rw [e48, upV_o (by decide)]; rw [e47, upV_o (by decide)]; rw [e46, upV_o (by decide)]; rw [e45, upV_o (by decide)]; rw [e44, upV_o (by decide)]; rw [e43, upV_o (by decide)]; rw [e42, upV_o (by decide)]; rw [e41, upV_o (by decide)]; rw [e40, upV_o (by decide)]; rw [e39, upV_o (by decide)]; rw [e38, upV_o (by decide)]; rw [e37, upV_o (by decide)]; rw [e36, upV_o (by decide)]; rw [e35, upV_o (by decide)]; rw [e34, upV_o (by decide)]; rw [e33, upV_o (by decide)]; rw [e32, upV_o (by decide)]; rw [e31, upV_o (by decide)]; rw [e30, upV_o (by decide)]; rw [e29, upV_o (by decide)]; rw [e28, upV_o (by decide)]; rw [e27, upV_o (by decide)]; rw [e26, upV_s]; try rfl
      replace hj : j < 10 := hq
      rcases Nat.eq_or_lt_of_le (show j ≤ 9 by omega) with hq | hq
      · subst hq; rw [e49, upV_o (by decide)]; rw [e48, upV_o (by decide)]; rw [e47, upV_o (by decide)]; rw [e46, upV_o (by decide)]; rw [e45, upV_o (by decide)]; rw [e44, upV_o (by decide)]; rw [e43, upV_o (by decide)]; rw [e42, upV_o (by decide)]; rw [e41, upV_o (by decide)]; rw [e40, upV_o (by decide)]; rw [e39, upV_o (by decide)]; rw [e38, upV_o (by decide)]; rw [e37, upV_o (by decide)]; rw [e36, upV_o (by decide)]; rw [e35, upV_o (by decide)]; rw [e34, upV_o (by decide)]; rw [e33, upV_o (by decide)]; rw [e32, upV_o (by decide)]; rw [e31, upV_o (by decide)]; rw [e30, upV_o (by decide)]; rw [e29, upV_o (by decide)]; rw [e28, upV_o (by decide)]; rw [e27, upV_o (by decide)]; rw [e26, upV_o (by decide)]; rw [e25, upV_s]; try rfl
      replace hj : j < 9 := hq
      rcases Nat.eq_or_lt_of_le (show j ≤ 8 by omega) with hq | hq
      · subst hq; rw [e49, upV_o (by decide)]; rw [e48, upV_o (by decide)]; rw [e47, upV_o (by decide)]; rw [e46, upV_o (by decide)]; rw [e45, upV_o (by decide)]; rw [e44, upV_o (by decide)]; rw [e43, upV_o (by decide)]; rw [e42, upV_o (by decide)]; rw [e41, upV_o (by decide)]; rw [e40, upV_o (by decide)]; rw [e39, upV_o (by decide)]; rw [e38, upV_o (by decide)]; rw [e37, upV_o (by decide)]; rw [e36, upV_o (by decide)]; rw [e35, upV_o (by decide)]; rw [e34, upV_o (by decide)]; rw [e33, upV_o (by decide)]; rw [e32, upV_o (by decide)]; rw [e31, upV_o (by decide)]; rw [e30, upV_o (by decide)]; rw [e29, upV_o (by decide)]; rw [e28, upV_o (by decide)]; rw [e27, upV_o (by decide)]; rw [e26, upV_o (by decide)]; rw [e25, upV_o (by decide)]; rw [e24, upV_s]; try rfl
      replace hj : j < 8 := hq
      rcases Nat.eq_or_lt_of_le (show j ≤ 7 by omega) with hq | hq
      · subst hq; rw [e49, upV_o (by decide)]; rw [e48, upV_o (by decide)]; rw [e47, upV_o (by decide)]; rw [e46, upV_o (by decide)]; rw [e45, upV_o (by decide)]; rw [e44, upV_o (by decide)]; rw [e43, upV_o (by decide)]; rw [e42, upV_o (by decide)]; rw [e41, upV_o (by decide)]; rw [e40, upV_o (by decide)]; rw [e39, upV_o (by decide)]; rw [e38, upV_o (by decide)]; rw [e37, upV_o (by decide)]; rw [e36, upV_o (by decide)]; rw [e35, upV_o (by decide)]; rw [e34, upV_o (by decide)]; rw [e33, upV_o (by decide)]; rw [e32, upV_o (by decide)]; rw [e31, upV_o (by decide)]; rw [e30, upV_o (by decide)]; rw [e29, upV_o (by decide)]; rw [e28, upV_o (by decide)]; rw [e27, upV_o (by decide)]; rw [e26, upV_o (by decide)]; rw [e25, upV_o (by decide)]; rw [e24, upV_o (by decide)]; rw [e23, upV_o (by decide)]; rw [e22, upV_o (by decide)]; rw [e21, upV_o (by decide)]; rw [e20, upV_ne (by decide)]; rw [e19, upW_ne (by decide)]; rw [e18, upV_ne (by decide)]; rw [e17, upW_ne (by decide)]; rw [e16, upV_ne (by decide)]; rw [e15, upW_ne (by decide)]; rw [e14, upV_ne (by decide)]; rw [e13, upW_ne (by decide)]; rw [e12, upV_ne (by decide)]; rw [e11, upW_ne (by decide)]; rw [e10, upV_ne (by decide)]; rw [e9, upW_ne (by decide)]; rw [e8, upV_ne (by decide)]; rw [e7, upW_ne (by decide)]; rw [e6, upV_ne (by decide)]; rw [e5, upW_ne (by decide)]; rw [e4, upV_ne (by decide)]; rw [e3, upW_ne (by decide)]; rw [e2, upV_ne (by decide)]; rw [e1, upW_s]; try rfl
      replace hj : j < 7 := hq
      rcases Nat.eq_or_lt_of_le (show j ≤ 6 by omega) with hq | hq
      · subst hq; rw [e49, upV_o (by decide)]; rw [e48, upV_o (by decide)]; rw [e47, upV_o (by decide)]; rw [e46, upV_o (by decide)]; rw [e45, upV_o (by decide)]; rw [e44, upV_o (by decide)]; rw [e43, upV_o (by decide)]; rw [e42, upV_o (by decide)]; rw [e41, upV_o (by decide)]; rw [e40, upV_o (by decide)]; rw [e39, upV_o (by decide)]; rw [e38, upV_o (by decide)]; rw [e37, upV_o (by decide)]; rw [e36, upV_o (by decide)]; rw [e35, upV_o (by decide)]; rw [e34, upV_o (by decide)]; rw [e33, upV_o (by decide)]; rw [e32, upV_o (by decide)]; rw [e31, upV_o (by decide)]; rw [e30, upV_o (by decide)]; rw [e29, upV_o (by decide)]; rw [e28, upV_o (by decide)]; rw [e27, upV_o (by decide)]; rw [e26, upV_o (by decide)]; rw [e25, upV_o (by decide)]; rw [e24, upV_o (by decide)]; rw [e23, upV_s]; try rfl
      replace hj : j < 6 := hq
      rcases Nat.eq_or_lt_of_le (show j ≤ 5 by omega) with hq | hq
      · subst hq; rw [e49, upV_o (by decide)]; rw [e48, upV_o (by decide)]; rw [e47, upV_o (by decide)]; rw [e46, upV_o (by decide)]; rw [e45, upV_o (by decide)]; rw [e44, upV_o (by decide)]; rw [e43, upV_o (by decide)]; rw [e42, upV_o (by decide)]; rw [e41, upV_o (by decide)]; rw [e40, upV_o (by decide)]; rw [e39, upV_o (by decide)]; rw [e38, upV_o (by decide)]; rw [e37, upV_o (by decide)]; rw [e36, upV_o (by decide)]; rw [e35, upV_o (by decide)]; rw [e34, upV_o (by decide)]; rw [e33, upV_o (by decide)]; rw [e32, upV_o (by decide)]; rw [e31, upV_o (by decide)]; rw [e30, upV_o (by decide)]; rw [e29, upV_o (by decide)]; rw [e28, upV_o (by decide)]; rw [e27, upV_o (by decide)]; rw [e26, upV_o (by decide)]; rw [e25, upV_o (by decide)]; rw [e24, upV_o (by decide)]; rw [e23, upV_o (by decide)]; rw [e22, upV_o (by decide)]; rw [e21, upV_o (by decide)]; rw [e20, upV_ne (by decide)]; rw [e19, upW_ne (by decide)]; rw [e18, upV_ne (by decide)]; rw [e17, upW_ne (by decide)]; rw [e16, upV_ne (by decide)]; rw [e15, upW_ne (by decide)]; rw [e14, upV_ne (by decide)]; rw [e13, upW_ne (by decide)]; rw [e12, upV_ne (by decide)]; rw [e11, upW_ne (by decide)]; rw [e10, upV_ne (by decide)]; rw [e9, upW_ne (by decide)]; rw [e8, upV_ne (by decide)]; rw [e7, upW_ne (by decide)]; rw [e6, upV_ne (by decide)]; rw [e5, upW_ne (by decide)]; rw [e4, upV_ne (by decide)]; rw [e3, upW_ne (by decide)]; rw [e2, upV_ne (by decide)]; rw [e1, upW_s]; try rfl
      replace hj : j < 5 := hq
      rcases Nat.eq_or_lt_of_le (show j ≤ 4 by omega) with hq | hq
      · subst hq; rw [e49, upV_o (by decide)]; rw [e48, upV_o (by decide)]; rw [e47, upV_o (by decide)]; rw [e46, upV_o (by decide)]; rw [e45, upV_o (by decide)]; rw [e44, upV_o (by decide)]; rw [e43, upV_o (by decide)]; rw [e42, upV_o (by decide)]; rw [e41, upV_o (by decide)]; rw [e40, upV_o (by decide)]; rw [e39, upV_o (by decide)]; rw [e38, upV_o (by decide)]; rw [e37, upV_o (by decide)]; rw [e36, upV_o (by decide)]; rw [e35, upV_o (by decide)]; rw [e34, upV_o (by decide)]; rw [e33, upV_o (by decide)]; rw [e32, upV_o (by decide)]; rw [e31, upV_o (by decide)]; rw [e30, upV_o (by decide)]; rw [e29, upV_o (by decide)]; rw [e28, upV_o (by decide)]; rw [e27, upV_o (by decide)]; rw [e26, upV_o (by decide)]; rw [e25, upV_o (by decide)]; rw [e24, upV_o (by decide)]; rw [e23, upV_o (by decide)]; rw [e22, upV_s]; try rfl
      replace hj : j < 4 := hq
      rcases Nat.eq_or_lt_of_le (show j ≤ 3 by omega) with hq | hq
      · subst hq; rw [e49, upV_o (by decide)]; rw [e48, upV_o (by decide)]; rw [e47, upV_o (by decide)]; rw [e46, upV_o (by decide)]; rw [e45, upV_o (by decide)]; rw [e44, upV_o (by decide)]; rw [e43, upV_o (by decide)]; rw [e42, upV_o (by decide)]; rw [e41, upV_o (by decide)]; rw [e40, upV_o (by decide)]; rw [e39, upV_o (by decide)]; rw [e38, upV_o (by decide)]; rw [e37, upV_o (by decide)]; rw [e36, upV_o (by decide)]; rw [e35, upV_o (by decide)]; rw [e34, upV_o (by decide)]; rw [e33, upV_o (by decide)]; rw [e32, upV_o (by decide)]; rw [e31, upV_o (by decide)]; rw [e30, upV_o (by decide)]; rw [e29, upV_o (by decide)]; rw [e28, upV_o (by decide)]; rw [e27, upV_o (by decide)]; rw [e26, upV_o (by decide)]; rw [e25, upV_o (by decide)]; rw [e24, upV_o (by decide)]; rw [e23, upV_o (by decide)]; rw [e22, upV_o (by decide)]; rw [e21, upV_s]; try rfl
      replace hj : j < 3 := hq
      rcases Nat.eq_or_lt_of_le (show j ≤ 2 by omega) with hq | hq
      · subst hq; rw [e49, upV_o (by decide)]; rw [e48, upV_o (by decide)]; rw [e47, upV_o (by decide)]; rw [e46, upV_o (by decide)]; rw [e45, upV_o (by decide)]; rw [e44, upV_o (by decide)]; rw [e43, upV_o (by decide)]; rw [e42, upV_o (by decide)]; rw [e41, upV_o (by decide)]; rw [e40, upV_o (by decide)]; rw [e39, upV_o (by decide)]; rw [e38, upV_o (by decide)]; rw [e37, upV_o (by decide)]; rw [e36, upV_o (by decide)]; rw [e35, upV_o (by decide)]; rw [e34, upV_o (by decide)]; rw [e33, upV_o (by decide)]; rw [e32, upV_o (by decide)]; rw [e31, upV_o (by decide)]; rw [e30, upV_o (by decide)]; rw [e29, upV_o (by decide)]; rw [e28, upV_o (by decide)]; rw [e27, upV_o (by decide)]; rw [e26, upV_o (by decide)]; rw [e25, upV_o (by decide)]; rw [e24, upV_o (by decide)]; rw [e23, upV_o (by decide)]; rw [e22, upV_o (by decide)]; rw [e21, upV_o (by decide)]; rw [e20, upV_ne (by decide)]; rw [e19, upW_ne (by decide)]; rw [e18, upV_ne (by decide)]; rw [e17, upW_ne (by decide)]; rw [e16, upV_ne (by decide)]; rw [e15, upW_ne (by decide)]; rw [e14, upV_ne (by decide)]; rw [e13, upW_ne (by decide)]; rw [e12, upV_ne (by decide)]; rw [e11, upW_ne (by decide)]; rw [e10, upV_ne (by decide)]; rw [e9, upW_ne (by decide)]; rw [e8, upV_ne (by decide)]; rw [e7, upW_ne (by decide)]; rw [e6, upV_ne (by decide)]; rw [e5, upW_ne (by decide)]; rw [e4, upV_ne (by decide)]; rw [e3, upW_ne (by decide)]; rw [e2, upV_ne (by decide)]; rw [e1, upW_s]; try rfl
      replace hj : j < 2 := hq
      rcases Nat.eq_or_lt_of_le (show j ≤ 1 by omega) with hq | hq
      · subst hq; rw [e49, upV_o (by decide)]; rw [e48, upV_o (by decide)]; rw [e47, upV_o (by decide)]; rw [e46, upV_o (by decide)]; rw [e45, upV_o (by decide)]; rw [e44, upV_o (by decide)]; rw [e43, upV_o (by decide)]; rw [e42, upV_o (by decide)]; rw [e41, upV_o (by decide)]; rw [e40, upV_o (by decide)]; rw [e39, upV_o (by decide)]; rw [e38, upV_o (by decide)]; rw [e37, upV_o (by decide)]; rw [e36, upV_o (by decide)]; rw [e35, upV_o (by decide)]; rw [e34, upV_o (by decide)]; rw [e33, upV_o (by decide)]; rw [e32, upV_o (by decide)]; rw [e31, upV_o (by decide)]; rw [e30, upV_o (by decide)]; rw [e29, upV_o (by decide)]; rw [e28, upV_o (by decide)]; rw [e27, upV_o (by decide)]; rw [e26, upV_o (by decide)]; rw [e25, upV_o (by decide)]; rw [e24, upV_o (by decide)]; rw [e23, upV_o (by decide)]; rw [e22, upV_o (by decide)]; rw [e21, upV_o (by decide)]; rw [e20, upV_ne (by decide)]; rw [e19, upW_ne (by decide)]; rw [e18, upV_ne (by decide)]; rw [e17, upW_ne (by decide)]; rw [e16, upV_ne (by decide)]; rw [e15, upW_ne (by decide)]; rw [e14, upV_ne (by decide)]; rw [e13, upW_ne (by decide)]; rw [e12, upV_ne (by decide)]; rw [e11, upW_ne (by decide)]; rw [e10, upV_ne (by decide)]; rw [e9, upW_ne (by decide)]; rw [e8, upV_ne (by decide)]; rw [e7, upW_ne (by decide)]; rw [e6, upV_ne (by decide)]; rw [e5, upW_ne (by decide)]; rw [e4, upV_ne (by decide)]; rw [e3, upW_ne (by decide)]; rw [e2, upV_ne (by decide)]; rw [e1, upW_s]; try rfl
      replace hj : j < 1 := hq
      obtain rfl : j = 0 := by omega
      rw [e49, upV_o (by decide)]
      rw [e48, upV_o (by decide)]
      rw [e47, upV_o (by decide)]
      rw [e46, upV_o (by decide)]
      rw [e45, upV_o (by decide)]
      rw [e44, upV_o (by decide)]
      rw [e43, upV_o (by decide)]
      rw [e42, upV_o (by decide)]
      rw [e41, upV_o (by decide)]
      rw [e40, upV_o (by decide)]
      rw [e39, upV_o (by decide)]
      rw [e38, upV_o (by decide)]
      rw [e37, upV_o (by decide)]
      rw [e36, upV_o (by decide)]
      rw [e35, upV_o (by decide)]
      rw [e34, upV_o (by decide)]
      rw [e33, upV_o (by decide)]
      rw [e32, upV_o (by decide)]
      rw [e31, upV_o (by decide)]
      rw [e30, upV_o (by decide)]
      rw [e29, upV_o (by decide)]
      rw [e28, upV_o (by decide)]
      rw [e27, upV_o (by decide)]
      rw [e26, upV_o (by decide)]
      rw [e25, upV_o (by decide)]
      rw [e24, upV_o (by decide)]
      rw [e23, upV_o (by decide)]
      rw [e22, upV_o (by decide)]
      rw [e21, upV_o (by decide)]
      rw [e20, upV_ne (by decide)]
      rw [e19, upW_ne (by decide)]
      rw [e18, upV_ne (by decide)]
      rw [e17, upW_ne (by decide)]
      rw [e16, upV_ne (by decide)]
      rw [e15, upW_ne (by decide)]
      rw [e14, upV_ne (by decide)]
      rw [e13, upW_ne (by decide)]
      rw [e12, upV_ne (by decide)]
      rw [e11, upW_ne (by decide)]
      rw [e10, upV_ne (by decide)]
      rw [e9, upW_ne (by decide)]
      rw [e8, upV_ne (by decide)]
      rw [e7, upW_ne (by decide)]
      rw [e6, upV_ne (by decide)]
      rw [e5, upW_ne (by decide)]
      rw [e4, upV_ne (by decide)]
      rw [e3, upW_ne (by decide)]
      rw [e2, upV_ne (by decide)]
      rw [e1, upW_s]
      try rfl
    · intro j hj
      rw [e49, upV_ne (by decide)]
      rw [e48, upV_ne (by decide)]
      rw [e47, upV_ne (by decide)]
      rw [e46, upV_ne (by decide)]
      rw [e45, upV_ne (by decide)]
      rw [e44, upV_ne (by decide)]
      rw [e43, upV_ne (by decide)]
      rw [e42, upV_ne (by decide)]
      rw [e41, upV_ne (by decide)]
      rw [e40, upV_ne (by decide)]
      rw [e39, upV_ne (by decide)]
      rw [e38, upV_ne (by decide)]
      rw [e37, upV_ne (by decide)]
      rw [e36, upV_ne (by decide)]
      rw [e35, upV_ne (by decide)]
      rw [e34, upV_ne (by decide)]
      rw [e33, upV_ne (by decide)]
      rw [e32, upV_ne (by decide)]
      rw [e31, upV_ne (by decide)]
      rw [e30, upV_ne (by decide)]
      rw [e29, upV_ne (by decide)]
      rw [e28, upV_ne (by decide)]
      rw [e27, upV_ne (by decide)]
      rw [e26, upV_ne (by decide)]
      rw [e25, upV_ne (by decide)]
      rw [e24, upV_ne (by decide)]
      rw [e23, upV_ne (by decide)]
      rw [e22, upV_ne (by decide)]
      rw [e21, upV_ne (by decide)]
      rw [e20, upV_ne (by decide)]
      rw [e19, upW_ne (by decide)]
      rw [e18, upV_ne (by decide)]
      rw [e17, upW_ne (by decide)]
      rw [e16, upV_ne (by decide)]
      rw [e15, upW_ne (by decide)]
      rw [e14, upV_ne (by decide)]
      rw [e13, upW_ne (by decide)]
      rw [e12, upV_ne (by decide)]
      rw [e11, upW_ne (by decide)]
      rw [e10, upV_ne (by decide)]
      rw [e9, upW_ne (by decide)]
      rw [e8, upV_ne (by decide)]
      rw [e7, upW_ne (by decide)]
      rw [e6, upV_ne (by decide)]
      rw [e5, upW_ne (by decide)]
      rw [e4, upV_ne (by decide)]
      rw [e3, upW_s]
      try rfl
    · intro j hj
      rw [e49, upV_ne (by decide)]
      rw [e48, upV_ne (by decide)]
      rw [e47, upV_ne (by decide)]
      rw [e46, upV_ne (by decide)]
      rw [e45, upV_ne (by decide)]
      rw [e44, upV_ne (by decide)]
      rw [e43, upV_ne (by decide)]
      rw [e42, upV_ne (by decide)]
      rw [e41, upV_ne (by decide)]
      rw [e40, upV_ne (by decide)]
      rw [e39, upV_ne (by decide)]
      rw [e38, upV_ne (by decide)]
      rw [e37, upV_ne (by decide)]
      rw [e36, upV_ne (by decide)]
      rw [e35, upV_ne (by decide)]
      rw [e34, upV_ne (by decide)]
      rw [e33, upV_ne (by decide)]
      rw [e32, upV_ne (by decide)]
      rw [e31, upV_ne (by decide)]
      rw [e30, upV_ne (by decide)]
      rw [e29, upV_ne (by decide)]
      rw [e28, upV_ne (by decide)]
      rw [e27, upV_ne (by decide)]
      rw [e26, upV_ne (by decide)]
      rw [e25, upV_ne (by decide)]
      rw [e24, upV_ne (by decide)]
      rw [e23, upV_ne (by decide)]
      rw [e22, upV_ne (by decide)]
      rw [e21, upV_ne (by decide)]
      rw [e20, upV_ne (by decide)]
      rw [e19, upW_ne (by decide)]
      rw [e18, upV_ne (by decide)]
      rw [e17, upW_ne (by decide)]
      rw [e16, upV_ne (by decide)]
      rw [e15, upW_ne (by decide)]
      rw [e14, upV_ne (by decide)]
      rw [e13, upW_ne (by decide)]
      rw [e12, upV_ne (by decide)]
      rw [e11, upW_ne (by decide)]
      rw [e10, upV_ne (by decide)]
      rw [e9, upW_ne (by decide)]
      rw [e8, upV_ne (by decide)]
      rw [e7, upW_ne (by decide)]
      rw [e6, upV_ne (by decide)]
      rw [e5, upW_s]
      try rfl
    · intro j hj
      rw [e49, upV_ne (by decide)]
      rw [e48, upV_ne (by decide)]
      rw [e47, upV_ne (by decide)]
      rw [e46, upV_ne (by decide)]
      rw [e45, upV_ne (by decide)]
      rw [e44, upV_ne (by decide)]
      rw [e43, upV_ne (by decide)]
      rw [e42, upV_ne (by decide)]
      rw [e41, upV_ne (by decide)]
      rw [e40, upV_ne (by decide)]
      rw [e39, upV_ne (by decide)]
      rw [e38, upV_ne (by decide)]
      rw [e37, upV_ne (by decide)]
      rw [e36, upV_ne (by decide)]
      rw [e35, upV_ne (by decide)]
      rw [e34, upV_ne (by decide)]
      rw [e33, upV_ne (by decide)]
      rw [e32, upV_ne (by decide)]
      rw [e31, upV_ne (by decide)]
      rw [e30, upV_ne (by decide)]
      rw [e29, upV_ne (by decide)]
      rw [e28, upV_ne (by decide)]
      rw [e27, upV_ne (by decide)]
      rw [e26, upV_ne (by decide)]
      rw [e25, upV_ne (by decide)]
      rw [e24, upV_ne (by decide)]
      rw [e23, upV_ne (by decide)]
      rw [e22, upV_ne (by decide)]
      rw [e21, upV_ne (by decide)]
      rw [e20, upV_ne (by decide)]
      rw [e19, upW_ne (by decide)]
      rw [e18, upV_ne (by decide)]
      rw [e17, upW_ne (by decide)]
      rw [e16, upV_ne (by decide)]
      rw [e15, upW_ne (by decide)]
      rw [e14, upV_ne (by decide)]
      rw [e13, upW_ne (by decide)]
      rw [e12, upV_ne (by decide)]
      rw [e11, upW_ne (by decide)]
      rw [e10, upV_ne (by decide)]
      rw [e9, upW_ne (by decide)]
      rw [e8, upV_ne (by decide)]
      rw [e7, upW_s]
      try rfl
    · intro j hj
      rw [e49, upV_ne (by decide)]
      rw [e48, upV_ne (by decide)]
      rw [e47, upV_ne (by decide)]
      rw [e46, upV_ne (by decide)]
      rw [e45, upV_ne (by decide)]
      rw [e44, upV_ne (by decide)]
      rw [e43, upV_ne (by decide)]
      rw [e42, upV_ne (by decide)]
      rw [e41, upV_ne (by decide)]
      rw [e40, upV_ne (by decide)]
      rw [e39, upV_ne (by decide)]
      rw [e38, upV_ne (by decide)]
      rw [e37, upV_ne (by decide)]
      rw [e36, upV_ne (by decide)]
      rw [e35, upV_ne (by decide)]
      rw [e34, upV_ne (by decide)]
      rw [e33, upV_ne (by decide)]
      rw [e32, upV_ne (by decide)]
      rw [e31, upV_ne (by decide)]
      rw [e30, upV_ne (by decide)]
      rw [e29, upV_ne (by decide)]
      rw [e28, upV_ne (by decide)]
      rw [e27, upV_ne (by decide)]
      rw [e26, upV_ne (by decide)]
      rw [e25, upV_ne (by decide)]
      rw [e24, upV_ne (by decide)]
      rw [e23, upV_ne (by decide)]
      rw [e22, upV_ne (by decide)]
      rw [e21, upV_ne (by decide)]
      rw [e20, upV_ne (by decide)]
      rw [e19, upW_ne (by decide)]
      rw [e18, upV_ne (by decide)]
      rw [e17, upW_ne (by decide)]
      rw [e16, upV_ne (by decide)]
      rw [e15, upW_ne (by decide)]
      rw [e14, upV_ne (by decide)]
      rw [e13, upW_ne (by decide)]
      rw [e12, upV_ne (by decide)]
      rw [e11, upW_ne (by decide)]
      rw [e10, upV_ne (by decide)]
      rw [e9, upW_s]
      try rfl
    · intro j hj
      rw [e49, upV_ne (by decide)]
      rw [e48, upV_ne (by decide)]
      rw [e47, upV_ne (by decide)]
      rw [e46, upV_ne (by decide)]
      rw [e45, upV_ne (by decide)]
      rw [e44, upV_ne (by decide)]
      rw [e43, upV_ne (by decide)]
      rw [e42, upV_ne (by decide)]
      rw [e41, upV_ne (by decide)]
      rw [e40, upV_ne (by decide)]
      rw [e39, upV_ne (by decide)]
      rw [e38, upV_ne (by decide)]
      rw [e37, upV_ne (by decide)]
      rw [e36, upV_ne (by decide)]
      rw [e35, upV_ne (by decide)]
      rw [e34, upV_ne (by decide)]
      rw [e33, upV_ne (by decide)]
      rw [e32, upV_ne (by decide)]
      rw [e31, upV_ne (by decide)]
      rw [e30, upV_ne (by decide)]
      rw [e29, upV_ne (by decide)]
      rw [e28, upV_ne (by decide)]
      rw [e27, upV_ne (by decide)]
      rw [e26, upV_ne (by decide)]
      rw [e25, upV_ne (by decide)]
      rw [e24, upV_ne (by decide)]
      rw [e23, upV_ne (by decide)]
      rw [e22, upV_ne (by decide)]
      rw [e21, upV_ne (by decide)]
      rw [e20, upV_ne (by decide)]
      rw [e19, upW_ne (by decide)]
      rw [e18, upV_ne (by decide)]
      rw [e17, upW_ne (by decide)]
      rw [e16, upV_ne (by decide)]
      rw [e15, upW_ne (by decide)]
      rw [e14, upV_ne (by decide)]
      rw [e13, upW_ne (by decide)]
      rw [e12, upV_ne (by decide)]
      rw [e11, upW_s]
      try rfl
    · intro j hj
      rw [e49, upV_ne (by decide)]
      rw [e48, upV_ne (by decide)]
      rw [e47, upV_ne (by decide)]
      rw [e46, upV_ne (by decide)]
      rw [e45, upV_ne (by decide)]
      rw [e44, upV_ne (by decide)]
      rw [e43, upV_ne (by decide)]
      rw [e42, upV_ne (by decide)]
      rw [e41, upV_ne (by decide)]
      rw [e40, upV_ne (by decide)]
      rw [e39, upV_ne (by decide)]
      rw [e38, upV_ne (by decide)]
      rw [e37, upV_ne (by decide)]
      rw [e36, upV_ne (by decide)]
      rw [e35, upV_ne (by decide)]
      rw [e34, upV_ne (by decide)]
      rw [e33, upV_ne (by decide)]
      rw [e32, upV_ne (by decide)]
      rw [e31, upV_ne (by decide)]
      rw [e30, upV_ne (by decide)]
      rw [e29, upV_ne (by decide)]
      rw [e28, upV_ne (by decide)]
      rw [e27, upV_ne (by decide)]
      rw [e26, upV_ne (by decide)]
      rw [e25, upV_ne (by decide)]
      rw [e24, upV_ne (by decide)]
      rw [e23, upV_ne (by decide)]
      rw [e22, upV_ne (by decide)]
      rw [e21, upV_ne (by decide)]
      rw [e20, upV_ne (by decide)]
      rw [e19, upW_ne (by decide)]
      rw [e18, upV_ne (by decide)]
      rw [e17, upW_ne (by decide)]
      rw [e16, upV_ne (by decide)]
      rw [e15, upW_ne (by decide)]
      rw [e14, upV_ne (by decide)]
      rw [e13, upW_s]
      try rfl
    · intro j hj
      rw [e49, upV_ne (by decide)]
      rw [e48, upV_ne (by decide)]
      rw [e47, upV_ne (by decide)]
      rw [e46, upV_ne (by decide)]
      rw [e45, upV_ne (by decide)]
      rw [e44, upV_ne (by decide)]
      rw [e43, upV_ne (by decide)]
      rw [e42, upV_ne (by decide)]
      rw [e41, upV_ne (by decide)]
      rw [e40, upV_ne (by decide)]
      rw [e39, upV_ne (by decide)]
      rw [e38, upV_ne (by decide)]
      rw [e37, upV_ne (by decide)]
      rw [e36, upV_ne (by decide)]
      rw [e35, upV_ne (by decide)]
      rw [e34, upV_ne (by decide)]
      rw [e33, upV_ne (by decide)]
      rw [e32, upV_ne (by decide)]
      rw [e31, upV_ne (by decide)]
      rw [e30, upV_ne (by decide)]
      rw [e29, upV_ne (by decide)]
      rw [e28, upV_ne (by decide)]
      rw [e27, upV_ne (by decide)]
      rw [e26, upV_ne (by decide)]
      rw [e25, upV_ne (by decide)]
      rw [e24, upV_ne (by decide)]
      rw [e23, upV_ne (by decide)]
      rw [e22, upV_ne (by decide)]
      rw [e21, upV_ne (by decide)]
      rw [e20, upV_ne (by decide)]
      rw [e19, upW_ne (by decide)]
      rw [e18, upV_ne (by decide)]
      rw [e17, upW_ne (by decide)]
      rw [e16, upV_ne (by decide)]
      rw [e15, upW_s]
      try rfl
    · intro j hj
      rw [e49, upV_ne (by decide)]
      rw [e48, upV_ne (by decide)]
      rw [e47, upV_ne (by decide)]
      rw [e46, upV_ne (by decide)]
      rw [e45, upV_ne (by decide)]
      rw [e44, upV_ne (by decide)]
      rw [e43, upV_ne (by decide)]
      rw [e42, upV_ne (by decide)]
      rw [e41, upV_ne (by decide)]
      rw [e40, upV_ne (by decide)]
      rw [e39, upV_ne (by decide)]
      rw [e38, upV_ne (by decide)]
      rw [e37, upV_ne (by decide)]
      rw [e36, upV_ne (by decide)]
      rw [e35, upV_ne (by decide)]
      rw [e34, upV_ne (by decide)]
      rw [e33, upV_ne (by decide)]
      rw [e32, upV_ne (by decide)]
      rw [e31, upV_ne (by decide)]
      rw [e30, upV_ne (by decide)]
      rw [e29, upV_ne (by decide)]
      rw [e28, upV_ne (by decide)]
      rw [e27, upV_ne (by decide)]
      rw [e26, upV_ne (by decide)]
      rw [e25, upV_ne (by decide)]
      rw [e24, upV_ne (by decide)]
      rw [e23, upV_ne (by decide)]
      rw [e22, upV_ne (by decide)]
      rw [e21, upV_ne (by decide)]
      rw [e20, upV_ne (by decide)]
      rw [e19, upW_ne (by decide)]
      rw [e18, upV_ne (by decide)]
      rw [e17, upW_s]
      try rfl
    · intro j hj
      rw [e49, upV_ne (by decide)]
      rw [e48, upV_ne (by decide)]
      rw [e47, upV_ne (by decide)]
      rw [e46, upV_ne (by decide)]
      rw [e45, upV_ne (by decide)]
      rw [e44, upV_ne (by decide)]
      rw [e43, upV_ne (by decide)]
      rw [e42, upV_ne (by decide)]
      rw [e41, upV_ne (by decide)]
      rw [e40, upV_ne (by decide)]
      rw [e39, upV_ne (by decide)]
      rw [e38, upV_ne (by decide)]
      rw [e37, upV_ne (by decide)]
      rw [e36, upV_ne (by decide)]
      rw [e35, upV_ne (by decide)]
      rw [e34, upV_ne (by decide)]
      rw [e33, upV_ne (by decide)]
      rw [e32, upV_ne (by decide)]
      rw [e31, upV_ne (by decide)]
      rw [e30, upV_ne (by decide)]
      rw [e29, upV_ne (by decide)]
      rw [e28, upV_ne (by decide)]
      rw [e27, upV_ne (by decide)]
      rw [e26, upV_ne (by decide)]
      rw [e25, upV_ne (by decide)]
      rw [e24, upV_ne (by decide)]
      rw [e23, upV_ne (by decide)]
      rw [e22, upV_ne (by decide)]
      rw [e21, upV_ne (by decide)]
      rw [e20, upV_ne (by decide)]
      rw [e19, upW_s]
      try rfl
  · skip
    rw [e49, upV_ne (by omega)]
    rw [e48, upV_ne (by omega)]
    rw [e47, upV_ne (by omega)]
    rw [e46, upV_ne (by omega)]
    rw [e45, upV_ne (by omega)]
    rw [e44, upV_ne (by omega)]
    rw [e43, upV_ne (by omega)]
    rw [e42, upV_ne (by omega)]
    rw [e41, upV_ne (by omega)]
    rw [e40, upV_ne (by omega)]
    rw [e39, upV_ne (by omega)]
    rw [e38, upV_ne (by omega)]
    rw [e37, upV_ne (by omega)]
    rw [e36, upV_ne (by omega)]
    rw [e35, upV_ne (by omega)]
    rw [e34, upV_ne (by omega)]
    rw [e33, upV_ne (by omega)]
    rw [e32, upV_ne (by omega)]
    rw [e31, upV_ne (by omega)]
    rw [e30, upV_ne (by omega)]
    rw [e29, upV_ne (by omega)]
    rw [e28, upV_ne (by omega)]
    rw [e27, upV_ne (by omega)]
    rw [e26, upV_ne (by omega)]
    rw [e25, upV_ne (by omega)]
    rw [e24, upV_ne (by omega)]
    rw [e23, upV_ne (by omega)]
    rw [e22, upV_ne (by omega)]
    rw [e21, upV_ne (by omega)]
    rw [e20, upV_ne (by omega)]
    rw [e19, upW_ne (by omega)]
    rw [e18, upV_ne (by omega)]
    rw [e17, upW_ne (by omega)]
    rw [e16, upV_ne (by omega)]
    rw [e15, upW_ne (by omega)]
    rw [e14, upV_ne (by omega)]
    rw [e13, upW_ne (by omega)]
    rw [e12, upV_ne (by omega)]
    rw [e11, upW_ne (by omega)]
    rw [e10, upV_ne (by omega)]
    rw [e9, upW_ne (by omega)]
    rw [e8, upV_ne (by omega)]
    rw [e7, upW_ne (by omega)]
    rw [e6, upV_ne (by omega)]
    rw [e5, upW_ne (by omega)]
    rw [e4, upV_ne (by omega)]
    rw [e3, upW_ne (by omega)]
    rw [e2, upV_ne (by omega)]
    rw [e1, upW_ne (by omega)]
