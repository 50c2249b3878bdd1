def m_X2_isLetter : x_M := (yX2_isLetter, prog_4_method_11_code, 1, (some FieldType.boolean), 0, 0)
theorem v_X2_isLetter : x_VM m_X2_isLetter 1 := ⟨q493, q4, by decide +kernel, by decide +kernel, by decide +kernel⟩
theorem d_X2_isLetter_0 : x_dec m_X2_isLetter 0 (.iload_n 0) 1 1 := ⟨by decide +kernel, rfl⟩
theorem d_X2_isLetter_1 : x_dec m_X2_isLetter 1 (.bipush 97) 2 3 := ⟨by decide +kernel, rfl⟩
theorem d_X2_isLetter_3 : x_dec m_X2_isLetter 3 (.if_icmp .lt 13) 3 6 := ⟨by decide +kernel, rfl⟩
theorem d_X2_isLetter_6 : x_dec m_X2_isLetter 6 (.iload_n 0) 1 7 := ⟨by decide +kernel, rfl⟩
theorem d_X2_isLetter_7 : x_dec m_X2_isLetter 7 (.bipush 122) 2 9 := ⟨by decide +kernel, rfl⟩
theorem d_X2_isLetter_9 : x_dec m_X2_isLetter 9 (.if_icmp .gt 7) 3 12 := ⟨by decide +kernel, rfl⟩
theorem d_X2_isLetter_12 : x_dec m_X2_isLetter 12 (.iconst 1) 1 13 := ⟨by decide +kernel, rfl⟩
theorem d_X2_isLetter_13 : x_dec m_X2_isLetter 13 (.goto 4) 3 16 := ⟨by decide +kernel, rfl⟩
theorem d_X2_isLetter_16 : x_dec m_X2_isLetter 16 (.iconst 0) 1 17 := ⟨by decide +kernel, rfl⟩
theorem d_X2_isLetter_17 : x_dec m_X2_isLetter 17 (.ireturn) 1 18 := ⟨by decide +kernel, rfl⟩
set_option maxHeartbeats 4000000 in
set_option maxRecDepth 100000 in
theorem c_X2_isLetter (l : Launch) (E : x_E) (μ : x_Mem) (k : Int32) : x_Met l m_X2_isLetter E [.int k] μ (x_I (fun z m => z = x_b (inR k 97 122) ∧ m = μ)) := by
  refine x_enter (lv := [(0, .int k)]) (by decide +kernel) (Nat.le_of_ble_eq_true rfl) rfl ?_
  refine x_iload_n 0 d_X2_isLetter_0 rfl rfl ?_
  refine x_bipush (x := 97) d_X2_isLetter_1 (by decide) ?_
  refine x_icmp_lt 16 d_X2_isLetter_3 (by decide) (fun c1 => ?_) (fun c1 => ?_)
  · skip
    refine x_iconst (x := 0) d_X2_isLetter_16 (by decide) ?_
    refine x_zret0 rfl d_X2_isLetter_17 ?_
    exact ⟨congrArg x_b (inR_w1 c1).symm, rfl⟩
  · skip
    refine x_iload_n 0 d_X2_isLetter_6 rfl rfl ?_
    refine x_bipush (x := 122) d_X2_isLetter_7 (by decide) ?_
    refine x_icmp_gt 16 d_X2_isLetter_9 (by decide) (fun c2 => ?_) (fun c2 => ?_)
    · skip
      refine x_iconst (x := 0) d_X2_isLetter_16 (by decide) ?_
      refine x_zret0 rfl d_X2_isLetter_17 ?_
      exact ⟨congrArg x_b (inR_w2 c2).symm, rfl⟩
    · skip
      refine x_iconst (x := 1) d_X2_isLetter_12 (by decide) ?_
      refine x_goto 17 d_X2_isLetter_13 (by decide) ?_
      refine x_zret1 rfl d_X2_isLetter_17 ?_
      exact ⟨congrArg x_b (inR_w3 c1 c2).symm, rfl⟩
def m_X2_isDigit : x_M := (yX2_isDigit, prog_4_method_12_code, 1, (some FieldType.boolean), 0, 0)
theorem v_X2_isDigit : x_VM m_X2_isDigit 1 := ⟨q496, q4, by decide +kernel, by decide +kernel, by decide +kernel⟩
theorem d_X2_isDigit_0 : x_dec m_X2_isDigit 0 (.iload_n 0) 1 1 := ⟨by decide +kernel, rfl⟩
theorem d_X2_isDigit_1 : x_dec m_X2_isDigit 1 (.bipush 48) 2 3 := ⟨by decide +kernel, rfl⟩
theorem d_X2_isDigit_3 : x_dec m_X2_isDigit 3 (.if_icmp .lt 13) 3 6 := ⟨by decide +kernel, rfl⟩
theorem d_X2_isDigit_6 : x_dec m_X2_isDigit 6 (.iload_n 0) 1 7 := ⟨by decide +kernel, rfl⟩
theorem d_X2_isDigit_7 : x_dec m_X2_isDigit 7 (.bipush 57) 2 9 := ⟨by decide +kernel, rfl⟩
theorem d_X2_isDigit_9 : x_dec m_X2_isDigit 9 (.if_icmp .gt 7) 3 12 := ⟨by decide +kernel, rfl⟩
theorem d_X2_isDigit_12 : x_dec m_X2_isDigit 12 (.iconst 1) 1 13 := ⟨by decide +kernel, rfl⟩
theorem d_X2_isDigit_13 : x_dec m_X2_isDigit 13 (.goto 4) 3 16 := ⟨by decide +kernel, rfl⟩
theorem d_X2_isDigit_16 : x_dec m_X2_isDigit 16 (.iconst 0) 1 17 := ⟨by decide +kernel, rfl⟩
theorem d_X2_isDigit_17 : x_dec m_X2_isDigit 17 (.ireturn) 1 18 := ⟨by decide +kernel, rfl⟩
set_option maxHeartbeats 4000000 in
set_option maxRecDepth 100000 in
theorem c_X2_isDigit (l : Launch) (E : x_E) (μ : x_Mem) (k : Int32) : x_Met l m_X2_isDigit E [.int k] μ (x_I (fun z m => z = x_b (inR k 48 57) ∧ m = μ)) := by
  refine x_enter (lv := [(0, .int k)]) (by decide +kernel) (Nat.le_of_ble_eq_true rfl) rfl ?_
  refine x_iload_n 0 d_X2_isDigit_0 rfl rfl ?_
  refine x_bipush (x := 48) d_X2_isDigit_1 (by decide) ?_
  refine x_icmp_lt 16 d_X2_isDigit_3 (by decide) (fun c1 => ?_) (fun c1 => ?_)
  · skip
    refine x_iconst (x := 0) d_X2_isDigit_16 (by decide) ?_
    refine x_zret0 rfl d_X2_isDigit_17 ?_
    exact ⟨congrArg x_b (inR_w1 c1).symm, rfl⟩
  · skip
    refine x_iload_n 0 d_X2_isDigit_6 rfl rfl ?_
    refine x_bipush (x := 57) d_X2_isDigit_7 (by decide) ?_
    refine x_icmp_gt 16 d_X2_isDigit_9 (by decide) (fun c2 => ?_) (fun c2 => ?_)
    · skip
      refine x_iconst (x := 0) d_X2_isDigit_16 (by decide) ?_
      refine x_zret0 rfl d_X2_isDigit_17 ?_
      exact ⟨congrArg x_b (inR_w2 c2).symm, rfl⟩
    · skip
      refine x_iconst (x := 1) d_X2_isDigit_12 (by decide) ?_
      refine x_goto 17 d_X2_isDigit_13 (by decide) ?_
      refine x_zret1 rfl d_X2_isDigit_17 ?_
      exact ⟨congrArg x_b (inR_w3 c1 c2).symm, rfl⟩
def m_X2_advance : x_M := (yX2_advance, prog_4_method_10_code, 2, none, 1, 26)
theorem v_X2_advance : x_VM m_X2_advance 0 := ⟨q490, q4, by decide +kernel, by decide +kernel, by decide +kernel⟩
theorem w_X2_advance : x_VI m_X2_advance := ⟨q489, qs13⟩
theorem d_X2_advance_0 : x_dec m_X2_advance 0 (.aload_n 0) 1 1 := ⟨by decide +kernel, rfl⟩
theorem d_X2_advance_1 : x_dec m_X2_advance 1 (.getfield 25) 3 4 := ⟨by decide +kernel, rfl⟩
theorem d_X2_advance_4 : x_dec m_X2_advance 4 (.istore_n 1) 1 5 := ⟨by decide +kernel, rfl⟩
theorem d_X2_advance_5 : x_dec m_X2_advance 5 (.iload_n 1) 1 6 := ⟨by decide +kernel, rfl⟩
theorem d_X2_advance_6 : x_dec m_X2_advance 6 (.aload_n 0) 1 7 := ⟨by decide +kernel, rfl⟩
theorem d_X2_advance_7 : x_dec m_X2_advance 7 (.getfield 15) 3 10 := ⟨by decide +kernel, rfl⟩
theorem d_X2_advance_10 : x_dec m_X2_advance 10 (.if_icmp .ge 20) 3 13 := ⟨by decide +kernel, rfl⟩
theorem d_X2_advance_13 : x_dec m_X2_advance 13 (.aload_n 0) 1 14 := ⟨by decide +kernel, rfl⟩
theorem d_X2_advance_14 : x_dec m_X2_advance 14 (.getfield 9) 3 17 := ⟨by decide +kernel, rfl⟩
theorem d_X2_advance_17 : x_dec m_X2_advance 17 (.iload_n 1) 1 18 := ⟨by decide +kernel, rfl⟩
theorem d_X2_advance_18 : x_dec m_X2_advance 18 (.baload) 1 19 := ⟨by decide +kernel, rfl⟩
theorem d_X2_advance_19 : x_dec m_X2_advance 19 (.bipush 32) 2 21 := ⟨by decide +kernel, rfl⟩
theorem d_X2_advance_21 : x_dec m_X2_advance 21 (.if_icmp .ne 9) 3 24 := ⟨by decide +kernel, rfl⟩
theorem d_X2_advance_24 : x_dec m_X2_advance 24 (.iinc 1 1) 3 27 := ⟨by decide +kernel, rfl⟩
theorem d_X2_advance_27 : x_dec m_X2_advance 27 (.goto (-22)) 3 30 := ⟨by decide +kernel, rfl⟩
theorem d_X2_advance_30 : x_dec m_X2_advance 30 (.aload_n 0) 1 31 := ⟨by decide +kernel, rfl⟩
theorem d_X2_advance_31 : x_dec m_X2_advance 31 (.iload_n 1) 1 32 := ⟨by decide +kernel, rfl⟩
theorem d_X2_advance_32 : x_dec m_X2_advance 32 (.putfield 22) 3 35 := ⟨by decide +kernel, rfl⟩
theorem d_X2_advance_35 : x_dec m_X2_advance 35 (.iload_n 1) 1 36 := ⟨by decide +kernel, rfl⟩
theorem d_X2_advance_36 : x_dec m_X2_advance 36 (.aload_n 0) 1 37 := ⟨by decide +kernel, rfl⟩
theorem d_X2_advance_37 : x_dec m_X2_advance 37 (.getfield 15) 3 40 := ⟨by decide +kernel, rfl⟩
theorem d_X2_advance_40 : x_dec m_X2_advance 40 (.if_icmp .lt 11) 3 43 := ⟨by decide +kernel, rfl⟩
theorem d_X2_advance_43 : x_dec m_X2_advance 43 (.aload_n 0) 1 44 := ⟨by decide +kernel, rfl⟩
theorem d_X2_advance_44 : x_dec m_X2_advance 44 (.iconst 0) 1 45 := ⟨by decide +kernel, rfl⟩
theorem d_X2_advance_45 : x_dec m_X2_advance 45 (.putfield 19) 3 48 := ⟨by decide +kernel, rfl⟩
theorem d_X2_advance_48 : x_dec m_X2_advance 48 (.goto 144) 3 51 := ⟨by decide +kernel, rfl⟩
theorem d_X2_advance_51 : x_dec m_X2_advance 51 (.aload_n 0) 1 52 := ⟨by decide +kernel, rfl⟩
theorem d_X2_advance_52 : x_dec m_X2_advance 52 (.getfield 9) 3 55 := ⟨by decide +kernel, rfl⟩
theorem d_X2_advance_55 : x_dec m_X2_advance 55 (.iload_n 1) 1 56 := ⟨by decide +kernel, rfl⟩
theorem d_X2_advance_56 : x_dec m_X2_advance 56 (.baload) 1 57 := ⟨by decide +kernel, rfl⟩
theorem d_X2_advance_57 : x_dec m_X2_advance 57 (.invokestatic 116) 3 60 := ⟨by decide +kernel, rfl⟩
theorem d_X2_advance_60 : x_dec m_X2_advance 60 (.ifCond .eq 34) 3 63 := ⟨by decide +kernel, rfl⟩
theorem d_X2_advance_63 : x_dec m_X2_advance 63 (.aload_n 0) 1 64 := ⟨by decide +kernel, rfl⟩
theorem d_X2_advance_64 : x_dec m_X2_advance 64 (.iconst 1) 1 65 := ⟨by decide +kernel, rfl⟩
theorem d_X2_advance_65 : x_dec m_X2_advance 65 (.putfield 19) 3 68 := ⟨by decide +kernel, rfl⟩
theorem d_X2_advance_68 : x_dec m_X2_advance 68 (.iload_n 1) 1 69 := ⟨by decide +kernel, rfl⟩
theorem d_X2_advance_69 : x_dec m_X2_advance 69 (.aload_n 0) 1 70 := ⟨by decide +kernel, rfl⟩
theorem d_X2_advance_70 : x_dec m_X2_advance 70 (.getfield 15) 3 73 := ⟨by decide +kernel, rfl⟩
theorem d_X2_advance_73 : x_dec m_X2_advance 73 (.if_icmp .ge 119) 3 76 := ⟨by decide +kernel, rfl⟩
theorem d_X2_advance_76 : x_dec m_X2_advance 76 (.aload_n 0) 1 77 := ⟨by decide +kernel, rfl⟩
theorem d_X2_advance_77 : x_dec m_X2_advance 77 (.getfield 9) 3 80 := ⟨by decide +kernel, rfl⟩
theorem d_X2_advance_80 : x_dec m_X2_advance 80 (.iload_n 1) 1 81 := ⟨by decide +kernel, rfl⟩
theorem d_X2_advance_81 : x_dec m_X2_advance 81 (.baload) 1 82 := ⟨by decide +kernel, rfl⟩
theorem d_X2_advance_82 : x_dec m_X2_advance 82 (.invokestatic 116) 3 85 := ⟨by decide +kernel, rfl⟩
theorem d_X2_advance_85 : x_dec m_X2_advance 85 (.ifCond .eq 107) 3 88 := ⟨by decide +kernel, rfl⟩
theorem d_X2_advance_88 : x_dec m_X2_advance 88 (.iinc 1 1) 3 91 := ⟨by decide +kernel, rfl⟩
theorem d_X2_advance_91 : x_dec m_X2_advance 91 (.goto (-23)) 3 94 := ⟨by decide +kernel, rfl⟩
theorem d_X2_advance_94 : x_dec m_X2_advance 94 (.aload_n 0) 1 95 := ⟨by decide +kernel, rfl⟩
theorem d_X2_advance_95 : x_dec m_X2_advance 95 (.getfield 9) 3 98 := ⟨by decide +kernel, rfl⟩
theorem d_X2_advance_98 : x_dec m_X2_advance 98 (.iload_n 1) 1 99 := ⟨by decide +kernel, rfl⟩
theorem d_X2_advance_99 : x_dec m_X2_advance 99 (.baload) 1 100 := ⟨by decide +kernel, rfl⟩
theorem d_X2_advance_100 : x_dec m_X2_advance 100 (.invokestatic 119) 3 103 := ⟨by decide +kernel, rfl⟩
theorem d_X2_advance_103 : x_dec m_X2_advance 103 (.ifCond .eq 66) 3 106 := ⟨by decide +kernel, rfl⟩
theorem d_X2_advance_106 : x_dec m_X2_advance 106 (.aload_n 0) 1 107 := ⟨by decide +kernel, rfl⟩
theorem d_X2_advance_107 : x_dec m_X2_advance 107 (.iconst 2) 1 108 := ⟨by decide +kernel, rfl⟩
theorem d_X2_advance_108 : x_dec m_X2_advance 108 (.putfield 19) 3 111 := ⟨by decide +kernel, rfl⟩
theorem d_X2_advance_111 : x_dec m_X2_advance 111 (.aload_n 0) 1 112 := ⟨by decide +kernel, rfl⟩
theorem d_X2_advance_112 : x_dec m_X2_advance 112 (.iconst 0) 1 113 := ⟨by decide +kernel, rfl⟩
theorem d_X2_advance_113 : x_dec m_X2_advance 113 (.putfield 28) 3 116 := ⟨by decide +kernel, rfl⟩
theorem d_X2_advance_116 : x_dec m_X2_advance 116 (.iload_n 1) 1 117 := ⟨by decide +kernel, rfl⟩
theorem d_X2_advance_117 : x_dec m_X2_advance 117 (.aload_n 0) 1 118 := ⟨by decide +kernel, rfl⟩
theorem d_X2_advance_118 : x_dec m_X2_advance 118 (.getfield 15) 3 121 := ⟨by decide +kernel, rfl⟩
theorem d_X2_advance_121 : x_dec m_X2_advance 121 (.if_icmp .ge 71) 3 124 := ⟨by decide +kernel, rfl⟩
theorem d_X2_advance_124 : x_dec m_X2_advance 124 (.aload_n 0) 1 125 := ⟨by decide +kernel, rfl⟩
theorem d_X2_advance_125 : x_dec m_X2_advance 125 (.getfield 9) 3 128 := ⟨by decide +kernel, rfl⟩
theorem d_X2_advance_128 : x_dec m_X2_advance 128 (.iload_n 1) 1 129 := ⟨by decide +kernel, rfl⟩
theorem d_X2_advance_129 : x_dec m_X2_advance 129 (.baload) 1 130 := ⟨by decide +kernel, rfl⟩
theorem d_X2_advance_130 : x_dec m_X2_advance 130 (.invokestatic 119) 3 133 := ⟨by decide +kernel, rfl⟩
theorem d_X2_advance_133 : x_dec m_X2_advance 133 (.ifCond .eq 59) 3 136 := ⟨by decide +kernel, rfl⟩
theorem d_X2_advance_136 : x_dec m_X2_advance 136 (.aload_n 0) 1 137 := ⟨by decide +kernel, rfl⟩
theorem d_X2_advance_137 : x_dec m_X2_advance 137 (.aload_n 0) 1 138 := ⟨by decide +kernel, rfl⟩
theorem d_X2_advance_138 : x_dec m_X2_advance 138 (.getfield 28) 3 141 := ⟨by decide +kernel, rfl⟩
theorem d_X2_advance_141 : x_dec m_X2_advance 141 (.bipush 10) 2 143 := ⟨by decide +kernel, rfl⟩
theorem d_X2_advance_143 : x_dec m_X2_advance 143 (.imul) 1 144 := ⟨by decide +kernel, rfl⟩
theorem d_X2_advance_144 : x_dec m_X2_advance 144 (.aload_n 0) 1 145 := ⟨by decide +kernel, rfl⟩
theorem d_X2_advance_145 : x_dec m_X2_advance 145 (.getfield 9) 3 148 := ⟨by decide +kernel, rfl⟩
theorem d_X2_advance_148 : x_dec m_X2_advance 148 (.iload_n 1) 1 149 := ⟨by decide +kernel, rfl⟩
theorem d_X2_advance_149 : x_dec m_X2_advance 149 (.baload) 1 150 := ⟨by decide +kernel, rfl⟩
theorem d_X2_advance_150 : x_dec m_X2_advance 150 (.iadd) 1 151 := ⟨by decide +kernel, rfl⟩
theorem d_X2_advance_151 : x_dec m_X2_advance 151 (.bipush 48) 2 153 := ⟨by decide +kernel, rfl⟩
theorem d_X2_advance_153 : x_dec m_X2_advance 153 (.isub) 1 154 := ⟨by decide +kernel, rfl⟩
theorem d_X2_advance_154 : x_dec m_X2_advance 154 (.sipush 1000) 3 157 := ⟨by decide +kernel, rfl⟩
theorem d_X2_advance_157 : x_dec m_X2_advance 157 (.invokestatic 122) 3 160 := ⟨by decide +kernel, rfl⟩
theorem d_X2_advance_160 : x_dec m_X2_advance 160 (.putfield 28) 3 163 := ⟨by decide +kernel, rfl⟩
theorem d_X2_advance_163 : x_dec m_X2_advance 163 (.iinc 1 1) 3 166 := ⟨by decide +kernel, rfl⟩
theorem d_X2_advance_166 : x_dec m_X2_advance 166 (.goto (-50)) 3 169 := ⟨by decide +kernel, rfl⟩
theorem d_X2_advance_169 : x_dec m_X2_advance 169 (.aload_n 0) 1 170 := ⟨by decide +kernel, rfl⟩
theorem d_X2_advance_170 : x_dec m_X2_advance 170 (.aload_n 0) 1 171 := ⟨by decide +kernel, rfl⟩
theorem d_X2_advance_171 : x_dec m_X2_advance 171 (.getfield 9) 3 174 := ⟨by decide +kernel, rfl⟩
theorem d_X2_advance_174 : x_dec m_X2_advance 174 (.iload_n 1) 1 175 := ⟨by decide +kernel, rfl⟩
theorem d_X2_advance_175 : x_dec m_X2_advance 175 (.baload) 1 176 := ⟨by decide +kernel, rfl⟩
theorem d_X2_advance_176 : x_dec m_X2_advance 176 (.bipush 59) 2 178 := ⟨by decide +kernel, rfl⟩
theorem d_X2_advance_178 : x_dec m_X2_advance 178 (.if_icmp .ne 7) 3 181 := ⟨by decide +kernel, rfl⟩
theorem d_X2_advance_181 : x_dec m_X2_advance 181 (.iconst 3) 1 182 := ⟨by decide +kernel, rfl⟩
theorem d_X2_advance_182 : x_dec m_X2_advance 182 (.goto 4) 3 185 := ⟨by decide +kernel, rfl⟩
theorem d_X2_advance_185 : x_dec m_X2_advance 185 (.iconst 4) 1 186 := ⟨by decide +kernel, rfl⟩
theorem d_X2_advance_186 : x_dec m_X2_advance 186 (.putfield 19) 3 189 := ⟨by decide +kernel, rfl⟩
theorem d_X2_advance_189 : x_dec m_X2_advance 189 (.iinc 1 1) 3 192 := ⟨by decide +kernel, rfl⟩
theorem d_X2_advance_192 : x_dec m_X2_advance 192 (.aload_n 0) 1 193 := ⟨by decide +kernel, rfl⟩
theorem d_X2_advance_193 : x_dec m_X2_advance 193 (.iload_n 1) 1 194 := ⟨by decide +kernel, rfl⟩
theorem d_X2_advance_194 : x_dec m_X2_advance 194 (.putfield 25) 3 197 := ⟨by decide +kernel, rfl⟩
theorem d_X2_advance_197 : x_dec m_X2_advance 197 (.return_) 1 198 := ⟨by decide +kernel, rfl⟩
set_option maxHeartbeats 4000000 in
set_option maxRecDepth 100000 in
theorem c_X2_advance (l : Launch) (E : x_E) (μ : x_Mem) {S : Nat → Int32} {n p : Nat} (hn : n ≤ 120) (hW : TW S n μ) (hp : p ≤ n) (h4 : μ 28 4 = nI p) : x_Met l m_X2_advance E [.ref (E.1 + 28)] μ (x_J (fun m => TK (tokAt S n p) m ∧ m 28 1 = nI n ∧ ∀ id, id ≠ 28 → m id = μ id)) := by
  have hF : ∀ id, id ≠ 28 → μ id = μ id := fun _ _ => rfl
  have hl0 := hW.1
  refine x_enter (lv := [(0, .ref (E.1 + 28))]) (by decide +kernel) (Nat.le_of_ble_eq_true rfl) rfl ?_
  refine x_aload_n 0 d_X2_advance_0 rfl rfl ?_
  refine x_getiV (j := 4) (z := nI p) x_c2 rfl (Nat.le_of_ble_eq_true rfl) q111 rfl h4 d_X2_advance_1 ?_
  refine x_istore_n [(1, .int (nI p)), (0, .ref (E.1 + 28))] d_X2_advance_4 rfl (Nat.le_of_ble_eq_true rfl) rfl ?_
  have L1 : ∀ q : Nat, q ≤ n → (p ≤ q) → (∀ j, p ≤ j → j < q → (!decide (S j = 32)) = false) → x_G l E m_X2_advance (x_mv E m_X2_advance (x_J (fun m => TK (tokAt S n p) m ∧ m 28 1 = nI n ∧ ∀ id, id ≠ 28 → m id = μ id))) μ 5 [(1, .int (nI q)), (0, .ref (E.1 + 28))] [] := by
    refine x_down _ n (fun q hi3 ih2 => ?_)
    intro hpq hq
    refine x_iload_n 0 d_X2_advance_5 rfl rfl ?_
    refine x_aload_n 1 d_X2_advance_6 rfl rfl ?_
    refine x_getiV (j := 1) (z := nI n) x_c2 rfl (Nat.le_of_ble_eq_true rfl) q107 rfl hl0 d_X2_advance_7 ?_
    refine x_icmp_ge 30 d_X2_advance_10 (by decide) (fun c4 => ?_) (fun c4 => ?_)
    · skip
      have hN := x_ge (N := n) c4 rfl rfl (by omega) (by omega)
      refine x_aload_n 1 d_X2_advance_30 rfl rfl ?_
      refine x_iload_n 0 d_X2_advance_31 rfl rfl ?_
      refine x_putiG (j := 3) x_c2 rfl (Nat.le_of_ble_eq_true rfl) q110 rfl rfl rfl d_X2_advance_32 (fun μ5 eμ5 => ?_)
      have hf6 : μ5 28 1 = nI n := by rw [eμ5, upd2_at, upd_n _ _ (by decide)]; exact hl0
      have hf7 : μ5 28 4 = nI p := by rw [eμ5, upd2_at, upd_n _ _ (by decide)]; exact h4
      have hf8 : μ5 28 3 = nI q := by rw [eμ5, upd2_at, upd_s]
      have hF9 : ∀ id, id ≠ 28 → μ5 id = μ id := fun id hid => (show μ5 id = μ id from (by rw [eμ5, upd2_ne _ _ _ (by omega)])).trans (hF id hid)
      refine x_iload_n 0 d_X2_advance_35 rfl rfl ?_
      refine x_aload_n 1 d_X2_advance_36 rfl rfl ?_
      refine x_getiV (j := 1) (z := nI n) x_c2 rfl (Nat.le_of_ble_eq_true rfl) q107 rfl hf6 d_X2_advance_37 ?_
      refine x_icmp_lt 51 d_X2_advance_40 (by decide) (fun c10 => ?_) (fun c10 => ?_)
      · skip
        have hNq := x_lt (N := n) (Int32.not_le.mpr c10) rfl rfl (by omega) (by omega)
        refine x_aload_n 1 d_X2_advance_51 rfl rfl ?_
        refine x_getr (j := 0) 29 x_c2 rfl (Nat.le_of_ble_eq_true rfl) q106 rfl d_X2_advance_52 ?_
        refine x_iload_n 0 d_X2_advance_55 rfl rfl ?_
        refine x_baldN (z := S q) 120 q rfl rfl (by omega) (by decide) ((congrFun (hF9 29 (by omega)) q).trans (hW.2 q (by omega))) d_X2_advance_56 ?_
        refine x_csip (as := [.int (S q)]) (c_X2_isLetter l E μ5 (S q)) v_X2_isLetter q492 q491 rfl ⟨Nat.le_of_ble_eq_true rfl, Nat.le_of_ble_eq_true rfl⟩ rfl (Nat.le_of_ble_eq_true rfl) d_X2_advance_57 ?_
        refine x_ifb_eq 94 d_X2_advance_60 (by decide) (fun c11 => ?_) (fun c11 => ?_)
        · skip
          refine x_aload_n 1 d_X2_advance_94 rfl rfl ?_
          refine x_getr (j := 0) 29 x_c2 rfl (Nat.le_of_ble_eq_true rfl) q106 rfl d_X2_advance_95 ?_
          refine x_iload_n 0 d_X2_advance_98 rfl rfl ?_
          refine x_baldN (z := S q) 120 q rfl rfl (by omega) (by decide) ((congrFun (hF9 29 (by omega)) q).trans (hW.2 q (by omega))) d_X2_advance_99 ?_
          refine x_csip (as := [.int (S q)]) (c_X2_isDigit l E μ5 (S q)) v_X2_isDigit q495 q494 rfl ⟨Nat.le_of_ble_eq_true rfl, Nat.le_of_ble_eq_true rfl⟩ rfl (Nat.le_of_ble_eq_true rfl) d_X2_advance_100 ?_
          refine x_ifb_eq 169 d_X2_advance_103 (by decide) (fun c12 => ?_) (fun c12 => ?_)
          · skip
            refine x_aload_n 1 d_X2_advance_169 rfl rfl ?_
            refine x_aload_n 1 d_X2_advance_170 rfl rfl ?_
            refine x_getr (j := 0) 29 x_c2 rfl (Nat.le_of_ble_eq_true rfl) q106 rfl d_X2_advance_171 ?_
            refine x_iload_n 0 d_X2_advance_174 rfl rfl ?_
            refine x_baldN (z := S q) 120 q rfl rfl (by omega) (by decide) ((congrFun (hF9 29 (by omega)) q).trans (hW.2 q (by omega))) d_X2_advance_175 ?_
            refine x_bipush (x := 59) d_X2_advance_176 (by decide) ?_
            refine x_icmp_ne 185 d_X2_advance_178 (by decide) (fun c13 => ?_) (fun c13 => ?_)
            · skip
              refine x_iconst (x := 4) d_X2_advance_185 (by decide) ?_
              refine x_putiG (j := 2) x_c2 rfl (Nat.le_of_ble_eq_true rfl) q109 rfl rfl rfl d_X2_advance_186 (fun μ14 eμ14 => ?_)
              have hf15 : μ14 28 1 = nI n := by rw [eμ14, upd2_at, upd_n _ _ (by decide)]; exact hf6
              have hf16 : μ14 28 4 = nI p := by rw [eμ14, upd2_at, upd_n _ _ (by decide)]; exact hf7
              have hf17 : μ14 28 3 = nI q := by rw [eμ14, upd2_at, upd_n _ _ (by decide)]; exact hf8
              have hf18 : μ14 28 2 = 4 := by rw [eμ14, upd2_at, upd_s]
              have hF19 : ∀ id, id ≠ 28 → μ14 id = μ id := fun id hid => (show μ14 id = μ5 id from (by rw [eμ14, upd2_ne _ _ _ (by omega)])).trans (hF9 id hid)
              refine x_iinc [(1, .int (nI (q + 1))), (0, .ref (E.1 + 28))] 0 d_X2_advance_189 rfl (x_inc _) (Nat.le_of_ble_eq_true rfl) rfl ?_
              refine x_aload_n 1 d_X2_advance_192 rfl rfl ?_
              refine x_iload_n 0 d_X2_advance_193 rfl rfl ?_
              refine x_putiG (j := 4) x_c2 rfl (Nat.le_of_ble_eq_true rfl) q111 rfl rfl rfl d_X2_advance_194 (fun μ20 eμ20 => ?_)
              have hf21 : μ20 28 1 = nI n := by rw [eμ20, upd2_at, upd_n _ _ (by decide)]; exact hf15
              have hf22 : μ20 28 3 = nI q := by rw [eμ20, upd2_at, upd_n _ _ (by decide)]; exact hf17
              have hf23 : μ20 28 2 = 4 := by rw [eμ20, upd2_at, upd_n _ _ (by decide)]; exact hf18
              have hf24 : μ20 28 4 = nI (q + 1) := by rw [eμ20, upd2_at, upd_s]
              have hF25 : ∀ id, id ≠ 28 → μ20 id = μ id := fun id hid => (show μ20 id = μ14 id from (by rw [eμ20, upd2_ne _ _ _ (by omega)])).trans (hF19 id hid)
              refine x_vret rfl d_X2_advance_197 ?_
              have hsp : spE S n p = q := run_end (f := fun q => !decide (S q = 32)) hpq (by omega) hq (Or.inl hN)
              rw [tok_oth hsp hNq c11 c12]
              exact ⟨⟨hf22, hf24, (by rw [show tkC (q, q + 1, if S q = 59 then 21 else 23, 0) = 23 from if_neg c13]; exact hf23), (fun z => absurd z (by show ¬ (if S q = 59 then 21 else 23) = 20; split <;> decide))⟩, hf21, hF25⟩
            · skip
              refine x_iconst (x := 3) d_X2_advance_181 (by decide) ?_
              refine x_goto 186 d_X2_advance_182 (by decide) ?_
              refine x_putiG (j := 2) x_c2 rfl (Nat.le_of_ble_eq_true rfl) q109 rfl rfl rfl d_X2_advance_186 (fun μ26 eμ26 => ?_)
              have hf27 : μ26 28 1 = nI n := by rw [eμ26, upd2_at, upd_n _ _ (by decide)]; exact hf6
              have hf28 : μ26 28 4 = nI p := by rw [eμ26, upd2_at, upd_n _ _ (by decide)]; exact hf7
              have hf29 : μ26 28 3 = nI q := by rw [eμ26, upd2_at, upd_n _ _ (by decide)]; exact hf8
              have hf30 : μ26 28 2 = 3 := by rw [eμ26, upd2_at, upd_s]
              have hF31 : ∀ id, id ≠ 28 → μ26 id = μ id := fun id hid => (show μ26 id = μ5 id from (by rw [eμ26, upd2_ne _ _ _ (by omega)])).trans (hF9 id hid)
              refine x_iinc [(1, .int (nI (q + 1))), (0, .ref (E.1 + 28))] 0 d_X2_advance_189 rfl (x_inc _) (Nat.le_of_ble_eq_true rfl) rfl ?_
              refine x_aload_n 1 d_X2_advance_192 rfl rfl ?_
              refine x_iload_n 0 d_X2_advance_193 rfl rfl ?_
              refine x_putiG (j := 4) x_c2 rfl (Nat.le_of_ble_eq_true rfl) q111 rfl rfl rfl d_X2_advance_194 (fun μ32 eμ32 => ?_)
              have hf33 : μ32 28 1 = nI n := by rw [eμ32, upd2_at, upd_n _ _ (by decide)]; exact hf27
              have hf34 : μ32 28 3 = nI q := by rw [eμ32, upd2_at, upd_n _ _ (by decide)]; exact hf29
              have hf35 : μ32 28 2 = 3 := by rw [eμ32, upd2_at, upd_n _ _ (by decide)]; exact hf30
              have hf36 : μ32 28 4 = nI (q + 1) := by rw [eμ32, upd2_at, upd_s]
              have hF37 : ∀ id, id ≠ 28 → μ32 id = μ id := fun id hid => (show μ32 id = μ26 id from (by rw [eμ32, upd2_ne _ _ _ (by omega)])).trans (hF31 id hid)
              refine x_vret rfl d_X2_advance_197 ?_
              have hsp : spE S n p = q := run_end (f := fun q => !decide (S q = 32)) hpq (by omega) hq (Or.inl hN)
              rw [tok_oth hsp hNq c11 c12]
              exact ⟨⟨hf34, hf36, (by rw [show tkC (q, q + 1, if S q = 59 then 21 else 23, 0) = 21 from if_pos c13]; exact hf35), (fun z => absurd z (by show ¬ (if S q = 59 then 21 else 23) = 20; split <;> decide))⟩, hf33, hF37⟩
          · skip
            refine x_aload_n 1 d_X2_advance_106 rfl rfl ?_
            refine x_iconst (x := 2) d_X2_advance_107 (by decide) ?_
            refine x_putiG (j := 2) x_c2 rfl (Nat.le_of_ble_eq_true rfl) q109 rfl rfl rfl d_X2_advance_108 (fun μ38 eμ38 => ?_)
            have hf39 : μ38 28 1 = nI n := by rw [eμ38, upd2_at, upd_n _ _ (by decide)]; exact hf6
            have hf40 : μ38 28 4 = nI p := by rw [eμ38, upd2_at, upd_n _ _ (by decide)]; exact hf7
            have hf41 : μ38 28 3 = nI q := by rw [eμ38, upd2_at, upd_n _ _ (by decide)]; exact hf8
            have hf42 : μ38 28 2 = 2 := by rw [eμ38, upd2_at, upd_s]
            have hF43 : ∀ id, id ≠ 28 → μ38 id = μ id := fun id hid => (show μ38 id = μ5 id from (by rw [eμ38, upd2_ne _ _ _ (by omega)])).trans (hF9 id hid)
            refine x_aload_n 1 d_X2_advance_111 rfl rfl ?_
            refine x_iconst (x := 0) d_X2_advance_112 (by decide) ?_
            refine x_putiG (j := 5) x_c2 rfl (Nat.le_of_ble_eq_true rfl) q112 rfl rfl rfl d_X2_advance_113 (fun μ44 eμ44 => ?_)
            have hf45 : μ44 28 1 = nI n := by rw [eμ44, upd2_at, upd_n _ _ (by decide)]; exact hf39
            have hf46 : μ44 28 4 = nI p := by rw [eμ44, upd2_at, upd_n _ _ (by decide)]; exact hf40
            have hf47 : μ44 28 3 = nI q := by rw [eμ44, upd2_at, upd_n _ _ (by decide)]; exact hf41
            have hf48 : μ44 28 2 = 2 := by rw [eμ44, upd2_at, upd_n _ _ (by decide)]; exact hf42
            have hf49 : μ44 28 5 = 0 := by rw [eμ44, upd2_at, upd_s]
            have hF50 : ∀ id, id ≠ 28 → μ44 id = μ id := fun id hid => (show μ44 id = μ38 id from (by rw [eμ44, upd2_ne _ _ _ (by omega)])).trans (hF43 id hid)
            have L51 : ∀ r : Nat, r ≤ n → ∀ μ54 : x_Mem, (q ≤ r) → (∀ j, q ≤ j → j < r → (!isDi (S j)) = false) → (μ54 28 1 = nI n) → (μ54 28 2 = 2) → (μ54 28 3 = nI q) → (μ54 28 4 = nI p) → (μ54 28 5 = valTo S q (r - q)) → (∀ id, id ≠ 28 → μ54 id = μ id) → x_G l E m_X2_advance (x_mv E m_X2_advance (x_J (fun m => TK (tokAt S n p) m ∧ m 28 1 = nI n ∧ ∀ id, id ≠ 28 → m id = μ id))) μ54 116 [(1, .int (nI r)), (0, .ref (E.1 + 28))] [] := by
              refine x_down _ n (fun r hi53 ih52 => ?_)
              intro μ54 hqr hq3 hm1 hm2 hm3 hm4 hm5 hF1
              refine x_iload_n 0 d_X2_advance_116 rfl rfl ?_
              refine x_aload_n 1 d_X2_advance_117 rfl rfl ?_
              refine x_getiV (j := 1) (z := nI n) x_c2 rfl (Nat.le_of_ble_eq_true rfl) q107 rfl hm1 d_X2_advance_118 ?_
              refine x_icmp_ge 192 d_X2_advance_121 (by decide) (fun c55 => ?_) (fun c55 => ?_)
              · skip
                have hN3 := x_ge (N := n) c55 rfl rfl (by omega) (by omega)
                refine x_aload_n 1 d_X2_advance_192 rfl rfl ?_
                refine x_iload_n 0 d_X2_advance_193 rfl rfl ?_
                refine x_putiG (j := 4) x_c2 rfl (Nat.le_of_ble_eq_true rfl) q111 rfl rfl rfl d_X2_advance_194 (fun μ56 eμ56 => ?_)
                have hf57 : μ56 28 1 = nI n := by rw [eμ56, upd2_at, upd_n _ _ (by decide)]; exact hm1
                have hf58 : μ56 28 2 = 2 := by rw [eμ56, upd2_at, upd_n _ _ (by decide)]; exact hm2
                have hf59 : μ56 28 3 = nI q := by rw [eμ56, upd2_at, upd_n _ _ (by decide)]; exact hm3
                have hf60 : μ56 28 5 = valTo S q (r - q) := by rw [eμ56, upd2_at, upd_n _ _ (by decide)]; exact hm5
                have hf61 : μ56 28 4 = nI r := by rw [eμ56, upd2_at, upd_s]
                have hF62 : ∀ id, id ≠ 28 → μ56 id = μ id := fun id hid => (show μ56 id = μ54 id from (by rw [eμ56, upd2_ne _ _ _ (by omega)])).trans (hF1 id hid)
                refine x_vret rfl d_X2_advance_197 ?_
                have hsp : spE S n p = q := run_end (f := fun q => !decide (S q = 32)) hpq (by omega) hq (Or.inl hN)
                have hle : diE S n q = r := run_end (f := fun q => !isDi (S q)) hqr (by omega) hq3 (Or.inl hN3)
                rw [tok_num hsp hNq c11 c12 hle]
                exact ⟨⟨hf59, hf61, hf58, (fun _ => hf60)⟩, hf57, hF62⟩
              · skip
                have hN3 := x_lt (N := n) c55 rfl rfl (by omega) (by omega)
                refine x_aload_n 1 d_X2_advance_124 rfl rfl ?_
                refine x_getr (j := 0) 29 x_c2 rfl (Nat.le_of_ble_eq_true rfl) q106 rfl d_X2_advance_125 ?_
                refine x_iload_n 0 d_X2_advance_128 rfl rfl ?_
                refine x_baldN (z := S r) 120 r rfl rfl (by omega) (by decide) ((congrFun (hF1 29 (by omega)) r).trans (hW.2 r (by omega))) d_X2_advance_129 ?_
                refine x_csip (as := [.int (S r)]) (c_X2_isDigit l E μ54 (S r)) v_X2_isDigit q495 q494 rfl ⟨Nat.le_of_ble_eq_true rfl, Nat.le_of_ble_eq_true rfl⟩ rfl (Nat.le_of_ble_eq_true rfl) d_X2_advance_130 ?_
                refine x_ifb_eq 192 d_X2_advance_133 (by decide) (fun c63 => ?_) (fun c63 => ?_)
                · skip
                  refine x_aload_n 1 d_X2_advance_192 rfl rfl ?_
                  refine x_iload_n 0 d_X2_advance_193 rfl rfl ?_
                  refine x_putiG (j := 4) x_c2 rfl (Nat.le_of_ble_eq_true rfl) q111 rfl rfl rfl d_X2_advance_194 (fun μ64 eμ64 => ?_)
                  have hf65 : μ64 28 1 = nI n := by rw [eμ64, upd2_at, upd_n _ _ (by decide)]; exact hm1
                  have hf66 : μ64 28 2 = 2 := by rw [eμ64, upd2_at, upd_n _ _ (by decide)]; exact hm2
                  have hf67 : μ64 28 3 = nI q := by rw [eμ64, upd2_at, upd_n _ _ (by decide)]; exact hm3
                  have hf68 : μ64 28 5 = valTo S q (r - q) := by rw [eμ64, upd2_at, upd_n _ _ (by decide)]; exact hm5
                  have hf69 : μ64 28 4 = nI r := by rw [eμ64, upd2_at, upd_s]
                  have hF70 : ∀ id, id ≠ 28 → μ64 id = μ id := fun id hid => (show μ64 id = μ54 id from (by rw [eμ64, upd2_ne _ _ _ (by omega)])).trans (hF1 id hid)
                  refine x_vret rfl d_X2_advance_197 ?_
                  have hsp : spE S n p = q := run_end (f := fun q => !decide (S q = 32)) hpq (by omega) hq (Or.inl hN)
                  have hle : diE S n q = r := run_end (f := fun q => !isDi (S q)) hqr (by omega) hq3 (Or.inr (by unfold isDi; rw [c63]; rfl))
                  rw [tok_num hsp hNq c11 c12 hle]
                  exact ⟨⟨hf67, hf69, hf66, (fun _ => hf68)⟩, hf65, hF70⟩
                · skip
                  refine x_aload_n 1 d_X2_advance_136 rfl rfl ?_
                  refine x_aload_n 1 d_X2_advance_137 rfl rfl ?_
                  refine x_getiV (j := 5) (z := valTo S q (r - q)) x_c2 rfl (Nat.le_of_ble_eq_true rfl) q112 rfl hm5 d_X2_advance_138 ?_
                  refine x_bipush (x := 10) d_X2_advance_141 (by decide) ?_
                  refine x_imul d_X2_advance_143 ?_
                  refine x_aload_n 1 d_X2_advance_144 rfl rfl ?_
                  refine x_getr (j := 0) 29 x_c2 rfl (Nat.le_of_ble_eq_true rfl) q106 rfl d_X2_advance_145 ?_
                  refine x_iload_n 0 d_X2_advance_148 rfl rfl ?_
                  refine x_baldN (z := S r) 120 r rfl rfl (by omega) (by decide) ((congrFun (hF1 29 (by omega)) r).trans (hW.2 r (by omega))) d_X2_advance_149 ?_
                  refine x_iadd d_X2_advance_150 ?_
                  refine x_bipush (x := 48) d_X2_advance_151 (by decide) ?_
                  refine x_isub d_X2_advance_153 ?_
                  refine x_sipush (x := 1000) d_X2_advance_154 (by decide) ?_
                  refine x_min q497 q204 q205 q7 (Nat.le_of_ble_eq_true rfl) (Nat.le_of_ble_eq_true rfl) d_X2_advance_157 ?_
                  refine x_putiG (j := 5) x_c2 rfl (Nat.le_of_ble_eq_true rfl) q112 rfl rfl rfl d_X2_advance_160 (fun μ71 eμ71 => ?_)
                  have hf72 : μ71 28 1 = nI n := by rw [eμ71, upd2_at, upd_n _ _ (by decide)]; exact hm1
                  have hf73 : μ71 28 2 = 2 := by rw [eμ71, upd2_at, upd_n _ _ (by decide)]; exact hm2
                  have hf74 : μ71 28 3 = nI q := by rw [eμ71, upd2_at, upd_n _ _ (by decide)]; exact hm3
                  have hf75 : μ71 28 4 = nI p := by rw [eμ71, upd2_at, upd_n _ _ (by decide)]; exact hm4
                  have hf76 : μ71 28 5 = minI ((((valTo S q (r - q)) * 10) + (S r)) - 48) 1000 := by rw [eμ71, upd2_at, upd_s]
                  have hF77 : ∀ id, id ≠ 28 → μ71 id = μ id := fun id hid => (show μ71 id = μ54 id from (by rw [eμ71, upd2_ne _ _ _ (by omega)])).trans (hF1 id hid)
                  refine x_iinc [(1, .int (nI (r + 1))), (0, .ref (E.1 + 28))] 0 d_X2_advance_163 rfl (x_inc _) (Nat.le_of_ble_eq_true rfl) rfl ?_
                  refine x_goto 116 d_X2_advance_166 (by decide) ?_
                  exact ih52 (r + 1) (by omega) (by omega) μ71 (by omega) (lt_r hq3 (by unfold isDi; rw [c63]; rfl)) hf72 hf73 hf74 hf75 (val_up (by omega) hf76) hF77
            exact L51 q (by omega) μ44 (Nat.le_refl q) (fun j h1 h2 => absurd h2 (by omega)) hf45 hf48 hf47 hf46 (by rw [Nat.sub_self]; exact hf49) hF50
        · skip
          refine x_aload_n 1 d_X2_advance_63 rfl rfl ?_
          refine x_iconst (x := 1) d_X2_advance_64 (by decide) ?_
          refine x_putiG (j := 2) x_c2 rfl (Nat.le_of_ble_eq_true rfl) q109 rfl rfl rfl d_X2_advance_65 (fun μ78 eμ78 => ?_)
          have hf79 : μ78 28 1 = nI n := by rw [eμ78, upd2_at, upd_n _ _ (by decide)]; exact hf6
          have hf80 : μ78 28 4 = nI p := by rw [eμ78, upd2_at, upd_n _ _ (by decide)]; exact hf7
          have hf81 : μ78 28 3 = nI q := by rw [eμ78, upd2_at, upd_n _ _ (by decide)]; exact hf8
          have hf82 : μ78 28 2 = 1 := by rw [eμ78, upd2_at, upd_s]
          have hF83 : ∀ id, id ≠ 28 → μ78 id = μ id := fun id hid => (show μ78 id = μ5 id from (by rw [eμ78, upd2_ne _ _ _ (by omega)])).trans (hF9 id hid)
          have L84 : ∀ r : Nat, r ≤ n → (q ≤ r) → (∀ j, q ≤ j → j < r → (!isLe (S j)) = false) → x_G l E m_X2_advance (x_mv E m_X2_advance (x_J (fun m => TK (tokAt S n p) m ∧ m 28 1 = nI n ∧ ∀ id, id ≠ 28 → m id = μ id))) μ78 68 [(1, .int (nI r)), (0, .ref (E.1 + 28))] [] := by
            refine x_down _ n (fun r hi86 ih85 => ?_)
            intro hqr hq2
            refine x_iload_n 0 d_X2_advance_68 rfl rfl ?_
            refine x_aload_n 1 d_X2_advance_69 rfl rfl ?_
            refine x_getiV (j := 1) (z := nI n) x_c2 rfl (Nat.le_of_ble_eq_true rfl) q107 rfl hf79 d_X2_advance_70 ?_
            refine x_icmp_ge 192 d_X2_advance_73 (by decide) (fun c87 => ?_) (fun c87 => ?_)
            · skip
              have hN3 := x_ge (N := n) c87 rfl rfl (by omega) (by omega)
              refine x_aload_n 1 d_X2_advance_192 rfl rfl ?_
              refine x_iload_n 0 d_X2_advance_193 rfl rfl ?_
              refine x_putiG (j := 4) x_c2 rfl (Nat.le_of_ble_eq_true rfl) q111 rfl rfl rfl d_X2_advance_194 (fun μ88 eμ88 => ?_)
              have hf89 : μ88 28 1 = nI n := by rw [eμ88, upd2_at, upd_n _ _ (by decide)]; exact hf79
              have hf90 : μ88 28 3 = nI q := by rw [eμ88, upd2_at, upd_n _ _ (by decide)]; exact hf81
              have hf91 : μ88 28 2 = 1 := by rw [eμ88, upd2_at, upd_n _ _ (by decide)]; exact hf82
              have hf92 : μ88 28 4 = nI r := by rw [eμ88, upd2_at, upd_s]
              have hF93 : ∀ id, id ≠ 28 → μ88 id = μ id := fun id hid => (show μ88 id = μ78 id from (by rw [eμ88, upd2_ne _ _ _ (by omega)])).trans (hF83 id hid)
              refine x_vret rfl d_X2_advance_197 ?_
              have hsp : spE S n p = q := run_end (f := fun q => !decide (S q = 32)) hpq (by omega) hq (Or.inl hN)
              have hle : leE S n q = r := run_end (f := fun q => !isLe (S q)) hqr (by omega) hq2 (Or.inl hN3)
              rw [tok_word hsp hNq c11 hle]
              exact ⟨⟨hf90, hf92, (hf91.trans (pT_1.mpr (code_le S q r)).symm), (fun z => absurd (show codeOf S q r = 20 from z) (by have := code_le S q r; omega))⟩, hf89, hF93⟩
            · skip
              have hN3 := x_lt (N := n) c87 rfl rfl (by omega) (by omega)
              refine x_aload_n 1 d_X2_advance_76 rfl rfl ?_
              refine x_getr (j := 0) 29 x_c2 rfl (Nat.le_of_ble_eq_true rfl) q106 rfl d_X2_advance_77 ?_
              refine x_iload_n 0 d_X2_advance_80 rfl rfl ?_
              refine x_baldN (z := S r) 120 r rfl rfl (by omega) (by decide) ((congrFun (hF83 29 (by omega)) r).trans (hW.2 r (by omega))) d_X2_advance_81 ?_
              refine x_csip (as := [.int (S r)]) (c_X2_isLetter l E μ78 (S r)) v_X2_isLetter q492 q491 rfl ⟨Nat.le_of_ble_eq_true rfl, Nat.le_of_ble_eq_true rfl⟩ rfl (Nat.le_of_ble_eq_true rfl) d_X2_advance_82 ?_
              refine x_ifb_eq 192 d_X2_advance_85 (by decide) (fun c94 => ?_) (fun c94 => ?_)
              · skip
                refine x_aload_n 1 d_X2_advance_192 rfl rfl ?_
                refine x_iload_n 0 d_X2_advance_193 rfl rfl ?_
                refine x_putiG (j := 4) x_c2 rfl (Nat.le_of_ble_eq_true rfl) q111 rfl rfl rfl d_X2_advance_194 (fun μ95 eμ95 => ?_)
                have hf96 : μ95 28 1 = nI n := by rw [eμ95, upd2_at, upd_n _ _ (by decide)]; exact hf79
                have hf97 : μ95 28 3 = nI q := by rw [eμ95, upd2_at, upd_n _ _ (by decide)]; exact hf81
                have hf98 : μ95 28 2 = 1 := by rw [eμ95, upd2_at, upd_n _ _ (by decide)]; exact hf82
                have hf99 : μ95 28 4 = nI r := by rw [eμ95, upd2_at, upd_s]
                have hF100 : ∀ id, id ≠ 28 → μ95 id = μ id := fun id hid => (show μ95 id = μ78 id from (by rw [eμ95, upd2_ne _ _ _ (by omega)])).trans (hF83 id hid)
                refine x_vret rfl d_X2_advance_197 ?_
                have hsp : spE S n p = q := run_end (f := fun q => !decide (S q = 32)) hpq (by omega) hq (Or.inl hN)
                have hle : leE S n q = r := run_end (f := fun q => !isLe (S q)) hqr (by omega) hq2 (Or.inr (by unfold isLe; rw [c94]; rfl))
                rw [tok_word hsp hNq c11 hle]
                exact ⟨⟨hf97, hf99, (hf98.trans (pT_1.mpr (code_le S q r)).symm), (fun z => absurd (show codeOf S q r = 20 from z) (by have := code_le S q r; omega))⟩, hf96, hF100⟩
              · skip
                refine x_iinc [(1, .int (nI (r + 1))), (0, .ref (E.1 + 28))] 0 d_X2_advance_88 rfl (x_inc _) (Nat.le_of_ble_eq_true rfl) rfl ?_
                refine x_goto 68 d_X2_advance_91 (by decide) ?_
                exact ih85 (r + 1) (by omega) (by omega) (by omega) (lt_r hq2 (by unfold isLe; rw [c94]; rfl))
          exact L84 q (by omega) (Nat.le_refl q) (fun j h1 h2 => absurd h2 (by omega))
      · skip
        have hNe := x_ge (N := n) (Int32.not_lt.mp c10) rfl rfl (by omega) (by omega)
        refine x_aload_n 1 d_X2_advance_43 rfl rfl ?_
        refine x_iconst (x := 0) d_X2_advance_44 (by decide) ?_
        refine x_putiG (j := 2) x_c2 rfl (Nat.le_of_ble_eq_true rfl) q109 rfl rfl rfl d_X2_advance_45 (fun μ101 eμ101 => ?_)
        have hf102 : μ101 28 1 = nI n := by rw [eμ101, upd2_at, upd_n _ _ (by decide)]; exact hf6
        have hf103 : μ101 28 4 = nI p := by rw [eμ101, upd2_at, upd_n _ _ (by decide)]; exact hf7
        have hf104 : μ101 28 3 = nI q := by rw [eμ101, upd2_at, upd_n _ _ (by decide)]; exact hf8
        have hf105 : μ101 28 2 = 0 := by rw [eμ101, upd2_at, upd_s]
        have hF106 : ∀ id, id ≠ 28 → μ101 id = μ id := fun id hid => (show μ101 id = μ5 id from (by rw [eμ101, upd2_ne _ _ _ (by omega)])).trans (hF9 id hid)
        refine x_goto 192 d_X2_advance_48 (by decide) ?_
        refine x_aload_n 1 d_X2_advance_192 rfl rfl ?_
        refine x_iload_n 0 d_X2_advance_193 rfl rfl ?_
        refine x_putiG (j := 4) x_c2 rfl (Nat.le_of_ble_eq_true rfl) q111 rfl rfl rfl d_X2_advance_194 (fun μ107 eμ107 => ?_)
        have hf108 : μ107 28 1 = nI n := by rw [eμ107, upd2_at, upd_n _ _ (by decide)]; exact hf102
        have hf109 : μ107 28 3 = nI q := by rw [eμ107, upd2_at, upd_n _ _ (by decide)]; exact hf104
        have hf110 : μ107 28 2 = 0 := by rw [eμ107, upd2_at, upd_n _ _ (by decide)]; exact hf105
        have hf111 : μ107 28 4 = nI q := by rw [eμ107, upd2_at, upd_s]
        have hF112 : ∀ id, id ≠ 28 → μ107 id = μ id := fun id hid => (show μ107 id = μ101 id from (by rw [eμ107, upd2_ne _ _ _ (by omega)])).trans (hF106 id hid)
        refine x_vret rfl d_X2_advance_197 ?_
        have hsp : spE S n p = q := run_end (f := fun q => !decide (S q = 32)) hpq (by omega) hq (Or.inl hN)
        rw [tok_end hsp hNe]
        exact ⟨⟨hf109, hf111, hf110, (fun z => absurd (show (22 : Nat) = 20 from z) (by decide))⟩, hf108, hF112⟩
    · skip
      have hN := x_lt (N := n) c4 rfl rfl (by omega) (by omega)
      refine x_aload_n 1 d_X2_advance_13 rfl rfl ?_
      refine x_getr (j := 0) 29 x_c2 rfl (Nat.le_of_ble_eq_true rfl) q106 rfl d_X2_advance_14 ?_
      refine x_iload_n 0 d_X2_advance_17 rfl rfl ?_
      refine x_baldN (z := S q) 120 q rfl rfl (by omega) (by decide) ((congrFun (hF 29 (by omega)) q).trans (hW.2 q (by omega))) d_X2_advance_18 ?_
      refine x_bipush (x := 32) d_X2_advance_19 (by decide) ?_
      refine x_icmp_ne 30 d_X2_advance_21 (by decide) (fun c113 => ?_) (fun c113 => ?_)
      · skip
        refine x_aload_n 1 d_X2_advance_30 rfl rfl ?_
        refine x_iload_n 0 d_X2_advance_31 rfl rfl ?_
        refine x_putiG (j := 3) x_c2 rfl (Nat.le_of_ble_eq_true rfl) q110 rfl rfl rfl d_X2_advance_32 (fun μ114 eμ114 => ?_)
        have hf115 : μ114 28 1 = nI n := by rw [eμ114, upd2_at, upd_n _ _ (by decide)]; exact hl0
        have hf116 : μ114 28 4 = nI p := by rw [eμ114, upd2_at, upd_n _ _ (by decide)]; exact h4
        have hf117 : μ114 28 3 = nI q := by rw [eμ114, upd2_at, upd_s]
        have hF118 : ∀ id, id ≠ 28 → μ114 id = μ id := fun id hid => (show μ114 id = μ id from (by rw [eμ114, upd2_ne _ _ _ (by omega)])).trans (hF id hid)
        refine x_iload_n 0 d_X2_advance_35 rfl rfl ?_
        refine x_aload_n 1 d_X2_advance_36 rfl rfl ?_
        refine x_getiV (j := 1) (z := nI n) x_c2 rfl (Nat.le_of_ble_eq_true rfl) q107 rfl hf115 d_X2_advance_37 ?_
        refine x_icmp_lt 51 d_X2_advance_40 (by decide) (fun c119 => ?_) (fun c119 => ?_)
        · skip
          have hNq := x_lt (N := n) (Int32.not_le.mpr c119) rfl rfl (by omega) (by omega)
          refine x_aload_n 1 d_X2_advance_51 rfl rfl ?_
          refine x_getr (j := 0) 29 x_c2 rfl (Nat.le_of_ble_eq_true rfl) q106 rfl d_X2_advance_52 ?_
          refine x_iload_n 0 d_X2_advance_55 rfl rfl ?_
          refine x_baldN (z := S q) 120 q rfl rfl (by omega) (by decide) ((congrFun (hF118 29 (by omega)) q).trans (hW.2 q (by omega))) d_X2_advance_56 ?_
          refine x_csip (as := [.int (S q)]) (c_X2_isLetter l E μ114 (S q)) v_X2_isLetter q492 q491 rfl ⟨Nat.le_of_ble_eq_true rfl, Nat.le_of_ble_eq_true rfl⟩ rfl (Nat.le_of_ble_eq_true rfl) d_X2_advance_57 ?_
          refine x_ifb_eq 94 d_X2_advance_60 (by decide) (fun c120 => ?_) (fun c120 => ?_)
          · skip
            refine x_aload_n 1 d_X2_advance_94 rfl rfl ?_
            refine x_getr (j := 0) 29 x_c2 rfl (Nat.le_of_ble_eq_true rfl) q106 rfl d_X2_advance_95 ?_
            refine x_iload_n 0 d_X2_advance_98 rfl rfl ?_
            refine x_baldN (z := S q) 120 q rfl rfl (by omega) (by decide) ((congrFun (hF118 29 (by omega)) q).trans (hW.2 q (by omega))) d_X2_advance_99 ?_
            refine x_csip (as := [.int (S q)]) (c_X2_isDigit l E μ114 (S q)) v_X2_isDigit q495 q494 rfl ⟨Nat.le_of_ble_eq_true rfl, Nat.le_of_ble_eq_true rfl⟩ rfl (Nat.le_of_ble_eq_true rfl) d_X2_advance_100 ?_
            refine x_ifb_eq 169 d_X2_advance_103 (by decide) (fun c121 => ?_) (fun c121 => ?_)
            · skip
              refine x_aload_n 1 d_X2_advance_169 rfl rfl ?_
              refine x_aload_n 1 d_X2_advance_170 rfl rfl ?_
              refine x_getr (j := 0) 29 x_c2 rfl (Nat.le_of_ble_eq_true rfl) q106 rfl d_X2_advance_171 ?_
              refine x_iload_n 0 d_X2_advance_174 rfl rfl ?_
              refine x_baldN (z := S q) 120 q rfl rfl (by omega) (by decide) ((congrFun (hF118 29 (by omega)) q).trans (hW.2 q (by omega))) d_X2_advance_175 ?_
              refine x_bipush (x := 59) d_X2_advance_176 (by decide) ?_
              refine x_icmp_ne 185 d_X2_advance_178 (by decide) (fun c122 => ?_) (fun c122 => ?_)
              · skip
                refine x_iconst (x := 4) d_X2_advance_185 (by decide) ?_
                refine x_putiG (j := 2) x_c2 rfl (Nat.le_of_ble_eq_true rfl) q109 rfl rfl rfl d_X2_advance_186 (fun μ123 eμ123 => ?_)
                have hf124 : μ123 28 1 = nI n := by rw [eμ123, upd2_at, upd_n _ _ (by decide)]; exact hf115
                have hf125 : μ123 28 4 = nI p := by rw [eμ123, upd2_at, upd_n _ _ (by decide)]; exact hf116
                have hf126 : μ123 28 3 = nI q := by rw [eμ123, upd2_at, upd_n _ _ (by decide)]; exact hf117
                have hf127 : μ123 28 2 = 4 := by rw [eμ123, upd2_at, upd_s]
                have hF128 : ∀ id, id ≠ 28 → μ123 id = μ id := fun id hid => (show μ123 id = μ114 id from (by rw [eμ123, upd2_ne _ _ _ (by omega)])).trans (hF118 id hid)
                refine x_iinc [(1, .int (nI (q + 1))), (0, .ref (E.1 + 28))] 0 d_X2_advance_189 rfl (x_inc _) (Nat.le_of_ble_eq_true rfl) rfl ?_
                refine x_aload_n 1 d_X2_advance_192 rfl rfl ?_
                refine x_iload_n 0 d_X2_advance_193 rfl rfl ?_
                refine x_putiG (j := 4) x_c2 rfl (Nat.le_of_ble_eq_true rfl) q111 rfl rfl rfl d_X2_advance_194 (fun μ129 eμ129 => ?_)
                have hf130 : μ129 28 1 = nI n := by rw [eμ129, upd2_at, upd_n _ _ (by decide)]; exact hf124
                have hf131 : μ129 28 3 = nI q := by rw [eμ129, upd2_at, upd_n _ _ (by decide)]; exact hf126
                have hf132 : μ129 28 2 = 4 := by rw [eμ129, upd2_at, upd_n _ _ (by decide)]; exact hf127
                have hf133 : μ129 28 4 = nI (q + 1) := by rw [eμ129, upd2_at, upd_s]
                have hF134 : ∀ id, id ≠ 28 → μ129 id = μ id := fun id hid => (show μ129 id = μ123 id from (by rw [eμ129, upd2_ne _ _ _ (by omega)])).trans (hF128 id hid)
                refine x_vret rfl d_X2_advance_197 ?_
                have hsp : spE S n p = q := run_end (f := fun q => !decide (S q = 32)) hpq (by omega) hq (Or.inr (by rw [decide_eq_false c113]; rfl))
                rw [tok_oth hsp hNq c120 c121]
                exact ⟨⟨hf131, hf133, (by rw [show tkC (q, q + 1, if S q = 59 then 21 else 23, 0) = 23 from if_neg c122]; exact hf132), (fun z => absurd z (by show ¬ (if S q = 59 then 21 else 23) = 20; split <;> decide))⟩, hf130, hF134⟩
              · skip
                refine x_iconst (x := 3) d_X2_advance_181 (by decide) ?_
                refine x_goto 186 d_X2_advance_182 (by decide) ?_
                refine x_putiG (j := 2) x_c2 rfl (Nat.le_of_ble_eq_true rfl) q109 rfl rfl rfl d_X2_advance_186 (fun μ135 eμ135 => ?_)
                have hf136 : μ135 28 1 = nI n := by rw [eμ135, upd2_at, upd_n _ _ (by decide)]; exact hf115
                have hf137 : μ135 28 4 = nI p := by rw [eμ135, upd2_at, upd_n _ _ (by decide)]; exact hf116
                have hf138 : μ135 28 3 = nI q := by rw [eμ135, upd2_at, upd_n _ _ (by decide)]; exact hf117
                have hf139 : μ135 28 2 = 3 := by rw [eμ135, upd2_at, upd_s]
                have hF140 : ∀ id, id ≠ 28 → μ135 id = μ id := fun id hid => (show μ135 id = μ114 id from (by rw [eμ135, upd2_ne _ _ _ (by omega)])).trans (hF118 id hid)
                refine x_iinc [(1, .int (nI (q + 1))), (0, .ref (E.1 + 28))] 0 d_X2_advance_189 rfl (x_inc _) (Nat.le_of_ble_eq_true rfl) rfl ?_
                refine x_aload_n 1 d_X2_advance_192 rfl rfl ?_
                refine x_iload_n 0 d_X2_advance_193 rfl rfl ?_
                refine x_putiG (j := 4) x_c2 rfl (Nat.le_of_ble_eq_true rfl) q111 rfl rfl rfl d_X2_advance_194 (fun μ141 eμ141 => ?_)
                have hf142 : μ141 28 1 = nI n := by rw [eμ141, upd2_at, upd_n _ _ (by decide)]; exact hf136
                have hf143 : μ141 28 3 = nI q := by rw [eμ141, upd2_at, upd_n _ _ (by decide)]; exact hf138
                have hf144 : μ141 28 2 = 3 := by rw [eμ141, upd2_at, upd_n _ _ (by decide)]; exact hf139
                have hf145 : μ141 28 4 = nI (q + 1) := by rw [eμ141, upd2_at, upd_s]
                have hF146 : ∀ id, id ≠ 28 → μ141 id = μ id := fun id hid => (show μ141 id = μ135 id from (by rw [eμ141, upd2_ne _ _ _ (by omega)])).trans (hF140 id hid)
                refine x_vret rfl d_X2_advance_197 ?_
                have hsp : spE S n p = q := run_end (f := fun q => !decide (S q = 32)) hpq (by omega) hq (Or.inr (by rw [decide_eq_false c113]; rfl))
                rw [tok_oth hsp hNq c120 c121]
                exact ⟨⟨hf143, hf145, (by rw [show tkC (q, q + 1, if S q = 59 then 21 else 23, 0) = 21 from if_pos c122]; exact hf144), (fun z => absurd z (by show ¬ (if S q = 59 then 21 else 23) = 20; split <;> decide))⟩, hf142, hF146⟩
            · skip
              refine x_aload_n 1 d_X2_advance_106 rfl rfl ?_
              refine x_iconst (x := 2) d_X2_advance_107 (by decide) ?_
              refine x_putiG (j := 2) x_c2 rfl (Nat.le_of_ble_eq_true rfl) q109 rfl rfl rfl d_X2_advance_108 (fun μ147 eμ147 => ?_)
              have hf148 : μ147 28 1 = nI n := by rw [eμ147, upd2_at, upd_n _ _ (by decide)]; exact hf115
              have hf149 : μ147 28 4 = nI p := by rw [eμ147, upd2_at, upd_n _ _ (by decide)]; exact hf116
              have hf150 : μ147 28 3 = nI q := by rw [eμ147, upd2_at, upd_n _ _ (by decide)]; exact hf117
              have hf151 : μ147 28 2 = 2 := by rw [eμ147, upd2_at, upd_s]
              have hF152 : ∀ id, id ≠ 28 → μ147 id = μ id := fun id hid => (show μ147 id = μ114 id from (by rw [eμ147, upd2_ne _ _ _ (by omega)])).trans (hF118 id hid)
              refine x_aload_n 1 d_X2_advance_111 rfl rfl ?_
              refine x_iconst (x := 0) d_X2_advance_112 (by decide) ?_
              refine x_putiG (j := 5) x_c2 rfl (Nat.le_of_ble_eq_true rfl) q112 rfl rfl rfl d_X2_advance_113 (fun μ153 eμ153 => ?_)
              have hf154 : μ153 28 1 = nI n := by rw [eμ153, upd2_at, upd_n _ _ (by decide)]; exact hf148
              have hf155 : μ153 28 4 = nI p := by rw [eμ153, upd2_at, upd_n _ _ (by decide)]; exact hf149
              have hf156 : μ153 28 3 = nI q := by rw [eμ153, upd2_at, upd_n _ _ (by decide)]; exact hf150
              have hf157 : μ153 28 2 = 2 := by rw [eμ153, upd2_at, upd_n _ _ (by decide)]; exact hf151
              have hf158 : μ153 28 5 = 0 := by rw [eμ153, upd2_at, upd_s]
              have hF159 : ∀ id, id ≠ 28 → μ153 id = μ id := fun id hid => (show μ153 id = μ147 id from (by rw [eμ153, upd2_ne _ _ _ (by omega)])).trans (hF152 id hid)
              have L160 : ∀ r : Nat, r ≤ n → ∀ μ163 : x_Mem, (q ≤ r) → (∀ j, q ≤ j → j < r → (!isDi (S j)) = false) → (μ163 28 1 = nI n) → (μ163 28 2 = 2) → (μ163 28 3 = nI q) → (μ163 28 4 = nI p) → (μ163 28 5 = valTo S q (r - q)) → (∀ id, id ≠ 28 → μ163 id = μ id) → x_G l E m_X2_advance (x_mv E m_X2_advance (x_J (fun m => TK (tokAt S n p) m ∧ m 28 1 = nI n ∧ ∀ id, id ≠ 28 → m id = μ id))) μ163 116 [(1, .int (nI r)), (0, .ref (E.1 + 28))] [] := by
                refine x_down _ n (fun r hi162 ih161 => ?_)
                intro μ163 hqr hq3 hm1 hm2 hm3 hm4 hm5 hF1
                refine x_iload_n 0 d_X2_advance_116 rfl rfl ?_
                refine x_aload_n 1 d_X2_advance_117 rfl rfl ?_
                refine x_getiV (j := 1) (z := nI n) x_c2 rfl (Nat.le_of_ble_eq_true rfl) q107 rfl hm1 d_X2_advance_118 ?_
                refine x_icmp_ge 192 d_X2_advance_121 (by decide) (fun c164 => ?_) (fun c164 => ?_)
                · skip
                  have hN3 := x_ge (N := n) c164 rfl rfl (by omega) (by omega)
                  refine x_aload_n 1 d_X2_advance_192 rfl rfl ?_
                  refine x_iload_n 0 d_X2_advance_193 rfl rfl ?_
                  refine x_putiG (j := 4) x_c2 rfl (Nat.le_of_ble_eq_true rfl) q111 rfl rfl rfl d_X2_advance_194 (fun μ165 eμ165 => ?_)
                  have hf166 : μ165 28 1 = nI n := by rw [eμ165, upd2_at, upd_n _ _ (by decide)]; exact hm1
                  have hf167 : μ165 28 2 = 2 := by rw [eμ165, upd2_at, upd_n _ _ (by decide)]; exact hm2
                  have hf168 : μ165 28 3 = nI q := by rw [eμ165, upd2_at, upd_n _ _ (by decide)]; exact hm3
                  have hf169 : μ165 28 5 = valTo S q (r - q) := by rw [eμ165, upd2_at, upd_n _ _ (by decide)]; exact hm5
                  have hf170 : μ165 28 4 = nI r := by rw [eμ165, upd2_at, upd_s]
                  have hF171 : ∀ id, id ≠ 28 → μ165 id = μ id := fun id hid => (show μ165 id = μ163 id from (by rw [eμ165, upd2_ne _ _ _ (by omega)])).trans (hF1 id hid)
                  refine x_vret rfl d_X2_advance_197 ?_
                  have hsp : spE S n p = q := run_end (f := fun q => !decide (S q = 32)) hpq (by omega) hq (Or.inr (by rw [decide_eq_false c113]; rfl))
                  have hle : diE S n q = r := run_end (f := fun q => !isDi (S q)) hqr (by omega) hq3 (Or.inl hN3)
                  rw [tok_num hsp hNq c120 c121 hle]
                  exact ⟨⟨hf168, hf170, hf167, (fun _ => hf169)⟩, hf166, hF171⟩
                · skip
                  have hN3 := x_lt (N := n) c164 rfl rfl (by omega) (by omega)
                  refine x_aload_n 1 d_X2_advance_124 rfl rfl ?_
                  refine x_getr (j := 0) 29 x_c2 rfl (Nat.le_of_ble_eq_true rfl) q106 rfl d_X2_advance_125 ?_
                  refine x_iload_n 0 d_X2_advance_128 rfl rfl ?_
                  refine x_baldN (z := S r) 120 r rfl rfl (by omega) (by decide) ((congrFun (hF1 29 (by omega)) r).trans (hW.2 r (by omega))) d_X2_advance_129 ?_
                  refine x_csip (as := [.int (S r)]) (c_X2_isDigit l E μ163 (S r)) v_X2_isDigit q495 q494 rfl ⟨Nat.le_of_ble_eq_true rfl, Nat.le_of_ble_eq_true rfl⟩ rfl (Nat.le_of_ble_eq_true rfl) d_X2_advance_130 ?_
                  refine x_ifb_eq 192 d_X2_advance_133 (by decide) (fun c172 => ?_) (fun c172 => ?_)
                  · skip
                    refine x_aload_n 1 d_X2_advance_192 rfl rfl ?_
                    refine x_iload_n 0 d_X2_advance_193 rfl rfl ?_
                    refine x_putiG (j := 4) x_c2 rfl (Nat.le_of_ble_eq_true rfl) q111 rfl rfl rfl d_X2_advance_194 (fun μ173 eμ173 => ?_)
                    have hf174 : μ173 28 1 = nI n := by rw [eμ173, upd2_at, upd_n _ _ (by decide)]; exact hm1
                    have hf175 : μ173 28 2 = 2 := by rw [eμ173, upd2_at, upd_n _ _ (by decide)]; exact hm2
                    have hf176 : μ173 28 3 = nI q := by rw [eμ173, upd2_at, upd_n _ _ (by decide)]; exact hm3
                    have hf177 : μ173 28 5 = valTo S q (r - q) := by rw [eμ173, upd2_at, upd_n _ _ (by decide)]; exact hm5
                    have hf178 : μ173 28 4 = nI r := by rw [eμ173, upd2_at, upd_s]
                    have hF179 : ∀ id, id ≠ 28 → μ173 id = μ id := fun id hid => (show μ173 id = μ163 id from (by rw [eμ173, upd2_ne _ _ _ (by omega)])).trans (hF1 id hid)
                    refine x_vret rfl d_X2_advance_197 ?_
                    have hsp : spE S n p = q := run_end (f := fun q => !decide (S q = 32)) hpq (by omega) hq (Or.inr (by rw [decide_eq_false c113]; rfl))
                    have hle : diE S n q = r := run_end (f := fun q => !isDi (S q)) hqr (by omega) hq3 (Or.inr (by unfold isDi; rw [c172]; rfl))
                    rw [tok_num hsp hNq c120 c121 hle]
                    exact ⟨⟨hf176, hf178, hf175, (fun _ => hf177)⟩, hf174, hF179⟩
                  · skip
                    refine x_aload_n 1 d_X2_advance_136 rfl rfl ?_
                    refine x_aload_n 1 d_X2_advance_137 rfl rfl ?_
                    refine x_getiV (j := 5) (z := valTo S q (r - q)) x_c2 rfl (Nat.le_of_ble_eq_true rfl) q112 rfl hm5 d_X2_advance_138 ?_
                    refine x_bipush (x := 10) d_X2_advance_141 (by decide) ?_
                    refine x_imul d_X2_advance_143 ?_
                    refine x_aload_n 1 d_X2_advance_144 rfl rfl ?_
                    refine x_getr (j := 0) 29 x_c2 rfl (Nat.le_of_ble_eq_true rfl) q106 rfl d_X2_advance_145 ?_
                    refine x_iload_n 0 d_X2_advance_148 rfl rfl ?_
                    refine x_baldN (z := S r) 120 r rfl rfl (by omega) (by decide) ((congrFun (hF1 29 (by omega)) r).trans (hW.2 r (by omega))) d_X2_advance_149 ?_
                    refine x_iadd d_X2_advance_150 ?_
                    refine x_bipush (x := 48) d_X2_advance_151 (by decide) ?_
                    refine x_isub d_X2_advance_153 ?_
                    refine x_sipush (x := 1000) d_X2_advance_154 (by decide) ?_
                    refine x_min q497 q204 q205 q7 (Nat.le_of_ble_eq_true rfl) (Nat.le_of_ble_eq_true rfl) d_X2_advance_157 ?_
                    refine x_putiG (j := 5) x_c2 rfl (Nat.le_of_ble_eq_true rfl) q112 rfl rfl rfl d_X2_advance_160 (fun μ180 eμ180 => ?_)
                    have hf181 : μ180 28 1 = nI n := by rw [eμ180, upd2_at, upd_n _ _ (by decide)]; exact hm1
                    have hf182 : μ180 28 2 = 2 := by rw [eμ180, upd2_at, upd_n _ _ (by decide)]; exact hm2
                    have hf183 : μ180 28 3 = nI q := by rw [eμ180, upd2_at, upd_n _ _ (by decide)]; exact hm3
                    have hf184 : μ180 28 4 = nI p := by rw [eμ180, upd2_at, upd_n _ _ (by decide)]; exact hm4
                    have hf185 : μ180 28 5 = minI ((((valTo S q (r - q)) * 10) + (S r)) - 48) 1000 := by rw [eμ180, upd2_at, upd_s]
                    have hF186 : ∀ id, id ≠ 28 → μ180 id = μ id := fun id hid => (show μ180 id = μ163 id from (by rw [eμ180, upd2_ne _ _ _ (by omega)])).trans (hF1 id hid)
                    refine x_iinc [(1, .int (nI (r + 1))), (0, .ref (E.1 + 28))] 0 d_X2_advance_163 rfl (x_inc _) (Nat.le_of_ble_eq_true rfl) rfl ?_
                    refine x_goto 116 d_X2_advance_166 (by decide) ?_
                    exact ih161 (r + 1) (by omega) (by omega) μ180 (by omega) (lt_r hq3 (by unfold isDi; rw [c172]; rfl)) hf181 hf182 hf183 hf184 (val_up (by omega) hf185) hF186
              exact L160 q (by omega) μ153 (Nat.le_refl q) (fun j h1 h2 => absurd h2 (by omega)) hf154 hf157 hf156 hf155 (by rw [Nat.sub_self]; exact hf158) hF159
          · skip
            refine x_aload_n 1 d_X2_advance_63 rfl rfl ?_
            refine x_iconst (x := 1) d_X2_advance_64 (by decide) ?_
            refine x_putiG (j := 2) x_c2 rfl (Nat.le_of_ble_eq_true rfl) q109 rfl rfl rfl d_X2_advance_65 (fun μ187 eμ187 => ?_)
            have hf188 : μ187 28 1 = nI n := by rw [eμ187, upd2_at, upd_n _ _ (by decide)]; exact hf115
            have hf189 : μ187 28 4 = nI p := by rw [eμ187, upd2_at, upd_n _ _ (by decide)]; exact hf116
            have hf190 : μ187 28 3 = nI q := by rw [eμ187, upd2_at, upd_n _ _ (by decide)]; exact hf117
            have hf191 : μ187 28 2 = 1 := by rw [eμ187, upd2_at, upd_s]
            have hF192 : ∀ id, id ≠ 28 → μ187 id = μ id := fun id hid => (show μ187 id = μ114 id from (by rw [eμ187, upd2_ne _ _ _ (by omega)])).trans (hF118 id hid)
            have L193 : ∀ r : Nat, r ≤ n → (q ≤ r) → (∀ j, q ≤ j → j < r → (!isLe (S j)) = false) → x_G l E m_X2_advance (x_mv E m_X2_advance (x_J (fun m => TK (tokAt S n p) m ∧ m 28 1 = nI n ∧ ∀ id, id ≠ 28 → m id = μ id))) μ187 68 [(1, .int (nI r)), (0, .ref (E.1 + 28))] [] := by
              refine x_down _ n (fun r hi195 ih194 => ?_)
              intro hqr hq2
              refine x_iload_n 0 d_X2_advance_68 rfl rfl ?_
              refine x_aload_n 1 d_X2_advance_69 rfl rfl ?_
              refine x_getiV (j := 1) (z := nI n) x_c2 rfl (Nat.le_of_ble_eq_true rfl) q107 rfl hf188 d_X2_advance_70 ?_
              refine x_icmp_ge 192 d_X2_advance_73 (by decide) (fun c196 => ?_) (fun c196 => ?_)
              · skip
                have hN3 := x_ge (N := n) c196 rfl rfl (by omega) (by omega)
                refine x_aload_n 1 d_X2_advance_192 rfl rfl ?_
                refine x_iload_n 0 d_X2_advance_193 rfl rfl ?_
                refine x_putiG (j := 4) x_c2 rfl (Nat.le_of_ble_eq_true rfl) q111 rfl rfl rfl d_X2_advance_194 (fun μ197 eμ197 => ?_)
                have hf198 : μ197 28 1 = nI n := by rw [eμ197, upd2_at, upd_n _ _ (by decide)]; exact hf188
                have hf199 : μ197 28 3 = nI q := by rw [eμ197, upd2_at, upd_n _ _ (by decide)]; exact hf190
                have hf200 : μ197 28 2 = 1 := by rw [eμ197, upd2_at, upd_n _ _ (by decide)]; exact hf191
                have hf201 : μ197 28 4 = nI r := by rw [eμ197, upd2_at, upd_s]
                have hF202 : ∀ id, id ≠ 28 → μ197 id = μ id := fun id hid => (show μ197 id = μ187 id from (by rw [eμ197, upd2_ne _ _ _ (by omega)])).trans (hF192 id hid)
                refine x_vret rfl d_X2_advance_197 ?_
                have hsp : spE S n p = q := run_end (f := fun q => !decide (S q = 32)) hpq (by omega) hq (Or.inr (by rw [decide_eq_false c113]; rfl))
                have hle : leE S n q = r := run_end (f := fun q => !isLe (S q)) hqr (by omega) hq2 (Or.inl hN3)
                rw [tok_word hsp hNq c120 hle]
                exact ⟨⟨hf199, hf201, (hf200.trans (pT_1.mpr (code_le S q r)).symm), (fun z => absurd (show codeOf S q r = 20 from z) (by have := code_le S q r; omega))⟩, hf198, hF202⟩
              · skip
                have hN3 := x_lt (N := n) c196 rfl rfl (by omega) (by omega)
                refine x_aload_n 1 d_X2_advance_76 rfl rfl ?_
                refine x_getr (j := 0) 29 x_c2 rfl (Nat.le_of_ble_eq_true rfl) q106 rfl d_X2_advance_77 ?_
                refine x_iload_n 0 d_X2_advance_80 rfl rfl ?_
                refine x_baldN (z := S r) 120 r rfl rfl (by omega) (by decide) ((congrFun (hF192 29 (by omega)) r).trans (hW.2 r (by omega))) d_X2_advance_81 ?_
                refine x_csip (as := [.int (S r)]) (c_X2_isLetter l E μ187 (S r)) v_X2_isLetter q492 q491 rfl ⟨Nat.le_of_ble_eq_true rfl, Nat.le_of_ble_eq_true rfl⟩ rfl (Nat.le_of_ble_eq_true rfl) d_X2_advance_82 ?_
                refine x_ifb_eq 192 d_X2_advance_85 (by decide) (fun c203 => ?_) (fun c203 => ?_)
                · skip
                  refine x_aload_n 1 d_X2_advance_192 rfl rfl ?_
                  refine x_iload_n 0 d_X2_advance_193 rfl rfl ?_
                  refine x_putiG (j := 4) x_c2 rfl (Nat.le_of_ble_eq_true rfl) q111 rfl rfl rfl d_X2_advance_194 (fun μ204 eμ204 => ?_)
                  have hf205 : μ204 28 1 = nI n := by rw [eμ204, upd2_at, upd_n _ _ (by decide)]; exact hf188
                  have hf206 : μ204 28 3 = nI q := by rw [eμ204, upd2_at, upd_n _ _ (by decide)]; exact hf190
                  have hf207 : μ204 28 2 = 1 := by rw [eμ204, upd2_at, upd_n _ _ (by decide)]; exact hf191
                  have hf208 : μ204 28 4 = nI r := by rw [eμ204, upd2_at, upd_s]
                  have hF209 : ∀ id, id ≠ 28 → μ204 id = μ id := fun id hid => (show μ204 id = μ187 id from (by rw [eμ204, upd2_ne _ _ _ (by omega)])).trans (hF192 id hid)
                  refine x_vret rfl d_X2_advance_197 ?_
                  have hsp : spE S n p = q := run_end (f := fun q => !decide (S q = 32)) hpq (by omega) hq (Or.inr (by rw [decide_eq_false c113]; rfl))
                  have hle : leE S n q = r := run_end (f := fun q => !isLe (S q)) hqr (by omega) hq2 (Or.inr (by unfold isLe; rw [c203]; rfl))
                  rw [tok_word hsp hNq c120 hle]
                  exact ⟨⟨hf206, hf208, (hf207.trans (pT_1.mpr (code_le S q r)).symm), (fun z => absurd (show codeOf S q r = 20 from z) (by have := code_le S q r; omega))⟩, hf205, hF209⟩
                · skip
                  refine x_iinc [(1, .int (nI (r + 1))), (0, .ref (E.1 + 28))] 0 d_X2_advance_88 rfl (x_inc _) (Nat.le_of_ble_eq_true rfl) rfl ?_
                  refine x_goto 68 d_X2_advance_91 (by decide) ?_
                  exact ih194 (r + 1) (by omega) (by omega) (by omega) (lt_r hq2 (by unfold isLe; rw [c203]; rfl))
            exact L193 q (by omega) (Nat.le_refl q) (fun j h1 h2 => absurd h2 (by omega))
        · skip
          have hNe := x_ge (N := n) (Int32.not_lt.mp c119) rfl rfl (by omega) (by omega)
          refine x_aload_n 1 d_X2_advance_43 rfl rfl ?_
          refine x_iconst (x := 0) d_X2_advance_44 (by decide) ?_
          refine x_putiG (j := 2) x_c2 rfl (Nat.le_of_ble_eq_true rfl) q109 rfl rfl rfl d_X2_advance_45 (fun μ210 eμ210 => ?_)
          have hf211 : μ210 28 1 = nI n := by rw [eμ210, upd2_at, upd_n _ _ (by decide)]; exact hf115
          have hf212 : μ210 28 4 = nI p := by rw [eμ210, upd2_at, upd_n _ _ (by decide)]; exact hf116
          have hf213 : μ210 28 3 = nI q := by rw [eμ210, upd2_at, upd_n _ _ (by decide)]; exact hf117
          have hf214 : μ210 28 2 = 0 := by rw [eμ210, upd2_at, upd_s]
          have hF215 : ∀ id, id ≠ 28 → μ210 id = μ id := fun id hid => (show μ210 id = μ114 id from (by rw [eμ210, upd2_ne _ _ _ (by omega)])).trans (hF118 id hid)
          refine x_goto 192 d_X2_advance_48 (by decide) ?_
          refine x_aload_n 1 d_X2_advance_192 rfl rfl ?_
          refine x_iload_n 0 d_X2_advance_193 rfl rfl ?_
          refine x_putiG (j := 4) x_c2 rfl (Nat.le_of_ble_eq_true rfl) q111 rfl rfl rfl d_X2_advance_194 (fun μ216 eμ216 => ?_)
          have hf217 : μ216 28 1 = nI n := by rw [eμ216, upd2_at, upd_n _ _ (by decide)]; exact hf211
          have hf218 : μ216 28 3 = nI q := by rw [eμ216, upd2_at, upd_n _ _ (by decide)]; exact hf213
          have hf219 : μ216 28 2 = 0 := by rw [eμ216, upd2_at, upd_n _ _ (by decide)]; exact hf214
          have hf220 : μ216 28 4 = nI q := by rw [eμ216, upd2_at, upd_s]
          have hF221 : ∀ id, id ≠ 28 → μ216 id = μ id := fun id hid => (show μ216 id = μ210 id from (by rw [eμ216, upd2_ne _ _ _ (by omega)])).trans (hF215 id hid)
          refine x_vret rfl d_X2_advance_197 ?_
          have hsp : spE S n p = q := run_end (f := fun q => !decide (S q = 32)) hpq (by omega) hq (Or.inr (by rw [decide_eq_false c113]; rfl))
          rw [tok_end hsp hNe]
          exact ⟨⟨hf218, hf220, hf219, (fun z => absurd (show (22 : Nat) = 20 from z) (by decide))⟩, hf217, hF221⟩
      · skip
        refine x_iinc [(1, .int (nI (q + 1))), (0, .ref (E.1 + 28))] 0 d_X2_advance_24 rfl (x_inc _) (Nat.le_of_ble_eq_true rfl) rfl ?_
        refine x_goto 5 d_X2_advance_27 (by decide) ?_
        exact ih2 (q + 1) (by omega) (by omega) (by omega) (lt_r hq (by rw [decide_eq_true c113]; rfl))
  exact L1 p (by omega) (Nat.le_refl p) (fun j h1 h2 => absurd h2 (by omega))
def m_X2_numberFollows : x_M := (yX2_numberFollows, prog_4_method_8_code, 2, (some FieldType.boolean), 2, 47)
theorem v_X2_numberFollows : x_VM m_X2_numberFollows 1 := ⟨q573, q4, by decide +kernel, by decide +kernel, by decide +kernel⟩
theorem w_X2_numberFollows : x_VI m_X2_numberFollows := ⟨q572, qs18⟩
theorem d_X2_numberFollows_0 : x_dec m_X2_numberFollows 0 (.aload_n 0) 1 1 := ⟨by decide +kernel, rfl⟩
theorem d_X2_numberFollows_1 : x_dec m_X2_numberFollows 1 (.invokevirtual 31) 3 4 := ⟨by decide +kernel, rfl⟩
theorem d_X2_numberFollows_4 : x_dec m_X2_numberFollows 4 (.aload_n 0) 1 5 := ⟨by decide +kernel, rfl⟩
theorem d_X2_numberFollows_5 : x_dec m_X2_numberFollows 5 (.getfield 19) 3 8 := ⟨by decide +kernel, rfl⟩
theorem d_X2_numberFollows_8 : x_dec m_X2_numberFollows 8 (.iconst 2) 1 9 := ⟨by decide +kernel, rfl⟩
theorem d_X2_numberFollows_9 : x_dec m_X2_numberFollows 9 (.if_icmp .ne 15) 3 12 := ⟨by decide +kernel, rfl⟩
theorem d_X2_numberFollows_12 : x_dec m_X2_numberFollows 12 (.aload_n 0) 1 13 := ⟨by decide +kernel, rfl⟩
theorem d_X2_numberFollows_13 : x_dec m_X2_numberFollows 13 (.getfield 28) 3 16 := ⟨by decide +kernel, rfl⟩
theorem d_X2_numberFollows_16 : x_dec m_X2_numberFollows 16 (.iload_n 1) 1 17 := ⟨by decide +kernel, rfl⟩
theorem d_X2_numberFollows_17 : x_dec m_X2_numberFollows 17 (.if_icmp .gt 7) 3 20 := ⟨by decide +kernel, rfl⟩
theorem d_X2_numberFollows_20 : x_dec m_X2_numberFollows 20 (.iconst 1) 1 21 := ⟨by decide +kernel, rfl⟩
theorem d_X2_numberFollows_21 : x_dec m_X2_numberFollows 21 (.goto 4) 3 24 := ⟨by decide +kernel, rfl⟩
theorem d_X2_numberFollows_24 : x_dec m_X2_numberFollows 24 (.iconst 0) 1 25 := ⟨by decide +kernel, rfl⟩
theorem d_X2_numberFollows_25 : x_dec m_X2_numberFollows 25 (.ireturn) 1 26 := ⟨by decide +kernel, rfl⟩
set_option maxHeartbeats 4000000 in
set_option maxRecDepth 100000 in
theorem c_X2_numberFollows (l : Launch) (E : x_E) (μ : x_Mem) {S : Nat → Int32} {n : Nat} (hn : n ≤ 120) (hW : TW S n μ) {t : x_Tk} (hK : TK t μ) (hO : TO S n t) (most : Int32) : x_Met l m_X2_numberFollows E [.ref (E.1 + 28), .int most] μ (x_I (fun z m => z = x_b (numOk (tokAt S n (tkE t)) most) ∧ TK (tokAt S n (tkE t)) m ∧ m 28 1 = nI n ∧ ∀ id, id ≠ 28 → m id = μ id)) := by
  have hF : ∀ id, id ≠ 28 → μ id = μ id := fun _ _ => rfl
  refine x_enter (lv := [(0, .ref (E.1 + 28)), (1, .int most)]) (by decide +kernel) (Nat.le_of_ble_eq_true rfl) rfl ?_
  refine x_aload_n 0 d_X2_numberFollows_0 rfl rfl ?_
  refine x_cvv (k := 28) (as := []) (c_X2_advance l E μ hn hW (p := tkE t) hO.2.1 hK.2.1) v_X2_advance w_X2_advance q487 o_T rfl ⟨Nat.le_of_ble_eq_true rfl, Nat.le_of_ble_eq_true rfl⟩ rfl (Nat.le_of_ble_eq_true rfl) d_X2_numberFollows_1 ?_
  rintro μ1 ⟨hK2, hl4, hF5⟩
  have hW3 : TW S n μ1 := ⟨hl4, fun j hj => (congrFun (hF5 29 (by omega)) j).trans (hW.2 j hj)⟩
  have hF6 : ∀ id, id ≠ 28 → μ1 id = μ id := fun id hid => (show μ1 id = μ id from (hF5 _ (by omega))).trans (hF id hid)
  refine x_aload_n 0 d_X2_numberFollows_4 rfl rfl ?_
  refine x_getiV (j := 2) (z := nI (pT (tkC (tokAt S n (tkE t))))) x_c2 rfl (Nat.le_of_ble_eq_true rfl) q109 rfl (hK2.2.2.1) d_X2_numberFollows_5 ?_
  refine x_iconst (x := 2) d_X2_numberFollows_8 (by decide) ?_
  refine x_icmp_ne 24 d_X2_numberFollows_9 (by decide) (fun c7 => ?_) (fun c7 => ?_)
  · skip
    refine x_iconst (x := 0) d_X2_numberFollows_24 (by decide) ?_
    refine x_zret0 rfl d_X2_numberFollows_25 ?_
    have e9 : numOk (tokAt S n (tkE t)) most = false := by unfold numOk; rw [decide_eq_false (fun z => c7 (pT_2.mpr z))]; rfl
    exact ⟨congrArg x_b e9.symm, hK2, hW3.1, hF6⟩
  · skip
    have h20 := pT_2.mp (by simpa using c7)
    refine x_aload_n 0 d_X2_numberFollows_12 rfl rfl ?_
    refine x_getiV (j := 5) (z := tkV (tokAt S n (tkE t))) x_c2 rfl (Nat.le_of_ble_eq_true rfl) q112 rfl (hK2.2.2.2 h20) d_X2_numberFollows_13 ?_
    refine x_iload_n 1 d_X2_numberFollows_16 rfl rfl ?_
    refine x_icmp_gt 24 d_X2_numberFollows_17 (by decide) (fun c8 => ?_) (fun c8 => ?_)
    · skip
      refine x_iconst (x := 0) d_X2_numberFollows_24 (by decide) ?_
      refine x_zret0 rfl d_X2_numberFollows_25 ?_
      have e9 : numOk (tokAt S n (tkE t)) most = false := by unfold numOk; rw [decide_eq_false (Int32.not_le.mpr c8)]; simp
      exact ⟨congrArg x_b e9.symm, hK2, hW3.1, hF6⟩
    · skip
      refine x_iconst (x := 1) d_X2_numberFollows_20 (by decide) ?_
      refine x_goto 25 d_X2_numberFollows_21 (by decide) ?_
      refine x_zret1 rfl d_X2_numberFollows_25 ?_
      have e9 : numOk (tokAt S n (tkE t)) most = true := by unfold numOk; rw [decide_eq_true h20, decide_eq_true (Int32.not_lt.mp c8)]; rfl
      exact ⟨congrArg x_b e9.symm, hK2, hW3.1, hF6⟩
def m_X2_isWord : x_M := (yX2_isWord, prog_4_method_9_code, 3, (some FieldType.boolean), 4, 85)
theorem v_X2_isWord : x_VM m_X2_isWord 1 := ⟨q510, q4, by decide +kernel, by decide +kernel, by decide +kernel⟩
theorem w_X2_isWord : x_VI m_X2_isWord := ⟨q509, qs16⟩
theorem d_X2_isWord_0 : x_dec m_X2_isWord 0 (.aload_n 0) 1 1 := ⟨by decide +kernel, rfl⟩
theorem d_X2_isWord_1 : x_dec m_X2_isWord 1 (.getfield 19) 3 4 := ⟨by decide +kernel, rfl⟩
theorem d_X2_isWord_4 : x_dec m_X2_isWord 4 (.iconst 1) 1 5 := ⟨by decide +kernel, rfl⟩
theorem d_X2_isWord_5 : x_dec m_X2_isWord 5 (.if_icmp .ne 19) 3 8 := ⟨by decide +kernel, rfl⟩
theorem d_X2_isWord_8 : x_dec m_X2_isWord 8 (.aload_n 0) 1 9 := ⟨by decide +kernel, rfl⟩
theorem d_X2_isWord_9 : x_dec m_X2_isWord 9 (.getfield 25) 3 12 := ⟨by decide +kernel, rfl⟩
theorem d_X2_isWord_12 : x_dec m_X2_isWord 12 (.aload_n 0) 1 13 := ⟨by decide +kernel, rfl⟩
theorem d_X2_isWord_13 : x_dec m_X2_isWord 13 (.getfield 22) 3 16 := ⟨by decide +kernel, rfl⟩
theorem d_X2_isWord_16 : x_dec m_X2_isWord 16 (.isub) 1 17 := ⟨by decide +kernel, rfl⟩
theorem d_X2_isWord_17 : x_dec m_X2_isWord 17 (.aload_n 1) 1 18 := ⟨by decide +kernel, rfl⟩
theorem d_X2_isWord_18 : x_dec m_X2_isWord 18 (.invokevirtual 108) 3 21 := ⟨by decide +kernel, rfl⟩
theorem d_X2_isWord_21 : x_dec m_X2_isWord 21 (.if_icmp .eq 5) 3 24 := ⟨by decide +kernel, rfl⟩
theorem d_X2_isWord_24 : x_dec m_X2_isWord 24 (.iconst 0) 1 25 := ⟨by decide +kernel, rfl⟩
theorem d_X2_isWord_25 : x_dec m_X2_isWord 25 (.ireturn) 1 26 := ⟨by decide +kernel, rfl⟩
theorem d_X2_isWord_26 : x_dec m_X2_isWord 26 (.iconst 0) 1 27 := ⟨by decide +kernel, rfl⟩
theorem d_X2_isWord_27 : x_dec m_X2_isWord 27 (.istore_n 2) 1 28 := ⟨by decide +kernel, rfl⟩
theorem d_X2_isWord_28 : x_dec m_X2_isWord 28 (.iload_n 2) 1 29 := ⟨by decide +kernel, rfl⟩
theorem d_X2_isWord_29 : x_dec m_X2_isWord 29 (.aload_n 1) 1 30 := ⟨by decide +kernel, rfl⟩
theorem d_X2_isWord_30 : x_dec m_X2_isWord 30 (.invokevirtual 108) 3 33 := ⟨by decide +kernel, rfl⟩
theorem d_X2_isWord_33 : x_dec m_X2_isWord 33 (.if_icmp .ge 30) 3 36 := ⟨by decide +kernel, rfl⟩
theorem d_X2_isWord_36 : x_dec m_X2_isWord 36 (.aload_n 0) 1 37 := ⟨by decide +kernel, rfl⟩
theorem d_X2_isWord_37 : x_dec m_X2_isWord 37 (.getfield 9) 3 40 := ⟨by decide +kernel, rfl⟩
theorem d_X2_isWord_40 : x_dec m_X2_isWord 40 (.aload_n 0) 1 41 := ⟨by decide +kernel, rfl⟩
theorem d_X2_isWord_41 : x_dec m_X2_isWord 41 (.getfield 22) 3 44 := ⟨by decide +kernel, rfl⟩
theorem d_X2_isWord_44 : x_dec m_X2_isWord 44 (.iload_n 2) 1 45 := ⟨by decide +kernel, rfl⟩
theorem d_X2_isWord_45 : x_dec m_X2_isWord 45 (.iadd) 1 46 := ⟨by decide +kernel, rfl⟩
theorem d_X2_isWord_46 : x_dec m_X2_isWord 46 (.baload) 1 47 := ⟨by decide +kernel, rfl⟩
theorem d_X2_isWord_47 : x_dec m_X2_isWord 47 (.aload_n 1) 1 48 := ⟨by decide +kernel, rfl⟩
theorem d_X2_isWord_48 : x_dec m_X2_isWord 48 (.iload_n 2) 1 49 := ⟨by decide +kernel, rfl⟩
theorem d_X2_isWord_49 : x_dec m_X2_isWord 49 (.invokevirtual 112) 3 52 := ⟨by decide +kernel, rfl⟩
theorem d_X2_isWord_52 : x_dec m_X2_isWord 52 (.if_icmp .eq 5) 3 55 := ⟨by decide +kernel, rfl⟩
theorem d_X2_isWord_55 : x_dec m_X2_isWord 55 (.iconst 0) 1 56 := ⟨by decide +kernel, rfl⟩
theorem d_X2_isWord_56 : x_dec m_X2_isWord 56 (.ireturn) 1 57 := ⟨by decide +kernel, rfl⟩
theorem d_X2_isWord_57 : x_dec m_X2_isWord 57 (.iinc 2 1) 3 60 := ⟨by decide +kernel, rfl⟩
theorem d_X2_isWord_60 : x_dec m_X2_isWord 60 (.goto (-32)) 3 63 := ⟨by decide +kernel, rfl⟩
theorem d_X2_isWord_63 : x_dec m_X2_isWord 63 (.iconst 1) 1 64 := ⟨by decide +kernel, rfl⟩
theorem d_X2_isWord_64 : x_dec m_X2_isWord 64 (.ireturn) 1 65 := ⟨by decide +kernel, rfl⟩
set_option maxHeartbeats 4000000 in
set_option maxRecDepth 100000 in
theorem c_X2_isWord (l : Launch) (E : x_E) (μ : x_Mem) {S : Nat → Int32} {n : Nat} (hn : n ≤ 120) (hW : TW S n μ) {t : x_Tk} (hK : TK t μ) (hO : TO S n t) {i : Nat} (hi : i < 15) : x_Met l m_X2_isWord E [.ref (E.1 + 28), .ref (x_sk E i)] μ (x_I (fun z m => z = x_b (decide (tkC t = i)) ∧ m = μ)) := by
  have hF : ∀ id, id ≠ 28 → μ id = μ id := fun _ _ => rfl
  have hL9 := s_len i hi
  have hO1 := hO.1
  have hO2 := hO.2.1
  refine x_enter (lv := [(0, .ref (E.1 + 28)), (1, .ref (x_sk E i))]) (by decide +kernel) (Nat.le_of_ble_eq_true rfl) rfl ?_
  refine x_aload_n 0 d_X2_isWord_0 rfl rfl ?_
  refine x_getiV (j := 2) (z := nI (pT (tkC t))) x_c2 rfl (Nat.le_of_ble_eq_true rfl) q109 rfl (hK.2.2.1) d_X2_isWord_1 ?_
  refine x_iconst (x := 1) d_X2_isWord_4 (by decide) ?_
  refine x_icmp_ne 24 d_X2_isWord_5 (by decide) (fun c1 => ?_) (fun c1 => ?_)
  · skip
    refine x_iconst (x := 0) d_X2_isWord_24 (by decide) ?_
    refine x_zret0 rfl d_X2_isWord_25 ?_
    have e9 : decide (tkC t = i) = false := decide_eq_false (fun z => c1 (pT_1.mpr (by omega)))
    exact ⟨congrArg x_b e9.symm, rfl⟩
  · skip
    refine x_aload_n 0 d_X2_isWord_8 rfl rfl ?_
    refine x_getiV (j := 4) (z := nI (tkE t)) x_c2 rfl (Nat.le_of_ble_eq_true rfl) q111 rfl (hK.2.1) d_X2_isWord_9 ?_
    refine x_aload_n 0 d_X2_isWord_12 rfl rfl ?_
    refine x_getiV (j := 3) (z := nI (tkB t)) x_c2 rfl (Nat.le_of_ble_eq_true rfl) q110 rfl (hK.1) d_X2_isWord_13 ?_
    refine x_isub d_X2_isWord_16 ?_
    rw [pk_sub hO.1]
    refine x_aload_n 1 d_X2_isWord_17 rfl rfl ?_
    refine x_cvSp (as := []) hi (c_J_len l E μ hi) v_J_len w_J_len q511 rfl rfl ⟨Nat.le_of_ble_eq_true rfl, Nat.le_of_ble_eq_true rfl⟩ rfl (Nat.le_of_ble_eq_true rfl) d_X2_isWord_18 ?_
    refine x_icmp_eq 26 d_X2_isWord_21 (by decide) (fun c2 => ?_) (fun c2 => ?_)
    · skip
      have hle := (nI_eq (by omega) (by omega)).mp c2
      refine x_iconst (x := 0) d_X2_isWord_26 (by decide) ?_
      refine x_istore_n [(2, .int 0), (0, .ref (E.1 + 28)), (1, .ref (x_sk E i))] d_X2_isWord_27 rfl (Nat.le_of_ble_eq_true rfl) rfl ?_
      have L3 : ∀ k : Nat, k ≤ x_slen.getD i 0 → (∀ j, j < k → S (tkB t + j) = sC i j) → x_G l E m_X2_isWord (x_mv E m_X2_isWord (x_I (fun z m => z = x_b (decide (tkC t = i)) ∧ m = μ))) μ 28 [(2, .int (nI k)), (0, .ref (E.1 + 28)), (1, .ref (x_sk E i))] [] := by
        refine x_down _ (x_slen.getD i 0) (fun k hi5 ih4 => ?_)
        intro hq
        refine x_iload_n 0 d_X2_isWord_28 rfl rfl ?_
        refine x_aload_n 2 d_X2_isWord_29 rfl rfl ?_
        refine x_cvSp (as := []) hi (c_J_len l E μ hi) v_J_len w_J_len q511 rfl rfl ⟨Nat.le_of_ble_eq_true rfl, Nat.le_of_ble_eq_true rfl⟩ rfl (Nat.le_of_ble_eq_true rfl) d_X2_isWord_30 ?_
        refine x_icmp_ge 63 d_X2_isWord_33 (by decide) (fun c6 => ?_) (fun c6 => ?_)
        · skip
          have hN := x_ge (N := x_slen.getD i 0) c6 rfl rfl (by omega) (by omega)
          refine x_iconst (x := 1) d_X2_isWord_63 (by decide) ?_
          refine x_zret1 rfl d_X2_isWord_64 ?_
          have h15 := pT_1.mp (by simpa using c1)
          have hcd := hO.2.2 h15
          have e9 : decide (tkC t = i) = true := decide_eq_true (hcd.trans ((code_iff hi).mpr (nm_iff.mpr ⟨hle, fun j hj => hq j (by omega)⟩)))
          exact ⟨congrArg x_b e9.symm, rfl⟩
        · skip
          have hN := x_lt (N := x_slen.getD i 0) c6 rfl rfl (by omega) (by omega)
          refine x_aload_n 1 d_X2_isWord_36 rfl rfl ?_
          refine x_getr (j := 0) 29 x_c2 rfl (Nat.le_of_ble_eq_true rfl) q106 rfl d_X2_isWord_37 ?_
          refine x_aload_n 1 d_X2_isWord_40 rfl rfl ?_
          refine x_getiV (j := 3) (z := nI (tkB t)) x_c2 rfl (Nat.le_of_ble_eq_true rfl) q110 rfl (hK.1) d_X2_isWord_41 ?_
          refine x_iload_n 0 d_X2_isWord_44 rfl rfl ?_
          refine x_iadd d_X2_isWord_45 ?_
          rw [nI_add]
          refine x_baldN (z := S (tkB t + k)) 120 (tkB t + k) rfl rfl (by omega) (by decide) (hW.2 (tkB t + k) (by omega)) d_X2_isWord_46 ?_
          refine x_aload_n 2 d_X2_isWord_47 rfl rfl ?_
          refine x_iload_n 0 d_X2_isWord_48 rfl rfl ?_
          refine x_cvSp (as := [.int (nI k)]) hi (c_J_chr l E μ hi hN) v_J_chr w_J_chr q521 rfl rfl ⟨Nat.le_of_ble_eq_true rfl, Nat.le_of_ble_eq_true rfl⟩ rfl (Nat.le_of_ble_eq_true rfl) d_X2_isWord_49 ?_
          refine x_icmp_eq 57 d_X2_isWord_52 (by decide) (fun c7 => ?_) (fun c7 => ?_)
          · skip
            refine x_iinc [(2, .int (nI (k + 1))), (0, .ref (E.1 + 28)), (1, .ref (x_sk E i))] 0 d_X2_isWord_57 rfl (x_inc _) (Nat.le_of_ble_eq_true rfl) rfl ?_
            refine x_goto 28 d_X2_isWord_60 (by decide) ?_
            exact ih4 (k + 1) (by omega) (by omega) (lt_p hq c7)
          · skip
            refine x_iconst (x := 0) d_X2_isWord_55 (by decide) ?_
            refine x_zret0 rfl d_X2_isWord_56 ?_
            have h15 := pT_1.mp (by simpa using c1)
            have hcd := hO.2.2 h15
            have e9 : decide (tkC t = i) = false := decide_eq_false (fun z => c7 ((nm_iff.mp ((code_iff hi).mp (hcd.symm.trans z))).2 k hN))
            exact ⟨congrArg x_b e9.symm, rfl⟩
      exact L3 0 (by omega) (fun _ hj => absurd hj (Nat.not_lt_zero _))
    · skip
      refine x_iconst (x := 0) d_X2_isWord_24 (by decide) ?_
      refine x_zret0 rfl d_X2_isWord_25 ?_
      have h15 := pT_1.mp (by simpa using c1)
      have hcd := hO.2.2 h15
      have e9 : decide (tkC t = i) = false := decide_eq_false (fun z => c2 (congrArg nI (nm_iff.mp ((code_iff hi).mp (hcd.symm.trans z))).1))
      exact ⟨congrArg x_b e9.symm, rfl⟩
