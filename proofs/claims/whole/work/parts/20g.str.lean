/-! STRINGS: the constants and what their members do -/
def sC (i k : Nat) : Int32 := (x_sbyt.getD i []).getD k 0
abbrev x_sk (E : x_E) (i : Nat) : Nat := E.2.2.2.2.2.1 i
abbrev x_sv (E : x_E) (i : Nat) : Nat := E.2.2.2.2.2.2 i
theorem s_len : ∀ i, i < 15 → x_slen.getD i 0 < 9 := by decide +kernel
theorem s_shr : ∀ i, i < 15 → nI (x_slen.getD i 0) >>> ((0 : Int32) &&& 31) = nI (x_slen.getD i 0) := by decide +kernel
theorem s_chr0 : ∀ i, i < 15 → ∀ k, k < x_slen.getD i 0 → ((sC i k &&& 255).toUInt32 % 65536).toInt32 = sC i k ∧ ∃ n, n < 128 ∧ sC i k = nI n := by
  have h : ∀ i, i < 15 → ∀ k, k < x_slen.getD i 0 → ((sC i k &&& 255).toUInt32 % 65536).toInt32 = sC i k ∧ sC i k = nI (sC i k).toNatClampNeg ∧ (sC i k).toNatClampNeg < 128 := by decide +kernel
  intro i hi k hk
  obtain ⟨h1, h2, h3⟩ := h i hi k hk
  exact ⟨h1, _, h3, h2⟩
theorem s_nar : ∀ n, n < 128 → ((nI n).toUInt32 % 65536).toInt32 = nI n := by decide +kernel
theorem s_narC (n : Nat) (h : n < 128) : narrow .char (.int (nI n)) = .int (nI n) := by
  have e := s_nar n h
  show Value.int ((nI n).toUInt32 % 65536).toInt32 = .int (nI n)
  rw [e]
theorem s_chr (i : Nat) (hi : i < 15) (k : Nat) (hk : k < x_slen.getD i 0) : ((sC i k &&& 255).toUInt32 % 65536).toInt32 = sC i k ∧ narrow .char (.int (sC i k)) = .int (sC i k) := by
  obtain ⟨h1, n, hn, e⟩ := s_chr0 i hi k hk
  exact ⟨h1, by rw [e]; exact s_narC n hn⟩
section XSTR
variable {l : Launch} {E : x_E} {y : x_M} {v : x_V} {μ : x_Mem} {pc nx len : Nat} {lv lv' : List (Nat × Value)} {st : List Value}
theorem x_nret {P : Int32 → x_Mem → Prop} {z : Int32} {ty : FieldType} (hr : y.2.2.2.1 = some ty) (hn : narrow ty (.int z) = .int z) (hd : x_dec y pc .ireturn 1 nx) (h : P z μ) : x_G l E y (x_mv E y (x_I P)) μ pc lv [.int z] := by
  intro p e s m args below meth c H ls locs F hP hl' hS
  exact W.zret F.1 F.2.1 (F.2.2.1.trans hr) hn (fun t ht hW => ⟨_, μ, rfl, ⟨_, rfl, h⟩, by rw [ht]; exact hP, hS.F ht⟩) hS.2.2 hd.1 F.2.2.2.1
theorem x_i2c {a : Int32} (hd : x_dec y pc (.i2c) 1 nx) (k : x_G l E y v μ nx lv (.int (a.toUInt32 % 65536).toInt32 :: st)) : x_G l E y v μ pc lv (.int a :: st) := by
  intro p e s m args below meth c H ls locs F hP hl hS
  obtain ⟨hd, rfl⟩ := hd
  exact lv_i2c F.1 F.2.1 hd rfl (k p e s m args below meth c H ls locs F hP hl hS)
theorem x_ldcS (i : Nat) (hi : i < 15) (hy : y.1.cls = "FaithRails$Tape") (hd : x_dec y pc (.ldc (x_sidx.getD i 0)) 2 nx) (k : x_G l E y v μ nx lv (.ref (x_sk E i) :: st)) : x_G l E y v μ pc lv st := by
  intro p e s m args below meth c H ls locs F hP hl hS
  obtain ⟨hd, rfl⟩ := hd
  obtain ⟨hx, hb, hr, hlk', hml, hown, hts, hK, hZ, hc1, hc2, hcx⟩ := id F
  exact va_ldcS hx hb hown (by rw [hy]; exact hZ.2.2.2.1 i hi) hd (k p e s m args below meth c H ls locs F hP hl hS)
theorem x_getSv {i idx : Nat} (hi : i < 15) (hlk : Cond.fieldLink y.1.cls idx "java/lang/String" "value" "[B" ∈ x_tbl) (hd : x_dec y pc (.getfield idx) 3 nx) (k : x_G l E y v μ nx lv (.ref (x_sv E i) :: st)) : x_G l E y v μ pc lv (.ref (x_sk E i) :: st) := by
  intro p e s m args below meth c H ls locs F hP hl hS
  obtain ⟨hd, rfl⟩ := hd
  obtain ⟨hx, hb, hr, hlk', hml, hown, hts, hK, hZ, hc1, hc2, hcx⟩ := id F
  exact vk_getf hx hb (hZ.2.2.1.1 i hi).2.2.1 hS hown (hts _ hlk) (fun _ h => h) hd (k p e s m args below meth c H ls locs F hP hl hS)
theorem x_getSc {i idx : Nat} (hi : i < 15) (hlk : Cond.fieldLink y.1.cls idx "java/lang/String" "coder" "B" ∈ x_tbl) (hd : x_dec y pc (.getfield idx) 3 nx) (k : x_G l E y v μ nx lv (.int 0 :: st)) : x_G l E y v μ pc lv (.ref (x_sk E i) :: st) := by
  intro p e s m args below meth c H ls locs F hP hl hS
  obtain ⟨hd, rfl⟩ := hd
  obtain ⟨hx, hb, hr, hlk', hml, hown, hts, hK, hZ, hc1, hc2, hcx⟩ := id F
  exact vk_getf hx hb (hZ.2.2.1.1 i hi).2.1 hS hown (hts _ hlk) (fun _ h => h) hd (k p e s m args below meth c H ls locs F hP hl hS)
theorem x_alenS {i : Nat} (hi : i < 15) (hd : x_dec y pc .arraylength 1 nx) (k : x_G l E y v μ nx lv (.int (nI (x_slen.getD i 0)) :: st)) : x_G l E y v μ pc lv (.ref (x_sv E i) :: st) := by
  intro p e s m args below meth c H ls locs F hP hl hS
  obtain ⟨hd, rfl⟩ := hd
  obtain ⟨hx, hb, hr, hlk', hml, hown, hts, hK, hZ, hc1, hc2, hcx⟩ := id F
  obtain ⟨cell, h1, h2, h3, h4, h5, h6, h7⟩ := ((hZ.2.2.1.1 i hi).2.2.2).kept hS.2.1
  exact W.alen (n := nI (x_slen.getD i 0)) hx hb h1 h2 h5 rfl rfl hd (k p e s m args below meth c H ls locs F hP hl hS)
theorem x_baldS {i k : Nat} (hi : i < 15) (hk : k < x_slen.getD i 0) (hb' : k < 2 ^ 31) (hd : x_dec y pc .baload 1 nx) (kk : x_G l E y v μ nx lv (.int (sC i k) :: st)) : x_G l E y v μ pc lv (.int (nI k) :: .ref (x_sv E i) :: st) := by
  intro p e s m args below meth c H ls locs F hP hl hS
  obtain ⟨hd, rfl⟩ := hd
  obtain ⟨hx, hb, hr, hlk', hml, hown, hts, hK, hZ, hc1, hc2, hcx⟩ := id F
  obtain ⟨cell, h1, h2, h3, h4, h5, h6, h7⟩ := ((hZ.2.2.1.1 i hi).2.2.2).kept hS.2.1
  exact W.bald (v := .int (sC i k)) hx hb h1 h2 h3 (by rw [nI_clamp hb']; exact fun q => q.elim (fun q => nI_pos hb' q) (fun q => by omega)) (by rw [nI_clamp hb']; exact h6 k hk) rfl rfl hd (kk p e s m args below meth c H ls locs F hP hl hS)
theorem x_getsC {idx : Nat} (hlk : Cond.fieldLink y.1.cls idx "java/lang/String" "COMPACT_STRINGS" "Z" ∈ x_tbl) (hd : x_dec y pc (.getstatic idx) 3 nx) (k : x_G l E y v μ nx lv (.int 1 :: st)) : x_G l E y v μ pc lv st := by
  intro p e s m args below meth c H ls locs F hP hl hS
  obtain ⟨hd, rfl⟩ := hd
  obtain ⟨hx, hb, hr, hlk', hml, hown, hts, hK, hZ, hc1, hc2, hcx⟩ := id F
  exact va_gets hx hb hZ.2.2.2.2.1 hS hown (hts _ hlk) (fun _ h => h) hd (k p e s m args below meth c H ls locs F hP hl hS)
theorem x_getsF {idx : Nat} (hlk : Cond.fieldLink y.1.cls idx "jdk/internal/util/Preconditions" "SIOOBE_FORMATTER" "Ljava/util/function/BiFunction;" ∈ x_tbl) (hd : x_dec y pc (.getstatic idx) 3 nx) (k : ∀ z : Value, (z = .null ∨ ∃ t, z = .ref t) → x_G l E y v μ nx lv (z :: st)) : x_G l E y v μ pc lv st := by
  intro p e s m args below meth c H ls locs F hP hl hS
  obtain ⟨hd, rfl⟩ := hd
  obtain ⟨hx, hb, hr, hlk', hml, hown, hts, hK, hZ, hc1, hc2, hcx⟩ := id F
  rcases hZ.2.2.2.2.2.1 with h | ⟨t, h⟩
  · exact va_gets hx hb h hS hown (hts _ hlk) (fun _ h => h) hd (k _ (Or.inl rfl) p e s m args below meth c H ls locs F hP hl hS)
  · exact va_gets hx hb h hS hown (hts _ hlk) (fun _ h => h) hd (k _ (Or.inr ⟨t, rfl⟩) p e s m args below meth c H ls locs F hP hl hS)
theorem x_cvS {y2 : x_M} {i n idx : Nat} {as stk : List Value} {Po2 : Option Value → x_Mem → Prop} (hi15 : i < 15) (hM : x_Met l y2 E (.ref (x_sk E i) :: as) μ Po2) (hw : x_VM y2 n) (hi : x_VI y2) (hlk : Cond.methodLink y.1.cls idx y2.1 ∈ x_tbl) (hk : y2.1.cls = "java/lang/String") (hn : as.length = n) (hR : y2.2.2.2.2.1 + 1 ≤ v.1.frames ∧ 8 + (y2.2.2.1 + 11) + y2.2.2.2.2.2 ≤ v.1.locals) (hstk : stk = as.reverse ++ .ref (x_sk E i) :: st) (hst : (st.map fun w => w.category).sum ≤ 8) (hd : x_dec y pc (.invokevirtual idx) 3 nx)
    (kk : ∀ (r : Option Value) (μ' : x_Mem), Po2 r μ' → x_G l E y v μ' nx lv (r.toList ++ st)) : x_G l E y v μ pc lv stk := by
  intro p e s m args below meth c H ls locs F hP hl' hS
  obtain ⟨hd, rfl⟩ := hd
  subst hstk
  obtain ⟨hx, hb, hr, hlo, hml, hown, hts, hK, hZ, hc1, hc2, hcx⟩ := id F
  obtain ⟨cell, q1, q2, q3⟩ := vk_recv hZ.2.2.1 hi15 hS
  have hfc : s.vm.findClass y2.1.cls = some cell.cls := by rw [hk]; exact q3
  have run := va_runV (As := as) (rest := st) (g := F0 m pc ls (as.reverse ++ .ref (x_sk E i) :: st)) (own := y.1.cls) (Ts := x_tbl) (C := y2.1.cls) (b := x_sk E i) (cells := v.2.1) (slots := v.2.2.1) (R := v.1) (locs := locs) (e := e) (below := below) (meth := meth) (H := H) (index := idx)
    ⟨hx, hb, hml, hown, hts⟩ hM ⟨callB_of n hts (x_goodIn hw) rfl rfl rfl (hts _ hw.2.1) (hts _ hlk) hw.2.2 hR, hts _ hi.1, hts _ hi.2⟩
    ⟨x_fb, ⟨cell, q1, q2, hfc⟩, fun U hU hW => ⟨rfl, by rw [hU]; exact hP, va_K.moved hW.alike hK, by rw [hU]; exact (hZ.warm hW).kept hS.2.1⟩⟩ rfl hn hl'.1 rfl (lv_room hst) hd ⟨hc1, hc2⟩
  exact x_back run hS (fun r μ' H1 locs1 h1 h2 h3 => kk r μ' h1 p e s m args below meth c H1 ls locs1 F h2 hl' h3)
theorem x_cvSp {y2 : x_M} {i n idx : Nat} {as stk : List Value} {val : Int32} (hi15 : i < 15) (hM : x_Met l y2 E (.ref (x_sk E i) :: as) μ (x_I (fun z m => z = val ∧ m = μ))) (hw : x_VM y2 n) (hi : x_VI y2) (hlk : Cond.methodLink y.1.cls idx y2.1 ∈ x_tbl) (hk : y2.1.cls = "java/lang/String") (hn : as.length = n) (hR : y2.2.2.2.2.1 + 1 ≤ v.1.frames ∧ 8 + (y2.2.2.1 + 11) + y2.2.2.2.2.2 ≤ v.1.locals) (hstk : stk = as.reverse ++ .ref (x_sk E i) :: st) (hst : (st.map fun w => w.category).sum ≤ 8) (hd : x_dec y pc (.invokevirtual idx) 3 nx)
    (kk : x_G l E y v μ nx lv (.int val :: st)) : x_G l E y v μ pc lv stk :=
  x_cvS hi15 hM hw hi hlk hk hn hR hstk hst hd (fun r m h => by obtain ⟨z, rfl, h1, h2⟩ := h; rw [h1, h2]; exact kk)
end XSTR

def yJ_pci : MethodName := ⟨"jdk/internal/util/Preconditions", "checkIndex", "(IILjava/util/function/BiFunction;)I"⟩
def m_J_pci : x_M := (yJ_pci, prog_14_method_11_code, 3, (some FieldType.int), 0, 0)
theorem v_J_pci : x_VM m_J_pci 3 := ⟨q539, q12, by decide +kernel, by decide +kernel, by decide +kernel⟩
theorem d_J_pci_0 : x_dec m_J_pci 0 (.iload_n 0) 1 1 := ⟨by decide +kernel, rfl⟩
theorem d_J_pci_1 : x_dec m_J_pci 1 (.ifCond .lt 8) 3 4 := ⟨by decide +kernel, rfl⟩
theorem d_J_pci_4 : x_dec m_J_pci 4 (.iload_n 0) 1 5 := ⟨by decide +kernel, rfl⟩
theorem d_J_pci_5 : x_dec m_J_pci 5 (.iload_n 1) 1 6 := ⟨by decide +kernel, rfl⟩
theorem d_J_pci_6 : x_dec m_J_pci 6 (.if_icmp .lt 10) 3 9 := ⟨by decide +kernel, rfl⟩
theorem d_J_pci_16 : x_dec m_J_pci 16 (.iload_n 0) 1 17 := ⟨by decide +kernel, rfl⟩
theorem d_J_pci_17 : x_dec m_J_pci 17 (.ireturn) 1 18 := ⟨by decide +kernel, rfl⟩
set_option maxHeartbeats 4000000 in
set_option maxRecDepth 100000 in
theorem c_J_pci (l : Launch) (E : x_E) (μ : x_Mem) {k n : Nat} (hk : k < n) (hn : n < 2 ^ 31) {z : Value} (hz : z = .null ∨ ∃ t, z = .ref t) : x_Met l m_J_pci E [.int (nI k), .int (nI n), z] μ (x_I (fun r m => r = nI k ∧ m = μ)) := by
  rcases hz with rfl | ⟨t, rfl⟩
  · skip
    refine x_enter (lv := [(0, .int (nI k)), (1, .int (nI n)), (2, .null)]) (by decide +kernel) (Nat.le_of_ble_eq_true rfl) rfl ?_
    refine x_iload_n 0 d_J_pci_0 rfl rfl ?_
    refine x_if_lt 9 d_J_pci_1 (by decide) (fun c => absurd c (nI_pos (by omega))) (fun _ => ?_)
    refine x_iload_n 0 d_J_pci_4 rfl rfl ?_
    refine x_iload_n 1 d_J_pci_5 rfl rfl ?_
    refine x_icmp_lt 16 d_J_pci_6 (by decide) (fun c => ?_) (fun c => absurd (nI_lt hk hn) c)
    refine x_iload_n 0 d_J_pci_16 rfl rfl ?_
    exact x_iret rfl d_J_pci_17 ⟨rfl, rfl⟩
  · skip
    refine x_enter (lv := [(0, .int (nI k)), (1, .int (nI n)), (2, .ref t)]) (by decide +kernel) (Nat.le_of_ble_eq_true rfl) rfl ?_
    refine x_iload_n 0 d_J_pci_0 rfl rfl ?_
    refine x_if_lt 9 d_J_pci_1 (by decide) (fun c => absurd c (nI_pos (by omega))) (fun _ => ?_)
    refine x_iload_n 0 d_J_pci_4 rfl rfl ?_
    refine x_iload_n 1 d_J_pci_5 rfl rfl ?_
    refine x_icmp_lt 16 d_J_pci_6 (by decide) (fun c => ?_) (fun c => absurd (nI_lt hk hn) c)
    refine x_iload_n 0 d_J_pci_16 rfl rfl ?_
    exact x_iret rfl d_J_pci_17 ⟨rfl, rfl⟩
def yJ_sci : MethodName := ⟨"java/lang/String", "checkIndex", "(II)V"⟩
def m_J_sci : x_M := (yJ_sci, prog_9_method_155_code, 2, none, 1, 22)
theorem v_J_sci : x_VM m_J_sci 2 := ⟨q534, q10, by decide +kernel, by decide +kernel, by decide +kernel⟩
theorem d_J_sci_0 : x_dec m_J_sci 0 (.iload_n 0) 1 1 := ⟨by decide +kernel, rfl⟩
theorem d_J_sci_1 : x_dec m_J_sci 1 (.iload_n 1) 1 2 := ⟨by decide +kernel, rfl⟩
theorem d_J_sci_2 : x_dec m_J_sci 2 (.getstatic 1053) 3 5 := ⟨by decide +kernel, rfl⟩
theorem d_J_sci_5 : x_dec m_J_sci 5 (.invokestatic 1059) 3 8 := ⟨by decide +kernel, rfl⟩
theorem d_J_sci_8 : x_dec m_J_sci 8 (.pop) 1 9 := ⟨by decide +kernel, rfl⟩
theorem d_J_sci_9 : x_dec m_J_sci 9 (.return_) 1 10 := ⟨by decide +kernel, rfl⟩
set_option maxHeartbeats 4000000 in
set_option maxRecDepth 100000 in
theorem c_J_sci (l : Launch) (E : x_E) (μ : x_Mem) {k n : Nat} (hk : k < n) (hn : n < 2 ^ 31) : x_Met l m_J_sci E [.int (nI k), .int (nI n)] μ (x_J (fun m => m = μ)) := by
  refine x_enter (lv := [(0, .int (nI k)), (1, .int (nI n))]) (by decide +kernel) (Nat.le_of_ble_eq_true rfl) rfl ?_
  refine x_iload_n 0 d_J_sci_0 rfl rfl ?_
  refine x_iload_n 1 d_J_sci_1 rfl rfl ?_
  refine x_getsF q535 d_J_sci_2 (fun z hz => ?_)
  refine x_csip (as := [.int (nI k), .int (nI n), z]) (c_J_pci l E μ hk hn hz) v_J_pci q538 q537 rfl ⟨Nat.le_of_ble_eq_true rfl, Nat.le_of_ble_eq_true rfl⟩ rfl (by decide) d_J_sci_5 ?_
  refine x_pop d_J_sci_8 rfl ?_
  exact x_vret rfl d_J_sci_9 rfl
def yJ_lch : MethodName := ⟨"java/lang/StringLatin1", "charAt", "([BI)C"⟩
def m_J_lch : x_M := (yJ_lch, prog_10_method_2_code, 2, (some FieldType.char), 2, 43)
theorem v_J_lch : x_VM m_J_lch 2 := ⟨q531, q11, by decide +kernel, by decide +kernel, by decide +kernel⟩
theorem d_J_lch_0 : x_dec m_J_lch 0 (.iload_n 1) 1 1 := ⟨by decide +kernel, rfl⟩
theorem d_J_lch_1 : x_dec m_J_lch 1 (.aload_n 0) 1 2 := ⟨by decide +kernel, rfl⟩
theorem d_J_lch_2 : x_dec m_J_lch 2 (.arraylength) 1 3 := ⟨by decide +kernel, rfl⟩
theorem d_J_lch_3 : x_dec m_J_lch 3 (.invokestatic 9) 3 6 := ⟨by decide +kernel, rfl⟩
theorem d_J_lch_6 : x_dec m_J_lch 6 (.aload_n 0) 1 7 := ⟨by decide +kernel, rfl⟩
theorem d_J_lch_7 : x_dec m_J_lch 7 (.iload_n 1) 1 8 := ⟨by decide +kernel, rfl⟩
theorem d_J_lch_8 : x_dec m_J_lch 8 (.baload) 1 9 := ⟨by decide +kernel, rfl⟩
theorem d_J_lch_9 : x_dec m_J_lch 9 (.sipush 255) 3 12 := ⟨by decide +kernel, rfl⟩
theorem d_J_lch_12 : x_dec m_J_lch 12 (.iand) 1 13 := ⟨by decide +kernel, rfl⟩
theorem d_J_lch_13 : x_dec m_J_lch 13 (.i2c) 1 14 := ⟨by decide +kernel, rfl⟩
theorem d_J_lch_14 : x_dec m_J_lch 14 (.ireturn) 1 15 := ⟨by decide +kernel, rfl⟩
set_option maxHeartbeats 4000000 in
set_option maxRecDepth 100000 in
theorem c_J_lch (l : Launch) (E : x_E) (μ : x_Mem) {i k : Nat} (hi : i < 15) (hk : k < x_slen.getD i 0) : x_Met l m_J_lch E [.ref (x_sv E i), .int (nI k)] μ (x_I (fun r m => r = sC i k ∧ m = μ)) := by
  have hL := s_len i hi
  have hC := s_chr i hi k hk
  refine x_enter (lv := [(0, .ref (x_sv E i)), (1, .int (nI k))]) (by decide +kernel) (Nat.le_of_ble_eq_true rfl) rfl ?_
  refine x_iload_n 1 d_J_lch_0 rfl rfl ?_
  refine x_aload_n 0 d_J_lch_1 rfl rfl ?_
  refine x_alenS hi d_J_lch_2 ?_
  refine x_csv (as := [.int (nI k), .int (nI (x_slen.getD i 0))]) (c_J_sci l E μ hk (by omega)) v_J_sci q533 q532 rfl ⟨Nat.le_of_ble_eq_true rfl, Nat.le_of_ble_eq_true rfl⟩ rfl (by decide) d_J_lch_3 (fun m hm => ?_)
  subst hm
  refine x_aload_n 0 d_J_lch_6 rfl rfl ?_
  refine x_iload_n 1 d_J_lch_7 rfl rfl ?_
  refine x_baldS hi hk (by omega) d_J_lch_8 ?_
  refine x_sipush (x := 255) d_J_lch_9 (by decide) ?_
  refine x_iand d_J_lch_12 ?_
  refine x_i2c d_J_lch_13 ?_
  rw [hC.1]
  exact x_nret rfl hC.2 d_J_lch_14 ⟨rfl, rfl⟩
def yJ_cod : MethodName := ⟨"java/lang/String", "coder", "()B"⟩
def m_J_cod : x_M := (yJ_cod, prog_9_method_152_code, 1, (some FieldType.byte), 0, 0)
theorem v_J_cod : x_VM m_J_cod 0 := ⟨q518, q10, by decide +kernel, by decide +kernel, by decide +kernel⟩
theorem w_J_cod : x_VI m_J_cod := ⟨q516, q517⟩
theorem d_J_cod_0 : x_dec m_J_cod 0 (.getstatic 38) 3 3 := ⟨by decide +kernel, rfl⟩
theorem d_J_cod_3 : x_dec m_J_cod 3 (.ifCond .eq 10) 3 6 := ⟨by decide +kernel, rfl⟩
theorem d_J_cod_6 : x_dec m_J_cod 6 (.aload_n 0) 1 7 := ⟨by decide +kernel, rfl⟩
theorem d_J_cod_7 : x_dec m_J_cod 7 (.getfield 15) 3 10 := ⟨by decide +kernel, rfl⟩
theorem d_J_cod_10 : x_dec m_J_cod 10 (.goto 4) 3 13 := ⟨by decide +kernel, rfl⟩
theorem d_J_cod_13 : x_dec m_J_cod 13 (.iconst 1) 1 14 := ⟨by decide +kernel, rfl⟩
theorem d_J_cod_14 : x_dec m_J_cod 14 (.ireturn) 1 15 := ⟨by decide +kernel, rfl⟩
set_option maxHeartbeats 4000000 in
set_option maxRecDepth 100000 in
theorem c_J_cod (l : Launch) (E : x_E) (μ : x_Mem) {i : Nat} (hi : i < 15) : x_Met l m_J_cod E [.ref (x_sk E i)] μ (x_I (fun r m => r = 0 ∧ m = μ)) := by
  refine x_enter (lv := [(0, .ref (x_sk E i))]) (by decide +kernel) (Nat.le_of_ble_eq_true rfl) rfl ?_
  refine x_getsC q519 d_J_cod_0 ?_
  refine x_if_eq 13 d_J_cod_3 (by decide) (fun c => absurd c (by decide)) (fun _ => ?_)
  refine x_aload_n 0 d_J_cod_6 rfl rfl ?_
  refine x_getSc hi q1128 d_J_cod_7 ?_
  refine x_goto 14 d_J_cod_10 (by decide) ?_
  exact x_nret rfl rfl d_J_cod_14 ⟨rfl, rfl⟩
def yJ_lat : MethodName := ⟨"java/lang/String", "isLatin1", "()Z"⟩
def m_J_lat : x_M := (yJ_lat, prog_9_method_154_code, 1, (some FieldType.boolean), 0, 0)
theorem v_J_lat : x_VM m_J_lat 0 := ⟨q528, q10, by decide +kernel, by decide +kernel, by decide +kernel⟩
theorem w_J_lat : x_VI m_J_lat := ⟨q526, q527⟩
theorem d_J_lat_0 : x_dec m_J_lat 0 (.getstatic 38) 3 3 := ⟨by decide +kernel, rfl⟩
theorem d_J_lat_3 : x_dec m_J_lat 3 (.ifCond .eq 14) 3 6 := ⟨by decide +kernel, rfl⟩
theorem d_J_lat_6 : x_dec m_J_lat 6 (.aload_n 0) 1 7 := ⟨by decide +kernel, rfl⟩
theorem d_J_lat_7 : x_dec m_J_lat 7 (.getfield 15) 3 10 := ⟨by decide +kernel, rfl⟩
theorem d_J_lat_10 : x_dec m_J_lat 10 (.ifCond .ne 7) 3 13 := ⟨by decide +kernel, rfl⟩
theorem d_J_lat_13 : x_dec m_J_lat 13 (.iconst 1) 1 14 := ⟨by decide +kernel, rfl⟩
theorem d_J_lat_14 : x_dec m_J_lat 14 (.goto 4) 3 17 := ⟨by decide +kernel, rfl⟩
theorem d_J_lat_17 : x_dec m_J_lat 17 (.iconst 0) 1 18 := ⟨by decide +kernel, rfl⟩
theorem d_J_lat_18 : x_dec m_J_lat 18 (.ireturn) 1 19 := ⟨by decide +kernel, rfl⟩
set_option maxHeartbeats 4000000 in
set_option maxRecDepth 100000 in
theorem c_J_lat (l : Launch) (E : x_E) (μ : x_Mem) {i : Nat} (hi : i < 15) : x_Met l m_J_lat E [.ref (x_sk E i)] μ (x_I (fun r m => r = 1 ∧ m = μ)) := by
  refine x_enter (lv := [(0, .ref (x_sk E i))]) (by decide +kernel) (Nat.le_of_ble_eq_true rfl) rfl ?_
  refine x_getsC q519 d_J_lat_0 ?_
  refine x_if_eq 17 d_J_lat_3 (by decide) (fun c => absurd c (by decide)) (fun _ => ?_)
  refine x_aload_n 0 d_J_lat_6 rfl rfl ?_
  refine x_getSc hi q1128 d_J_lat_7 ?_
  refine x_if_ne 17 d_J_lat_10 (by decide) (fun c => absurd rfl c) (fun _ => ?_)
  refine x_iconst (x := 1) d_J_lat_13 (by decide) ?_
  refine x_goto 18 d_J_lat_14 (by decide) ?_
  exact x_nret rfl rfl d_J_lat_18 ⟨rfl, rfl⟩
def yJ_chr : MethodName := ⟨"java/lang/String", "charAt", "(I)C"⟩
def m_J_chr : x_M := (yJ_chr, prog_9_method_56_code, 2, (some FieldType.char), 3, 64)
theorem v_J_chr : x_VM m_J_chr 1 := ⟨q524, q10, by decide +kernel, by decide +kernel, by decide +kernel⟩
theorem w_J_chr : x_VI m_J_chr := ⟨q522, q523⟩
theorem d_J_chr_0 : x_dec m_J_chr 0 (.aload_n 0) 1 1 := ⟨by decide +kernel, rfl⟩
theorem d_J_chr_1 : x_dec m_J_chr 1 (.invokevirtual 492) 3 4 := ⟨by decide +kernel, rfl⟩
theorem d_J_chr_4 : x_dec m_J_chr 4 (.ifCond .eq 12) 3 7 := ⟨by decide +kernel, rfl⟩
theorem d_J_chr_7 : x_dec m_J_chr 7 (.aload_n 0) 1 8 := ⟨by decide +kernel, rfl⟩
theorem d_J_chr_8 : x_dec m_J_chr 8 (.getfield 9) 3 11 := ⟨by decide +kernel, rfl⟩
theorem d_J_chr_11 : x_dec m_J_chr 11 (.iload_n 1) 1 12 := ⟨by decide +kernel, rfl⟩
theorem d_J_chr_12 : x_dec m_J_chr 12 (.invokestatic 495) 3 15 := ⟨by decide +kernel, rfl⟩
theorem d_J_chr_15 : x_dec m_J_chr 15 (.ireturn) 1 16 := ⟨by decide +kernel, rfl⟩
set_option maxHeartbeats 4000000 in
set_option maxRecDepth 100000 in
theorem c_J_chr (l : Launch) (E : x_E) (μ : x_Mem) {i k : Nat} (hi : i < 15) (hk : k < x_slen.getD i 0) : x_Met l m_J_chr E [.ref (x_sk E i), .int (nI k)] μ (x_I (fun r m => r = sC i k ∧ m = μ)) := by
  have hC := s_chr i hi k hk
  refine x_enter (lv := [(0, .ref (x_sk E i)), (1, .int (nI k))]) (by decide +kernel) (Nat.le_of_ble_eq_true rfl) rfl ?_
  refine x_aload_n 0 d_J_chr_0 rfl rfl ?_
  refine x_cvSp (as := []) hi (c_J_lat l E μ hi) v_J_lat w_J_lat q525 rfl rfl ⟨Nat.le_of_ble_eq_true rfl, Nat.le_of_ble_eq_true rfl⟩ rfl (by decide) d_J_chr_1 ?_
  refine x_if_eq 16 d_J_chr_4 (by decide) (fun c => absurd c (by decide)) (fun _ => ?_)
  refine x_aload_n 0 d_J_chr_7 rfl rfl ?_
  refine x_getSv hi q1127 d_J_chr_8 ?_
  refine x_iload_n 1 d_J_chr_11 rfl rfl ?_
  refine x_csip (as := [.ref (x_sv E i), .int (nI k)]) (c_J_lch l E μ hi hk) v_J_lch q530 q529 rfl ⟨Nat.le_of_ble_eq_true rfl, Nat.le_of_ble_eq_true rfl⟩ rfl (by decide) d_J_chr_12 ?_
  exact x_nret rfl hC.2 d_J_chr_15 ⟨rfl, rfl⟩
def yJ_len : MethodName := ⟨"java/lang/String", "length", "()I"⟩
def m_J_len : x_M := (yJ_len, prog_9_method_54_code, 1, (some FieldType.int), 1, 20)
theorem v_J_len : x_VM m_J_len 0 := ⟨q514, q10, by decide +kernel, by decide +kernel, by decide +kernel⟩
theorem w_J_len : x_VI m_J_len := ⟨q512, q513⟩
theorem d_J_len_0 : x_dec m_J_len 0 (.aload_n 0) 1 1 := ⟨by decide +kernel, rfl⟩
theorem d_J_len_1 : x_dec m_J_len 1 (.getfield 9) 3 4 := ⟨by decide +kernel, rfl⟩
theorem d_J_len_4 : x_dec m_J_len 4 (.arraylength) 1 5 := ⟨by decide +kernel, rfl⟩
theorem d_J_len_5 : x_dec m_J_len 5 (.aload_n 0) 1 6 := ⟨by decide +kernel, rfl⟩
theorem d_J_len_6 : x_dec m_J_len 6 (.invokevirtual 335) 3 9 := ⟨by decide +kernel, rfl⟩
theorem d_J_len_9 : x_dec m_J_len 9 (.ishr) 1 10 := ⟨by decide +kernel, rfl⟩
theorem d_J_len_10 : x_dec m_J_len 10 (.ireturn) 1 11 := ⟨by decide +kernel, rfl⟩
set_option maxHeartbeats 4000000 in
set_option maxRecDepth 100000 in
theorem c_J_len (l : Launch) (E : x_E) (μ : x_Mem) {i : Nat} (hi : i < 15) : x_Met l m_J_len E [.ref (x_sk E i)] μ (x_I (fun r m => r = nI (x_slen.getD i 0) ∧ m = μ)) := by
  refine x_enter (lv := [(0, .ref (x_sk E i))]) (by decide +kernel) (Nat.le_of_ble_eq_true rfl) rfl ?_
  refine x_aload_n 0 d_J_len_0 rfl rfl ?_
  refine x_getSv hi q1127 d_J_len_1 ?_
  refine x_alenS hi d_J_len_4 ?_
  refine x_aload_n 0 d_J_len_5 rfl rfl ?_
  refine x_cvSp (as := []) hi (c_J_cod l E μ hi) v_J_cod w_J_cod q515 rfl rfl ⟨Nat.le_of_ble_eq_true rfl, Nat.le_of_ble_eq_true rfl⟩ rfl (Nat.le_of_ble_eq_true rfl) d_J_len_6 ?_
  refine x_ishr d_J_len_9 ?_
  rw [s_shr i hi]
  exact x_iret rfl d_J_len_10 ⟨rfl, rfl⟩
