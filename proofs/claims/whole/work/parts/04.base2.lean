/-! BASE 2: members of the library, static tables, the places of a line's rows, loops that count -/
theorem x_nn {z : Int32} (hz : ¬ z < 0) : z.toInt = (z.toNatClampNeg : Int) := by
  have hz0 : (0 : Int) ≤ z.toInt := by
    have := Int32.not_lt.mp hz
    simpa using Int32.le_iff_toInt_le.mp this
  show z.toInt = ((z.toInt.toNat : Nat) : Int)
  omega
abbrev x_nm : MethodName := ⟨"java/lang/Math", "max", "(II)I"⟩
/-- a copied stretch -/
def cpy2 (μ : x_Mem) (k0 k1 sp dp n : Nat) : x_Mem := fun a => if a = k1 then va_cpy (μ k0) (μ k1) sp dp n else μ a
def maxI (x y : Int32) : Int32 := if x < y then y else x
def minI (x y : Int32) : Int32 := if y < x then y else x
section XM
variable {l : Launch} {E : x_E} {y : x_M} {v : x_V} {μ : x_Mem} {pc nx len : Nat} {lv lv' : List (Nat × Value)} {st : List Value}
theorem x_max {idx : Nat} {a b : Int32} (hlk : Cond.methodLink y.1.cls idx Lib.Math.max.name ∈ x_tbl) (hst : Cond.static Lib.Math.max.name ∈ x_tbl) (hco : Cond.code Lib.Math.max.name Lib.Math.max.code 2 (some .int) ∈ x_tbl) (hini : Cond.initialized "java/lang/Math" ∈ x_tbl) (hf : 1 ≤ v.1.frames) (hlo : (st.map fun v => v.category).sum + 13 ≤ v.1.locals) (hd : x_dec y pc (.invokestatic idx) 3 nx) (k : x_G l E y v μ nx lv (.int (maxI a b) :: st)) : x_G l E y v μ pc lv (.int b :: .int a :: st) := by
  intro p e s m args below meth c H ls locs F hP hl hS
  obtain ⟨hd, rfl⟩ := hd
  obtain ⟨hx, hb, hr, hlk', hml, hown, hts, hK, hZ, hc1, hc2, hcx⟩ := id F
  exact va_mmax hx hb (hml.trans hl.1.symm) hown (hts _ hlk) (hts _ hst) (hts _ hini) (hts _ hco) hf hlo hc1 hc2 hd (k p e s m args below meth c H ls locs F hP hl hS)
theorem x_min {idx : Nat} {a b : Int32} (hlk : Cond.methodLink y.1.cls idx Lib.Math.min.name ∈ x_tbl) (hst : Cond.static Lib.Math.min.name ∈ x_tbl) (hco : Cond.code Lib.Math.min.name Lib.Math.min.code 2 (some .int) ∈ x_tbl) (hini : Cond.initialized "java/lang/Math" ∈ x_tbl) (hf : 1 ≤ v.1.frames) (hlo : (st.map fun v => v.category).sum + 13 ≤ v.1.locals) (hd : x_dec y pc (.invokestatic idx) 3 nx) (k : x_G l E y v μ nx lv (.int (minI a b) :: st)) : x_G l E y v μ pc lv (.int b :: .int a :: st) := by
  intro p e s m args below meth c H ls locs F hP hl hS
  obtain ⟨hd, rfl⟩ := hd
  obtain ⟨hx, hb, hr, hlk', hml, hown, hts, hK, hZ, hc1, hc2, hcx⟩ := id F
  exact va_mmin hx hb (hml.trans hl.1.symm) hown (hts _ hlk) (hts _ hst) (hts _ hini) (hts _ hco) hf hlo hc1 hc2 hd (k p e s m args below meth c H ls locs F hP hl hS)
theorem x_copy {idx k0 k1 : Nat} (n0 n1 : Nat) {sp dp n : Int32} (hk0 : x_kd k0 = 0) (hk1 : x_kd k1 = 0) (hn0 : x_ln k0 = n0) (hn1 : x_ln k1 = n1) (hlk : Cond.methodLink y.1.cls idx arraycopyName ∈ x_tbl) (hnat : Cond.native arraycopyName ∈ x_tbl) (hst : Cond.static arraycopyName ∈ x_tbl) (hini : Cond.initialized "java/lang/System" ∈ x_tbl)
    (h1 : ¬ sp < 0) (h2 : ¬ dp < 0) (h3 : ¬ n < 0) (h4 : sp.toNatClampNeg + n.toNatClampNeg ≤ n0) (h5 : dp.toNatClampNeg + n.toNatClampNeg ≤ n1) (hf : 1 ≤ v.1.frames) (hlo : (st.map fun v => v.category).sum + 18 ≤ v.1.locals) (hd : x_dec y pc (.invokestatic idx) 3 nx)
    (kk : x_G l E y v (cpy2 μ k0 k1 sp.toNatClampNeg dp.toNatClampNeg n.toNatClampNeg) nx lv st) : x_G l E y v μ pc lv (.int n :: .int dp :: .ref (E.1 + k1) :: .int sp :: .ref (E.1 + k0) :: st) := by
  intro p e s m args below meth c H ls locs F hP hl hS
  obtain ⟨hd, rfl⟩ := hd
  obtain ⟨hx, hb, hr, hlk', hml, hown, hts, hK, hZ, hc1, hc2, hcx⟩ := id F
  intro T hT X
  have e0 : ∀ k, x_kd k = 0 → (fun j => Value.int (μ k j)) = x_val E μ k := fun k hk => funext fun j => (x_val_int (x_rf0 hk)).symm
  have hq0 : H[E.1 + k0]? = some (arrV (E.2.2.1 0) n0 (fun j => .int (μ k0 j))) := by have := x_arr hP (k := k0) (by omega); rw [hk0, hn0, ← e0 k0 hk0] at this; exact this
  have hq1 : H[E.1 + k1]? = some (arrV (E.2.2.1 0) n1 (fun j => .int (μ k1 j))) := by have := x_arr hP (k := k1) (by omega); rw [hk1, hn1, ← e0 k1 hk1] at this; exact this
  have hnf : nativeFrameWords "java/lang/System" "arraycopy" 5 = 7 := by decide
  obtain ⟨-, kc0, hkc0, cm0, hkk0⟩ := (hK.2 0 _ rfl).1 n0 (fun j => .int (μ k0 j))
  obtain ⟨-, kc1, hkc1, cm1, hkk1⟩ := (hK.2 0 _ rfl).1 n1 (fun j => .int (μ k1 j))
  obtain ⟨vm', X', step⟩ := X.arraycopy hx hown (hts _ hlk) (hts _ hnat) (hts _ hst) (hts _ hini) (src := E.1 + k0) (dst := E.1 + k1) (cs := arrV (E.2.2.1 0) n0 (fun j => .int (μ k0 j))) (cd := arrV (E.2.2.1 0) n1 (fun j => .int (μ k1 j))) (srcPos := sp) (destPos := dp) (n := n) (by rw [hT]; exact hq0) (by rw [hT]; exact hq1)
    (fun _ h => by cases h) (fun _ h => by cases h) (fun h => by cases h) (fun h => by cases h) hkc0 hkc1 hkk0 hkk1 (by simp [refKind]) h1 h2 h3
    (by rw [x_nn h1, x_nn h3]; show ¬ _ > ((arrV _ n0 (fun j => .int (μ k0 j))).slots.size : Int); rw [arrV_size]; omega)
    (by rw [x_nn h2, x_nn h3]; show ¬ _ > ((arrV _ n1 (fun j => .int (μ k1 j))).slots.size : Int); rw [arrV_size]; omega)
    (fun vm₁ _ i hi => by
      have e : (arrV (E.2.2.1 0) n0 (fun j => Value.int (μ k0 j))).slots.getD (sp.toNatClampNeg + i) .null = .int (μ k0 (sp.toNatClampNeg + i)) := by
        rw [Array.getD_eq_getD_getElem?, arrV_read _ _ (by omega)]
        rfl
      refine ⟨?_, ?_⟩
      · rw [e]
        rfl
      · rw [e]
        exact trivial)
    (g := F0 m pc ls (.int n :: .int dp :: .ref (E.1 + k1) :: .int sp :: .ref (E.1 + k0) :: st)) rfl (by show ls.size = c.maxLocals; rw [hml]; exact hl.1) (rest := st) rfl (by rw [hb]; exact hd) hf (by show 2 * 0 + _ + _ ≤ _; rw [hnf]; omega)
  have e1 : copied (arrV (E.2.2.1 0) n0 (fun j => .int (μ k0 j))) (arrV (E.2.2.1 0) n1 (fun j => .int (μ k1 j))) sp dp n = arrV (E.2.2.1 0) n1 (fun j => .int (va_cpy (μ k0) (μ k1) sp.toNatClampNeg dp.toNatClampNeg n.toNatClampNeg j)) := va_copied (fun z => .int z) _ _ (μ k0) (μ k1) h4
  rw [e1] at X' step
  have hlt : E.1 + k1 < H.size := (Array.getElem?_eq_some_iff.mp hq1).1
  obtain ⟨t, a1, b1⟩ := kk p e s m args below meth c (H.setIfInBounds (E.1 + k1) (arrV (E.2.2.1 0) n1 (fun j => .int (va_cpy (μ k0) (μ k1) sp.toNatClampNeg dp.toNatClampNeg n.toNatClampNeg j)))) ls _ F
    (x_P_set hP k1 (fun q hq => by simp [Array.getElem?_setIfInBounds, Ne.symm hq]) (by
      unfold x_at
      rw [if_neg (by omega)]
      have e2 : x_val E (cpy2 μ k0 k1 sp.toNatClampNeg dp.toNatClampNeg n.toNatClampNeg) k1 = fun j => .int (va_cpy (μ k0) (μ k1) sp.toNatClampNeg dp.toNatClampNeg n.toNatClampNeg j) := funext fun j => by rw [x_val_int (x_rf0 hk1)]; simp [cpy2]
      rw [e2, hk1, hn1]
      simp [Array.getElem?_setIfInBounds, hlt]) (fun a ha => by simp [cpy2, ha])) hl
    ⟨by simp; exact hS.1, fun q g1 g2 => by
      rw [Array.getElem?_setIfInBounds, if_neg (fun h => g2 (by rw [← h]; exact Nat.le_add_right _ _))]
      exact hS.2.1 q g1 g2, fun q hq => by
      rcases List.mem_append.mp hq with h | h
      · exact hS.2.2 q h
      · obtain ⟨z, -, hz⟩ := List.mem_map.mp h
        rw [← hz]
        exact Nat.le_add_right _ _⟩ ((T.setVm vm').setCell (E.1 + k1) (arrV (E.2.2.1 0) n1 (fun j => .int (va_cpy (μ k0) (μ k1) sp.toNatClampNeg dp.toNatClampNeg n.toNatClampNeg j)))) (by rw [← hT]; rfl) X'
  exact ⟨t, step t a1, b1⟩
/-- getstatic of the two tables; what they hold -/
theorem x_getsK {idx : Nat} (hlk : Cond.fieldLink y.1.cls idx "FaithRails" "KIND_ABOVE" "[I" ∈ x_tbl) (hd : x_dec y pc (.getstatic idx) 3 nx) (k : x_G l E y v μ nx lv (.ref E.2.2.2.1 :: st)) : x_G l E y v μ pc lv st := by
  intro p e s m args below meth c H ls locs F hP hl hS
  obtain ⟨hd, rfl⟩ := hd
  obtain ⟨hx, hb, hr, hlk', hml, hown, hts, hK, hZ, hc1, hc2, hcx⟩ := id F
  exact va_gets hx hb hZ.1.1 hS hown (hts _ hlk) (fun _ h => h) hd (k p e s m args below meth c H ls locs F hP hl hS)
theorem x_getsN {idx : Nat} (hlk : Cond.fieldLink y.1.cls idx "FaithRailsModel" "NAMES" "[I" ∈ x_tbl) (hd : x_dec y pc (.getstatic idx) 3 nx) (k : x_G l E y v μ nx lv (.ref E.2.2.2.2.1 :: st)) : x_G l E y v μ pc lv st := by
  intro p e s m args below meth c H ls locs F hP hl hS
  obtain ⟨hd, rfl⟩ := hd
  obtain ⟨hx, hb, hr, hlk', hml, hown, hts, hK, hZ, hc1, hc2, hcx⟩ := id F
  exact va_gets hx hb hZ.2.1.1 hS hown (hts _ hlk) (fun _ h => h) hd (k p e s m args below meth c H ls locs F hP hl hS)
theorem x_T_ld {E : x_E} {s : State} {H : Heap} {locs : List Loc} {t N : Nat} {f : Nat → Value} (hT : va_T .int t N f (x_A E) s s.heap) (hS : va_S (x_A E) s.heap H locs) : ∃ cell : Cell, H[t]? = some cell ∧ s.isArrayOf cell .int ∧ cell.vm ≠ .unknown ∧ N ≤ cell.slots.size ∧ (∀ j : Nat, j < N → cell.slots[j]? = some (f j)) := by
  obtain ⟨cell, h1, h2, h3, h4, h5, h6, h7⟩ := hT.kept hS.2.1
  exact ⟨cell, h1, h2, h3, h4, h6⟩
theorem x_ialdK {i : Int32} (hin : vp_in i 7) (hd : x_dec y pc .iaload 1 nx) (kk : x_G l E y v μ nx lv (.int (x_above.getD i.toNatClampNeg 0) :: st)) : x_G l E y v μ pc lv (.int i :: .ref E.2.2.2.1 :: st) := by
  intro p e s m args below meth c H ls locs F hP hl hS
  obtain ⟨hd, rfl⟩ := hd
  obtain ⟨hx, hb, hr, hlk', hml, hown, hts, hK, hZ, hc1, hc2, hcx⟩ := id F
  obtain ⟨cell, h1, h2, h3, h4, h5⟩ := x_T_ld hZ.1.2 hS
  have hlt : i.toNatClampNeg < 7 := Nat.not_le.mp fun q => hin (Or.inr q)
  exact W.iald (v := .int (x_above.getD i.toNatClampNeg 0)) hx hb h1 h2 h3 (fun q => q.elim (fun q => hin (Or.inl q)) (fun q => by omega)) (h5 _ hlt) rfl rfl hd (kk p e s m args below meth c H ls locs F hP hl hS)
theorem x_ialdT {i : Int32} (hin : vp_in i 120) (hd : x_dec y pc .iaload 1 nx) (kk : x_G l E y v μ nx lv (.int (x_names.getD i.toNatClampNeg 0) :: st)) : x_G l E y v μ pc lv (.int i :: .ref E.2.2.2.2.1 :: st) := by
  intro p e s m args below meth c H ls locs F hP hl hS
  obtain ⟨hd, rfl⟩ := hd
  obtain ⟨hx, hb, hr, hlk', hml, hown, hts, hK, hZ, hc1, hc2, hcx⟩ := id F
  obtain ⟨cell, h1, h2, h3, h4, h5⟩ := x_T_ld hZ.2.1.2 hS
  have hlt : i.toNatClampNeg < 120 := Nat.not_le.mp fun q => hin (Or.inr q)
  exact W.iald (v := .int (x_names.getD i.toNatClampNeg 0)) hx hb h1 h2 h3 (fun q => q.elim (fun q => hin (Or.inl q)) (fun q => by omega)) (h5 _ hlt) rfl rfl hd (kk p e s m args below meth c H ls locs F hP hl hS)
/-- the one private static method that another class of the nest calls -/
theorem x_csN {y2 : x_M} {n idx : Nat} {as stk : List Value} {P2 : Int32 → x_Mem → Prop} (hM : x_Met l y2 E as μ (x_I P2)) (hw : x_VM y2 n) (hi : Cond.static y2.1 ∈ x_tbl) (hy : y.1.cls = "FaithRails$Prairie") (hx73 : idx = 73) (hy2 : y2.1 = yX3_has) (hn : as.length = n) (hR : y2.2.2.2.2.1 + 1 ≤ v.1.frames ∧ 8 + (y2.2.2.1 + 11) + y2.2.2.2.2.2 ≤ v.1.locals) (hstk : stk = as.reverse ++ st) (hst : (st.map fun w => w.category).sum ≤ 8) (hd : x_dec y pc (.invokestatic idx) 3 nx)
    (kk : ∀ (z : Int32) (μ' : x_Mem), P2 z μ' → x_G l E y v μ' nx lv (.int z :: st)) : x_G l E y v μ pc lv stk := by
  intro p e s m args below meth c H ls locs F hP hl' hS
  obtain ⟨hd, rfl⟩ := hd
  subst hstk hx73
  obtain ⟨hx, hb, hr, hlo, hml, hown, hts, hK, hZ, hc1, hc2, hcx⟩ := id F
  have hnw : va_Nw (.methodLinkNest y.1.cls 73 y2.1 "FaithRails") s := by rw [hy, hy2]; exact hZ.2.2.2.2.2.2
  have run := va_runSN (As := as) (rest := st) (g := F0 m pc ls (as.reverse ++ st)) (own := y.1.cls) (Ts := x_tbl) (cells := v.2.1) (slots := v.2.2.1) (R := v.1) (locs := locs) (e := e) (below := below) (meth := meth) (H := H) (index := 73)
    ⟨hx, hb, hml, hown, hts⟩ hM ⟨va_cnB n hts (x_goodIn hw) rfl rfl rfl hnw (hts _ hw.2.1) hw.2.2 hR, hts _ hi, trivial⟩
    ⟨x_fb, fun U hU hW => ⟨rfl, by rw [hU]; exact hP, va_K.moved hW.alike hK, by rw [hU]; exact (hZ.warm hW).kept hS.2.1⟩⟩ rfl hn hl'.1 rfl (lv_room hst) hd ⟨hc1, hc2⟩
  exact x_back run hS (fun r μ' H1 locs1 h1 h2 h3 => by obtain ⟨z, rfl, h1⟩ := h1; exact kk z μ' h1 p e s m args below meth c H1 ls locs1 F h2 hl' h3)
/-- loads and stores at places that are written as naturals, with what is known of the value -/
theorem x_ialdN {k : Nat} (n e : Nat) {z : Int32} (hk : x_kd k = 0) (hn : x_ln k = n) (he : e < n) (hb : n < 2 ^ 31) (hz : μ k e = z) (hd : x_dec y pc .iaload 1 nx) (kk : x_G l E y v μ nx lv (.int z :: st)) : x_G l E y v μ pc lv (.int (nI e) :: .ref (E.1 + k) :: st) :=
  x_iald n hk hn (vp_in_nI he hb) hd (by rw [nI_clamp (by omega), hz]; exact kk)
theorem x_baldN {k : Nat} (n e : Nat) {z : Int32} (hk : x_kd k = 1) (hn : x_ln k = n) (he : e < n) (hb : n < 2 ^ 31) (hz : μ k e = z) (hd : x_dec y pc .baload 1 nx) (kk : x_G l E y v μ nx lv (.int z :: st)) : x_G l E y v μ pc lv (.int (nI e) :: .ref (E.1 + k) :: st) :=
  x_bald n hk hn (vp_in_nI he hb) hd (by rw [nI_clamp (by omega), hz]; exact kk)
theorem x_iastN {k : Nat} (n e : Nat) {x : Int32} (hk : x_kd k = 0) (hn : x_ln k = n) (he : e < n) (hb : n < 2 ^ 31) (hd : x_dec y pc .iastore 1 nx) (kk : x_G l E y v (upd2 μ k e x) nx lv st) : x_G l E y v μ pc lv (.int x :: .int (nI e) :: .ref (E.1 + k) :: st) :=
  x_iast n hk hn (vp_in_nI he hb) hd (by rw [nI_clamp (by omega)]; exact kk)
theorem x_bastN {k : Nat} (n e : Nat) {x : Int32} (hk : x_kd k = 1) (hn : x_ln k = n) (he : e < n) (hb : n < 2 ^ 31) (hd : x_dec y pc .bastore 1 nx) (kk : x_G l E y v (upd2 μ k e x.toInt8.toInt32) nx lv st) : x_G l E y v μ pc lv (.int x :: .int (nI e) :: .ref (E.1 + k) :: st) :=
  x_bast n hk hn (vp_in_nI he hb) hd (by rw [nI_clamp (by omega)]; exact kk)
theorem x_getiV {ci k j idx : Nat} {r : vw_C} {z : Int32} (hc : x_okc ci r) (hk : x_kd k = 3 + ci) (hj : j < r.2.2) (hl : Cond.fieldLink y.1.cls idx (r.2.1 j).1 (r.2.1 j).2.1 (r.2.1 j).2.2.1 ∈ x_tbl) (hn : x_rf k j = none) (hz : μ k j = z) (hd : x_dec y pc (.getfield idx) 3 nx) (kk : x_G l E y v μ nx lv (.int z :: st)) : x_G l E y v μ pc lv (.ref (E.1 + k) :: st) :=
  x_geti hc hk hj hl hn hd (by rw [hz]; exact kk)
end XM
/-! stores, the new memory named -/
section XG
variable {l : Launch} {E : x_E} {y : x_M} {v : x_V} {μ : x_Mem} {pc nx len : Nat} {lv lv' : List (Nat × Value)} {st : List Value}
theorem x_putiG {ci k j idx : Nat} {r : vw_C} {x : Int32} (hc : x_okc ci r) (hk : x_kd k = 3 + ci) (hj : j < r.2.2) (hl : Cond.fieldLink y.1.cls idx (r.2.1 j).1 (r.2.1 j).2.1 (r.2.1 j).2.2.1 ∈ x_tbl) (hn : x_rf k j = none) (hfin : (r.2.1 j).2.2.2 = false) (hdt : parseFieldDescriptor (r.2.1 j).2.2.1 = some .int) (hd : x_dec y pc (.putfield idx) 3 nx) (kk : ∀ μ' : x_Mem, μ' = upd2 μ k j x → x_G l E y v μ' nx lv st) : x_G l E y v μ pc lv (.int x :: .ref (E.1 + k) :: st) :=
  x_puti hc hk hj hl hn hfin hdt hd (kk _ rfl)
theorem x_putzG {ci k j idx : Nat} {r : vw_C} {q : Bool} (hc : x_okc ci r) (hk : x_kd k = 3 + ci) (hj : j < r.2.2) (hl : Cond.fieldLink y.1.cls idx (r.2.1 j).1 (r.2.1 j).2.1 (r.2.1 j).2.2.1 ∈ x_tbl) (hn : x_rf k j = none) (hfin : (r.2.1 j).2.2.2 = false) (hdt : parseFieldDescriptor (r.2.1 j).2.2.1 = some .boolean) (hd : x_dec y pc (.putfield idx) 3 nx) (kk : ∀ μ' : x_Mem, μ' = upd2 μ k j (x_b q) → x_G l E y v μ' nx lv st) : x_G l E y v μ pc lv (.int (x_b q) :: .ref (E.1 + k) :: st) :=
  x_putz hc hk hj hl hn hfin hdt hd (kk _ rfl)
theorem x_iastG {k : Nat} (n : Nat) {i x : Int32} (hk : x_kd k = 0) (hn : x_ln k = n) (hin : vp_in i n) (hd : x_dec y pc .iastore 1 nx) (kk : ∀ μ' : x_Mem, μ' = upd2 μ k i.toNatClampNeg x → x_G l E y v μ' nx lv st) : x_G l E y v μ pc lv (.int x :: .int i :: .ref (E.1 + k) :: st) :=
  x_iast n hk hn hin hd (kk _ rfl)
theorem x_iastNG {k : Nat} (n e : Nat) {x : Int32} (hk : x_kd k = 0) (hn : x_ln k = n) (he : e < n) (hb : n < 2 ^ 31) (hd : x_dec y pc .iastore 1 nx) (kk : ∀ μ' : x_Mem, μ' = upd2 μ k e x → x_G l E y v μ' nx lv st) : x_G l E y v μ pc lv (.int x :: .int (nI e) :: .ref (E.1 + k) :: st) :=
  x_iastN n e hk hn he hb hd (kk _ rfl)
theorem x_bastNG {k : Nat} (n e : Nat) {x : Int32} (hk : x_kd k = 1) (hn : x_ln k = n) (he : e < n) (hb : n < 2 ^ 31) (hd : x_dec y pc .bastore 1 nx) (kk : ∀ μ' : x_Mem, μ' = upd2 μ k e x.toInt8.toInt32 → x_G l E y v μ' nx lv st) : x_G l E y v μ pc lv (.int x :: .int (nI e) :: .ref (E.1 + k) :: st) :=
  x_bastN n e hk hn he hb hd (kk _ rfl)
theorem x_copyG {idx k0 k1 : Nat} (n0 n1 sp dp n : Nat) (hk0 : x_kd k0 = 0) (hk1 : x_kd k1 = 0) (hn0 : x_ln k0 = n0) (hn1 : x_ln k1 = n1) (hlk : Cond.methodLink y.1.cls idx arraycopyName ∈ x_tbl) (hnat : Cond.native arraycopyName ∈ x_tbl) (hst : Cond.static arraycopyName ∈ x_tbl) (hini : Cond.initialized "java/lang/System" ∈ x_tbl)
    (h4 : sp + n ≤ n0) (h5 : dp + n ≤ n1) (hb0 : n0 < 2 ^ 31) (hb1 : n1 < 2 ^ 31) (hf : 1 ≤ v.1.frames) (hlo : (st.map fun v => v.category).sum + 18 ≤ v.1.locals) (hd : x_dec y pc (.invokestatic idx) 3 nx)
    (kk : ∀ μ' : x_Mem, μ' = cpy2 μ k0 k1 sp dp n → x_G l E y v μ' nx lv st) : x_G l E y v μ pc lv (.int (nI n) :: .int (nI dp) :: .ref (E.1 + k1) :: .int (nI sp) :: .ref (E.1 + k0) :: st) :=
  x_copy n0 n1 hk0 hk1 hn0 hn1 hlk hnat hst hini (nI_pos (by omega)) (nI_pos (by omega)) (nI_pos (by omega)) (by rw [nI_clamp (by omega), nI_clamp (by omega)]; exact h4) (by rw [nI_clamp (by omega), nI_clamp (by omega)]; exact h5) hf hlo hd (by rw [nI_clamp (by omega), nI_clamp (by omega), nI_clamp (by omega)]; exact kk _ rfl)
end XG
theorem cpy2_in {μ : x_Mem} {k0 k1 n j : Nat} (h : j < n) : cpy2 μ k0 k1 0 0 n k1 j = μ k0 j := by
  show (if k1 = k1 then va_cpy (μ k0) (μ k1) 0 0 n else μ k1) j = μ k0 j
  rw [if_pos rfl]
  show (if 0 ≤ j ∧ j < 0 + n then μ k0 (0 + (j - 0)) else μ k1 j) = μ k0 j
  rw [if_pos ⟨Nat.zero_le j, by omega⟩]
  congr 1
  omega
/-! calls that change nothing -/
section XPC
variable {l : Launch} {E : x_E} {y : x_M} {v : x_V} {μ : x_Mem} {pc nx len : Nat} {lv lv' : List (Nat × Value)} {st : List Value}
theorem x_cvip {y2 : x_M} {k n idx : Nat} {as stk : List Value} {val : Int32} (hM : x_Met l y2 E (.ref (E.1 + k) :: as) μ (x_I (fun z m => z = val ∧ m = μ))) (hw : x_VM y2 n) (hi : x_VI y2) (hlk : Cond.methodLink y.1.cls idx y2.1 ∈ x_tbl) (hk : x_ob k y2.1.cls) (hn : as.length = n) (hR : y2.2.2.2.2.1 + 1 ≤ v.1.frames ∧ 8 + (y2.2.2.1 + 11) + y2.2.2.2.2.2 ≤ v.1.locals) (hstk : stk = as.reverse ++ .ref (E.1 + k) :: st) (hst : (st.map fun w => w.category).sum ≤ 8) (hd : x_dec y pc (.invokevirtual idx) 3 nx)
    (kk : x_G l E y v μ nx lv (.int val :: st)) : x_G l E y v μ pc lv stk :=
  x_cvi hM hw hi hlk hk hn hR hstk hst hd (fun z m h => by rw [h.1, h.2]; exact kk)
theorem x_cvlp {y2 : x_M} {k n idx : Nat} {as stk : List Value} {val : Int64} (hM : x_Met l y2 E (.ref (E.1 + k) :: as) μ (x_L (fun z m => z = val ∧ m = μ))) (hw : x_VM y2 n) (hi : x_VI y2) (hlk : Cond.methodLink y.1.cls idx y2.1 ∈ x_tbl) (hk : x_ob k y2.1.cls) (hn : as.length = n) (hR : y2.2.2.2.2.1 + 1 ≤ v.1.frames ∧ 8 + (y2.2.2.1 + 11) + y2.2.2.2.2.2 ≤ v.1.locals) (hstk : stk = as.reverse ++ .ref (E.1 + k) :: st) (hst : (st.map fun w => w.category).sum ≤ 8) (hd : x_dec y pc (.invokevirtual idx) 3 nx)
    (kk : x_G l E y v μ nx lv (.long val :: st)) : x_G l E y v μ pc lv stk :=
  x_cvl hM hw hi hlk hk hn hR hstk hst hd (fun z m h => by rw [h.1, h.2]; exact kk)
theorem x_csip {y2 : x_M} {n idx : Nat} {as stk : List Value} {val : Int32} (hM : x_Met l y2 E as μ (x_I (fun z m => z = val ∧ m = μ))) (hw : x_VM y2 n) (hi : Cond.static y2.1 ∈ x_tbl) (hlk : Cond.methodLink y.1.cls idx y2.1 ∈ x_tbl) (hn : as.length = n) (hR : y2.2.2.2.2.1 + 1 ≤ v.1.frames ∧ 8 + (y2.2.2.1 + 11) + y2.2.2.2.2.2 ≤ v.1.locals) (hstk : stk = as.reverse ++ st) (hst : (st.map fun w => w.category).sum ≤ 8) (hd : x_dec y pc (.invokestatic idx) 3 nx)
    (kk : x_G l E y v μ nx lv (.int val :: st)) : x_G l E y v μ pc lv stk :=
  x_csi hM hw hi hlk hn hR hstk hst hd (fun z m h => by rw [h.1, h.2]; exact kk)
theorem x_csNp {y2 : x_M} {n idx : Nat} {as stk : List Value} {val : Int32} (hM : x_Met l y2 E as μ (x_I (fun z m => z = val ∧ m = μ))) (hw : x_VM y2 n) (hi : Cond.static y2.1 ∈ x_tbl) (hy : y.1.cls = "FaithRails$Prairie") (hx73 : idx = 73) (hy2 : y2.1 = yX3_has) (hn : as.length = n) (hR : y2.2.2.2.2.1 + 1 ≤ v.1.frames ∧ 8 + (y2.2.2.1 + 11) + y2.2.2.2.2.2 ≤ v.1.locals) (hstk : stk = as.reverse ++ st) (hst : (st.map fun w => w.category).sum ≤ 8) (hd : x_dec y pc (.invokestatic idx) 3 nx)
    (kk : x_G l E y v μ nx lv (.int val :: st)) : x_G l E y v μ pc lv stk :=
  x_csN hM hw hi hy hx73 hy2 hn hR hstk hst hd (fun z m h => by rw [h.1, h.2]; exact kk)
end XPC
theorem x_down (P : Nat → Prop) (N : Nat) (h : ∀ i, i ≤ N → (∀ i', i < i' → i' ≤ N → P i') → P i) : ∀ i, i ≤ N → P i := by
  have key : ∀ d i, i ≤ N → N - i = d → P i := by
    intro d
    induction d using Nat.strongRecOn with
    | _ d ih =>
      intro i hi hd
      exact h i hi (fun i' h1 h2 => ih (N - i') (by omega) i' h2 rfl)
  exact fun i hi => key _ i hi rfl
theorem x_inc (i : Nat) : nI i + Int32.ofInt 1 = nI (i + 1) := nI_1 i
/-- a comparison with a bound that is a natural -/
theorem x_ge {x B : Int32} {i N : Nat} (h : B ≤ x) (hx : x = nI i) (hB : B = nI N) (hi : i < 2 ^ 31) (hN : N < 2 ^ 31) : N ≤ i := by
  subst hx hB
  exact (nI_leI hN hi).mp h
theorem x_lt {x B : Int32} {i N : Nat} (h : ¬ B ≤ x) (hx : x = nI i) (hB : B = nI N) (hi : i < 2 ^ 31) (hN : N < 2 ^ 31) : i < N := by
  rcases Nat.lt_or_ge i N with q | q
  · exact q
  · subst hx hB
    exact absurd (nI_le q hi) h
/-- a line stands at one of three places -/
def x_pr (o : Nat) : Prop := o = 1 ∨ o = 10 ∨ o = 19
theorem x_pr1 : x_pr 1 := Or.inl rfl
theorem x_pr10 : x_pr 10 := Or.inr (Or.inl rfl)
theorem x_pr19 : x_pr 19 := Or.inr (Or.inr rfl)
theorem p_kd {o : Nat} (h : x_pr o) : x_kd o = 3 + 0 := by rcases h with rfl | rfl | rfl <;> rfl
theorem p_ob {o : Nat} (h : x_pr o) : x_ob o RX0 := ⟨0, (RX0, TX0, 16), p_kd h, rfl, rfl⟩
theorem p_f0 {o : Nat} (h : x_pr o) : x_rf o 0 = some (o + 1) := by rcases h with rfl | rfl | rfl <;> rfl
theorem p_f1 {o : Nat} (h : x_pr o) : x_rf o 1 = some (o + 2) := by rcases h with rfl | rfl | rfl <;> rfl
theorem p_f2 {o : Nat} (h : x_pr o) : x_rf o 2 = some (o + 3) := by rcases h with rfl | rfl | rfl <;> rfl
theorem p_f3 {o : Nat} (h : x_pr o) : x_rf o 3 = some (o + 4) := by rcases h with rfl | rfl | rfl <;> rfl
theorem p_f4 {o : Nat} (h : x_pr o) : x_rf o 4 = some (o + 5) := by rcases h with rfl | rfl | rfl <;> rfl
theorem p_n5 {o : Nat} (h : x_pr o) : x_rf o 5 = none := by rcases h with rfl | rfl | rfl <;> rfl
theorem p_n6 {o : Nat} (h : x_pr o) : x_rf o 6 = none := by rcases h with rfl | rfl | rfl <;> rfl
theorem p_n7 {o : Nat} (h : x_pr o) : x_rf o 7 = none := by rcases h with rfl | rfl | rfl <;> rfl
theorem p_n8 {o : Nat} (h : x_pr o) : x_rf o 8 = none := by rcases h with rfl | rfl | rfl <;> rfl
theorem p_n9 {o : Nat} (h : x_pr o) : x_rf o 9 = none := by rcases h with rfl | rfl | rfl <;> rfl
theorem p_n10 {o : Nat} (h : x_pr o) : x_rf o 10 = none := by rcases h with rfl | rfl | rfl <;> rfl
theorem p_n11 {o : Nat} (h : x_pr o) : x_rf o 11 = none := by rcases h with rfl | rfl | rfl <;> rfl
theorem p_n12 {o : Nat} (h : x_pr o) : x_rf o 12 = none := by rcases h with rfl | rfl | rfl <;> rfl
theorem p_f13 {o : Nat} (h : x_pr o) : x_rf o 13 = some (o + 6) := by rcases h with rfl | rfl | rfl <;> rfl
theorem p_f14 {o : Nat} (h : x_pr o) : x_rf o 14 = some (o + 7) := by rcases h with rfl | rfl | rfl <;> rfl
theorem p_f15 {o : Nat} (h : x_pr o) : x_rf o 15 = some (o + 8) := by rcases h with rfl | rfl | rfl <;> rfl
theorem p_k1 {o : Nat} (h : x_pr o) : x_kd (o + 1) = 0 := by rcases h with rfl | rfl | rfl <;> rfl
theorem p_l1 {o : Nat} (h : x_pr o) : x_ln (o + 1) = 16 := by rcases h with rfl | rfl | rfl <;> rfl
theorem p_k2 {o : Nat} (h : x_pr o) : x_kd (o + 2) = 0 := by rcases h with rfl | rfl | rfl <;> rfl
theorem p_l2 {o : Nat} (h : x_pr o) : x_ln (o + 2) = 8 := by rcases h with rfl | rfl | rfl <;> rfl
theorem p_k3 {o : Nat} (h : x_pr o) : x_kd (o + 3) = 0 := by rcases h with rfl | rfl | rfl <;> rfl
theorem p_l3 {o : Nat} (h : x_pr o) : x_ln (o + 3) = 8 := by rcases h with rfl | rfl | rfl <;> rfl
theorem p_k4 {o : Nat} (h : x_pr o) : x_kd (o + 4) = 0 := by rcases h with rfl | rfl | rfl <;> rfl
theorem p_l4 {o : Nat} (h : x_pr o) : x_ln (o + 4) = 8 := by rcases h with rfl | rfl | rfl <;> rfl
theorem p_k5 {o : Nat} (h : x_pr o) : x_kd (o + 5) = 0 := by rcases h with rfl | rfl | rfl <;> rfl
theorem p_l5 {o : Nat} (h : x_pr o) : x_ln (o + 5) = 10 := by rcases h with rfl | rfl | rfl <;> rfl
theorem p_k6 {o : Nat} (h : x_pr o) : x_kd (o + 6) = 0 := by rcases h with rfl | rfl | rfl <;> rfl
theorem p_l6 {o : Nat} (h : x_pr o) : x_ln (o + 6) = 8 := by rcases h with rfl | rfl | rfl <;> rfl
theorem p_k7 {o : Nat} (h : x_pr o) : x_kd (o + 7) = 0 := by rcases h with rfl | rfl | rfl <;> rfl
theorem p_l7 {o : Nat} (h : x_pr o) : x_ln (o + 7) = 18 := by rcases h with rfl | rfl | rfl <;> rfl
theorem p_k8 {o : Nat} (h : x_pr o) : x_kd (o + 8) = 0 := by rcases h with rfl | rfl | rfl <;> rfl
theorem p_l8 {o : Nat} (h : x_pr o) : x_ln (o + 8) = 18 := by rcases h with rfl | rfl | rfl <;> rfl
/-- a sheet stands at one of four places -/
def x_sq (q : Nat) : Prop := q = 33 ∨ q = 35 ∨ q = 37 ∨ q = 39
theorem x_sqs {i : Nat} (h : i < 4) : x_sq (33 + 2 * i) := by unfold x_sq; omega
theorem s_kd {q : Nat} (h : x_sq q) : x_kd q = 3 + 1 := by rcases h with rfl | rfl | rfl | rfl <;> rfl
theorem s_ob {q : Nat} (h : x_sq q) : x_ob q RX1 := ⟨1, (RX1, TX1, 3), s_kd h, rfl, rfl⟩
theorem s_n0 {q : Nat} (h : x_sq q) : x_rf q 0 = none := by rcases h with rfl | rfl | rfl | rfl <;> rfl
theorem s_n1 {q : Nat} (h : x_sq q) : x_rf q 1 = none := by rcases h with rfl | rfl | rfl | rfl <;> rfl
theorem s_f2 {q : Nat} (h : x_sq q) : x_rf q 2 = some (q + 1) := by rcases h with rfl | rfl | rfl | rfl <;> rfl
theorem s_k1 {q : Nat} (h : x_sq q) : x_kd (q + 1) = 0 := by rcases h with rfl | rfl | rfl | rfl <;> rfl
theorem s_l1 {q : Nat} (h : x_sq q) : x_ln (q + 1) = 40 := by rcases h with rfl | rfl | rfl | rfl <;> rfl
theorem o_X : x_ob 0 RX3 := ⟨3, (RX3, TX3, 8), rfl, rfl, rfl⟩
theorem o_T : x_ob 28 RX2 := ⟨2, (RX2, TX2, 6), rfl, rfl, rfl⟩
theorem o_M : x_ob 41 RX4 := ⟨4, (RX4, TX4, 17), rfl, rfl, rfl⟩
