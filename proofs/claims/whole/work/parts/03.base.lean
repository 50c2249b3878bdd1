/-! BASE: one flat memory for all objects of the class and of the reference (they are made once, side by side), one judgement x_G, a row an instruction. -/
abbrev x_Mem : Type := Nat → Nat → Int32
/-- where the block begins; classes and slots; array classes (0 int, 1 byte, 2 Sheet); the static tables' cells; the string constants' cells -/
abbrev x_E : Type := Nat × va_G × (Nat → ClassId) × Nat × Nat × (Nat → Nat) × (Nat → Nat)
def x_A (E : x_E) : Nat → Prop := fun q => E.1 ≤ q
/-- what each cell is: 0 int array, 1 byte array, 2 array of sheets, 3 + i an object of class i -/
def x_kds : List Nat := [6, 3, 0, 0, 0, 0, 0, 0, 0, 0, 3, 0, 0, 0, 0, 0, 0, 0, 0, 3, 0, 0, 0, 0, 0, 0, 0, 0, 5, 1, 2, 0, 0, 4, 0, 4, 0, 4, 0, 4, 0, 7, 0, 0, 0, 0, 0, 0, 0, 0, 0, 0]
def x_lns : List Nat := [0, 0, 16, 8, 8, 8, 10, 8, 18, 18, 0, 16, 8, 8, 8, 10, 8, 18, 18, 0, 16, 8, 8, 8, 10, 8, 18, 18, 0, 120, 4, 128, 7, 0, 40, 0, 40, 0, 40, 0, 40, 0, 58, 58, 58, 7, 8, 58, 4, 4, 160, 120]
def x_kd (k : Nat) : Nat := x_kds.getD k 9
def x_ln (k : Nat) : Nat := x_lns.getD k 0
def x_rfX (j : Nat) : Option Nat := [some 1, some 10, some 19, none, some 28, some 30, some 31, some 32].getD j none
def x_rfM (j : Nat) : Option Nat := [some 42, some 43, some 44, none, some 45, some 46, some 47, some 48, some 49, some 50, some 51].getD j none
/-- the cell that a reference's place names -/
def x_rf (k j : Nat) : Option Nat :=
  if x_kd k = 3 then (if j < 5 then some (k + 1 + j) else if j < 13 then none else some (k + j - 7))
  else if x_kd k = 4 then (if j = 2 then some (k + 1) else none)
  else if x_kd k = 5 then (if j = 0 then some 29 else none)
  else if x_kd k = 6 then x_rfX j
  else if x_kd k = 7 then x_rfM j
  else if x_kd k = 2 then some (33 + 2 * j)
  else none
def x_val (E : x_E) (μ : x_Mem) (k j : Nat) : Value := match x_rf k j with
  | some t => .ref (E.1 + t)
  | none => .int (μ k j)
def x_at (E : x_E) (μ : x_Mem) (k : Nat) (H : Heap) : Prop :=
  if 3 ≤ x_kd k then ∃ r : vw_C, x_cl[x_kd k - 3]? = some r ∧ t_OB (E.1 + k) (E.2.1.1 (x_kd k - 3)) r.2.2 (E.2.1.2 (x_kd k - 3)) H (x_val E μ k)
  else H[E.1 + k]? = some (arrV (E.2.2.1 (x_kd k)) (x_ln k) (x_val E μ k))
def x_P (E : x_E) (μ : x_Mem) (H : Heap) : Prop := ∀ k : Nat, k < 52 → x_at E μ k H
abbrev x_tys (E : x_E) : List (ClassId × FieldType) := [(E.2.2.1 0, .int), (E.2.2.1 1, .byte), (E.2.2.1 2, .object RX1)]
def x_K (E : x_E) (U : State) : Prop := va_K E.2.1 x_cl (x_tys E) U
-- static tables and string constants
def x_above : List Int32 := [-1, 0, 0, 2, 3, 0, 1]
def x_names : List Int32 := [114, 105, 100, 101, 114, 0, 0, 0, 100, 111, 117, 98, 116, 101, 114, 0, 112, 114, 111, 112, 104, 101, 116, 0, 98, 97, 110, 107, 101, 114, 0, 0, 115, 101, 108, 108, 101, 114, 0, 0, 99, 104, 105, 108, 100, 0, 0, 0, 115, 99, 101, 112, 116, 105, 99, 0, 119, 97, 105, 116, 115, 0, 0, 0, 98, 101, 108, 105, 101, 118, 101, 115, 110, 101, 101, 100, 0, 0, 0, 0, 116, 114, 97, 105, 110, 0, 0, 0, 103, 97, 105, 110, 0, 0, 0, 0, 108, 111, 115, 115, 0, 0, 0, 0, 110, 105, 103, 104, 116, 0, 0, 0, 100, 97, 121, 0, 0, 0, 0, 0]
def x_sbyt : List (List Int32) := [[114, 105, 100, 101, 114], [100, 111, 117, 98, 116, 101, 114], [112, 114, 111, 112, 104, 101, 116], [98, 97, 110, 107, 101, 114], [115, 101, 108, 108, 101, 114], [99, 104, 105, 108, 100], [115, 99, 101, 112, 116, 105, 99], [119, 97, 105, 116, 115], [98, 101, 108, 105, 101, 118, 101, 115], [110, 101, 101, 100], [116, 114, 97, 105, 110], [103, 97, 105, 110], [108, 111, 115, 115], [110, 105, 103, 104, 116], [100, 97, 121]]
def x_slen : List Nat := x_sbyt.map List.length
def x_sidx : List Nat := [79, 81, 83, 85, 87, 89, 91, 96, 98, 46, 55, 65, 69, 73, 77]
def x_stx : List String := ["rider", "doubter", "prophet", "banker", "seller", "child", "sceptic", "waits", "believes", "need", "train", "gain", "loss", "night", "day"]
def x_Z (E : x_E) (U : State) (H : Heap) : Prop :=
  (va_Z "FaithRails" "KIND_ABOVE" "[I" (.ref E.2.2.2.1) (x_A E) U H ∧ va_T .int E.2.2.2.1 7 (fun j => .int (x_above.getD j 0)) (x_A E) U H) ∧
  (va_Z "FaithRailsModel" "NAMES" "[I" (.ref E.2.2.2.2.1) (x_A E) U H ∧ va_T .int E.2.2.2.2.1 120 (fun j => .int (x_names.getD j 0)) (x_A E) U H) ∧
  vk_S 15 x_slen x_sbyt E.2.2.2.2.2.1 E.2.2.2.2.2.2 (x_A E) U H ∧
  (∀ i : Nat, i < 15 → vk_R "FaithRails$Tape" (x_sidx.getD i 0) (x_stx.getD i "") (E.2.2.2.2.2.1 i) U) ∧
  va_Z "java/lang/String" "COMPACT_STRINGS" "Z" (.int 1) (x_A E) U H ∧
  va_Zq "jdk/internal/util/Preconditions" "SIOOBE_FORMATTER" "Ljava/util/function/BiFunction;" (x_A E) U H ∧
  va_Nw (.methodLinkNest "FaithRails$Prairie" 73 yX3_has "FaithRails") U
theorem x_Z.warm {E : x_E} {s U : State} {H : Heap} (hW : s.WarmedH U.vm) (h : x_Z E s H) : x_Z E U H := by
  obtain ⟨⟨a1, a2⟩, ⟨b1, b2⟩, c1, c2, d1, d2, d3⟩ := h
  have hv := hW.alike
  exact ⟨⟨va_Z.moved hv a1, va_T.moved hv a2⟩, ⟨va_Z.moved hv b1, va_T.moved hv b2⟩, vk_S.moved hv c1, fun i hi => vk_R.warm hW (c2 i hi), va_Z.moved hv d1, va_Zq.moved hv d2, va_Nw.warmM hW d3⟩
theorem x_Z.same {E : x_E} {s U : State} {H : Heap} (hW : U.vm = s.vm) (h : x_Z E s H) : x_Z E U H := by
  obtain ⟨⟨a1, a2⟩, ⟨b1, b2⟩, c1, c2, d1, d2, d3⟩ := h
  have hv : s.vm.Alike U.vm := by rw [hW]; exact Vm.Alike.refl s.vm
  exact ⟨⟨va_Z.moved hv a1, va_T.moved hv a2⟩, ⟨va_Z.moved hv b1, va_T.moved hv b2⟩, vk_S.moved hv c1, fun i hi => vk_R.same hW (c2 i hi), va_Z.moved hv d1, va_Zq.moved hv d2, va_Nw.same rfl hW.symm d3⟩
theorem x_Z.kept {E : x_E} {U : State} {H H1 : Heap} (h : x_Z E U H) (hq : ∀ a : Nat, a < H.size → ¬ x_A E a → H1[a]? = H[a]?) : x_Z E U H1 := by
  obtain ⟨⟨a1, a2⟩, ⟨b1, b2⟩, c1, c2, d1, d2, d3⟩ := h
  exact ⟨⟨a1.kept hq, a2.kept hq⟩, ⟨b1.kept hq, b2.kept hq⟩, c1.kept hq, c2, d1.kept hq, d2.kept hq, d3⟩
/-- a method's words: its own code, and the tables' -/
def x_ws (y : x_M) : List Cond := Cond.code y.1 y.2.1 y.2.2.1 y.2.2.2.1 :: x_tbl
def x_rm (y : x_M) : Room := { frames := y.2.2.2.2.1, cells := 0, slots := 0, locals := y.2.2.2.2.2 }
/-- room, cells and slots so far, what else is known of the start, the end that is wanted -/
abbrev x_V : Type := Room × Nat × Nat × (State → Array Value → Prop) × (List Frame → Array Value → State → State → Prop)
def x_F (E : x_E) (y : x_M) (v : x_V) (p : Program) (s : State) (m : MethodId) (args : Array Value) (meth : Method) (c : Code) : Prop :=
  p.tables.exec = Jvm.exec ∧ c.code = y.2.1 ∧ meth.sig.returnType = y.2.2.2.1 ∧ meth.locks = false ∧ c.maxLocals = y.2.2.1 ∧ s.vm.findClass y.1.cls = some m.cls ∧ (∀ w ∈ x_tbl, w.before args s = true) ∧ x_K E s ∧ x_Z E s s.heap ∧ v.2.1 ≤ v.1.cells ∧ v.2.2.1 ≤ v.1.slots ∧ v.2.2.2.1 s args
def x_G (l : Launch) (E : x_E) (y : x_M) (v : x_V) (μ : x_Mem) (pc : Nat) (lv : List (Nat × Value)) (st : List Value) : Prop :=
  ∀ (p : Program) (e : Env) (s : State) (m : MethodId) (args : Array Value) (below : List Frame) (meth : Method) (c : Code) (H : Heap) (ls : Array Slot) (locs : List Loc),
    x_F E y v p s m args meth c → x_P E μ H → lv_has ls y.2.2.1 lv → va_S (x_A E) s.heap H locs →
    W p l e v.1 s m args below meth c H locs v.2.1 v.2.2.1 (v.2.2.2.2 below args s) (F0 m pc ls st)
def x_Q (E : x_E) (Po : Option Value → x_Mem → Prop) : Array Value → State → Outcome → State → Prop := fun _ st o t =>
  ∃ (r : Option Value) (μ : x_Mem), o = .returned r ∧ Po r μ ∧ x_P E μ t.heap ∧ va_F (x_A E) st t
def x_mv (E : x_E) (y : x_M) (Po : Option Value → x_Mem → Prop) : x_V := (x_rm y, 0, 0, (fun _ _ => True), fun below args s => MQ below (x_Q E Po) args s 0 0 (x_A E))
def x_Pre (E : x_E) (μ : x_Mem) (U : State) : Prop := x_P E μ U.heap ∧ x_K E U ∧ x_Z E U U.heap
/-- a method's contract: with these arguments, from this memory, an answer and a memory with Po -/
def x_Met (l : Launch) (y : x_M) (E : x_E) (as : List Value) (μ : x_Mem) (Po : Option Value → x_Mem → Prop) : Prop :=
  Met l y.1 (x_ws y) (x_rm y) (va_Pc as (x_Pre E μ)) (x_Q E Po) 0 0 (x_A E)
def x_dec (y : x_M) (pc : Nat) (i : Instr) (len nx : Nat) : Prop := decode y.2.1 pc = .ok (i, len) ∧ pc + len = nx
theorem x_enter {l : Launch} {E : x_E} {y : x_M} {as : List Value} {μ : x_Mem} {Po : Option Value → x_Mem → Prop} {lv : List (Nat × Value)} (hy : plainName y.1.cls = true) (hlen : (lg_sl as).length ≤ y.2.2.1) (hlv : lv_args 0 as = lv)
    (k : x_G l E y (x_mv E y Po) μ 0 lv []) : x_Met l y E as μ Po := by
  subst hlv
  refine Met.ofW (cc := y.2.1) (maxL := y.2.2.1) (ret := y.2.2.2.1) hy rfl ?_
  intro p e s m args below meth c s₁ B hml hv
  obtain ⟨rfl, hP, hK, hZ⟩ := hv
  have hts : ∀ w ∈ x_tbl, w.before as.toArray s = true := fun w hw => atoms_spec (ws := x_ws y) B.pre w (List.mem_cons_of_mem _ hw)
  have hown : s.vm.findClass y.1.cls = some m.cls := findClass_of_methodNamed B.named
  have hl := lv_entry as (n := y.2.2.1) hlen
  rw [lg_entry_eq]
  exact k p e s m as.toArray below meth c s.heap _ [] ⟨B.exec, B.bytes, B.returns, B.notSynchronized, hml, hown, hts, hK, hZ, Nat.le_refl 0, Nat.le_refl 0, trivial⟩ hP hl va_S.rf
section XR
variable {l : Launch} {E : x_E} {y : x_M} {v : x_V} {μ : x_Mem} {pc nx len : Nat} {lv lv' : List (Nat × Value)} {st : List Value}
theorem x_eqst {st' : List Value} (h : st = st') (k : x_G l E y v μ pc lv st') : x_G l E y v μ pc lv st := h ▸ k
theorem x_top {x : Int32} (k : ∀ z : Int32, z = x → x_G l E y v μ pc lv (.int z :: st)) : x_G l E y v μ pc lv (.int x :: st) := k x rfl
theorem x_mem {μ' : x_Mem} (h : μ = μ') (k : x_G l E y v μ' pc lv st) : x_G l E y v μ pc lv st := h ▸ k
theorem x_iconst {n : Int} {x : Int32} (hd : x_dec y pc (.iconst n) 1 nx) (hv : Int32.ofInt n = x) (k : x_G l E y v μ nx lv (.int x :: st)) : x_G l E y v μ pc lv st := by
  intro p e s m args below meth c H ls locs F hP hl hS
  obtain ⟨hd, rfl⟩ := hd
  exact lv_iconst F.1 F.2.1 hd hv (k p e s m args below meth c H ls locs F hP hl hS)
theorem x_bipush {n : Int} {x : Int32} (hd : x_dec y pc (.bipush n) 2 nx) (hv : (Int8.ofInt n).toInt32 = x) (k : x_G l E y v μ nx lv (.int x :: st)) : x_G l E y v μ pc lv st := by
  intro p e s m args below meth c H ls locs F hP hl hS
  obtain ⟨hd, rfl⟩ := hd
  exact lv_bipush F.1 F.2.1 hd hv (k p e s m args below meth c H ls locs F hP hl hS)
theorem x_sipush {n : Int} {x : Int32} (hd : x_dec y pc (.sipush n) 3 nx) (hv : (Int16.ofInt n).toInt32 = x) (k : x_G l E y v μ nx lv (.int x :: st)) : x_G l E y v μ pc lv st := by
  intro p e s m args below meth c H ls locs F hP hl hS
  obtain ⟨hd, rfl⟩ := hd
  exact lv_sipush F.1 F.2.1 hd hv (k p e s m args below meth c H ls locs F hP hl hS)
theorem x_lconst {n : Fin 2} {x : Int64} (hd : x_dec y pc (.lconst n) 1 nx) (hv : Int64.ofNat (n : Nat) = x) (k : x_G l E y v μ nx lv (.long x :: st)) : x_G l E y v μ pc lv st := by
  intro p e s m args below meth c H ls locs F hP hl hS
  obtain ⟨hd, rfl⟩ := hd
  exact lv_lconst F.1 F.2.1 hd hv (k p e s m args below meth c H ls locs F hP hl hS)
theorem x_iload_n {i : Fin 4} (j : Nat) {q : Nat} {x : Int32} (hd : x_dec y pc (.iload_n i) 1 nx) (hi : (i : Nat) = q) (hj : lv[j]? = some (q, .int x)) (k : x_G l E y v μ nx lv (.int x :: st)) : x_G l E y v μ pc lv st := by
  intro p e s m args below meth c H ls locs F hP hl hS
  obtain ⟨hd, rfl⟩ := hd
  exact lv_iload_n F.1 F.2.1 hd hi (lv_at hl j hj) (k p e s m args below meth c H ls locs F hP hl hS)
theorem x_iload {i : Nat} (j : Nat) {x : Int32} (hd : x_dec y pc (.iload i) 2 nx) (hj : lv[j]? = some (i, .int x)) (k : x_G l E y v μ nx lv (.int x :: st)) : x_G l E y v μ pc lv st := by
  intro p e s m args below meth c H ls locs F hP hl hS
  obtain ⟨hd, rfl⟩ := hd
  exact lv_iload F.1 F.2.1 hd (lv_at hl j hj) (k p e s m args below meth c H ls locs F hP hl hS)
theorem x_lload_n {i : Fin 4} (j : Nat) {q : Nat} {x : Int64} (hd : x_dec y pc (.lload_n i) 1 nx) (hi : (i : Nat) = q) (hj : lv[j]? = some (q, .long x)) (k : x_G l E y v μ nx lv (.long x :: st)) : x_G l E y v μ pc lv st := by
  intro p e s m args below meth c H ls locs F hP hl hS
  obtain ⟨hd, rfl⟩ := hd
  exact lv_lload_n F.1 F.2.1 hd hi (lv_at hl j hj) (k p e s m args below meth c H ls locs F hP hl hS)
theorem x_lload {i : Nat} (j : Nat) {x : Int64} (hd : x_dec y pc (.lload i) 2 nx) (hj : lv[j]? = some (i, .long x)) (k : x_G l E y v μ nx lv (.long x :: st)) : x_G l E y v μ pc lv st := by
  intro p e s m args below meth c H ls locs F hP hl hS
  obtain ⟨hd, rfl⟩ := hd
  exact lv_lload F.1 F.2.1 hd (lv_at hl j hj) (k p e s m args below meth c H ls locs F hP hl hS)
theorem x_aload_n {i : Fin 4} (j : Nat) {q a : Nat} (hd : x_dec y pc (.aload_n i) 1 nx) (hi : (i : Nat) = q) (hj : lv[j]? = some (q, .ref a)) (k : x_G l E y v μ nx lv (.ref a :: st)) : x_G l E y v μ pc lv st := by
  intro p e s m args below meth c H ls locs F hP hl hS
  obtain ⟨hd, rfl⟩ := hd
  exact lv_aload_n F.1 F.2.1 hd hi (lv_at hl j hj) (k p e s m args below meth c H ls locs F hP hl hS)
theorem x_aload {i : Nat} (j : Nat) {a : Nat} (hd : x_dec y pc (.aload i) 2 nx) (hj : lv[j]? = some (i, .ref a)) (k : x_G l E y v μ nx lv (.ref a :: st)) : x_G l E y v μ pc lv st := by
  intro p e s m args below meth c H ls locs F hP hl hS
  obtain ⟨hd, rfl⟩ := hd
  exact lv_aload F.1 F.2.1 hd (lv_at hl j hj) (k p e s m args below meth c H ls locs F hP hl hS)
theorem x_aload_nN {i : Fin 4} (j : Nat) {q : Nat} (hd : x_dec y pc (.aload_n i) 1 nx) (hi : (i : Nat) = q) (hj : lv[j]? = some (q, .null)) (k : x_G l E y v μ nx lv (.null :: st)) : x_G l E y v μ pc lv st := by
  intro p e s m args below meth c H ls locs F hP hl hS
  obtain ⟨hd, rfl⟩ := hd
  exact lv_aload_nN F.1 F.2.1 hd hi (lv_at hl j hj) (k p e s m args below meth c H ls locs F hP hl hS)
theorem x_aloadN {i : Nat} (j : Nat) (hd : x_dec y pc (.aload i) 2 nx) (hj : lv[j]? = some (i, .null)) (k : x_G l E y v μ nx lv (.null :: st)) : x_G l E y v μ pc lv st := by
  intro p e s m args below meth c H ls locs F hP hl hS
  obtain ⟨hd, rfl⟩ := hd
  exact lv_aloadN F.1 F.2.1 hd (lv_at hl j hj) (k p e s m args below meth c H ls locs F hP hl hS)
abbrev x_put1 (lv : List (Nat × Value)) (i : Nat) (x : Value) : List (Nat × Value) := (i, x) :: lv.filter (fun q => !(q.1 == i) && !(q.1 + 1 == i && q.2.category == 2))
abbrev x_put2 (lv : List (Nat × Value)) (i : Nat) (x : Value) : List (Nat × Value) := (i, x) :: lv.filter (fun q => !(q.1 == i) && (!(q.1 == i + 1) && !(q.1 + 1 == i && q.2.category == 2)))
theorem x_istore_n (lv' : List (Nat × Value)) {i : Fin 4} {q : Nat} {x : Int32} (hd : x_dec y pc (.istore_n i) 1 nx) (hi : (i : Nat) = q) (hn : q < y.2.2.1) (hl' : x_put1 lv q (.int x) = lv') (k : x_G l E y v μ nx lv' st) : x_G l E y v μ pc lv (.int x :: st) := by
  intro p e s m args below meth c H ls locs F hP hl hS
  obtain ⟨hd, rfl⟩ := hd
  exact lv_istore_n F.1 F.2.1 hd hi hl hn hl' (fun ls hl => k p e s m args below meth c H ls locs F hP hl hS)
theorem x_istore (lv' : List (Nat × Value)) {i : Nat} {x : Int32} (hd : x_dec y pc (.istore i) 2 nx) (hn : i < y.2.2.1) (hl' : x_put1 lv i (.int x) = lv') (k : x_G l E y v μ nx lv' st) : x_G l E y v μ pc lv (.int x :: st) := by
  intro p e s m args below meth c H ls locs F hP hl hS
  obtain ⟨hd, rfl⟩ := hd
  exact lv_istore F.1 F.2.1 hd hl hn hl' (fun ls hl => k p e s m args below meth c H ls locs F hP hl hS)
theorem x_lstore_n (lv' : List (Nat × Value)) {i : Fin 4} {q : Nat} {x : Int64} (hd : x_dec y pc (.lstore_n i) 1 nx) (hi : (i : Nat) = q) (hn : q + 1 < y.2.2.1) (hl' : x_put2 lv q (.long x) = lv') (k : x_G l E y v μ nx lv' st) : x_G l E y v μ pc lv (.long x :: st) := by
  intro p e s m args below meth c H ls locs F hP hl hS
  obtain ⟨hd, rfl⟩ := hd
  exact lv_lstore_n F.1 F.2.1 hd hi hl hn hl' (fun ls hl => k p e s m args below meth c H ls locs F hP hl hS)
theorem x_lstore (lv' : List (Nat × Value)) {i : Nat} {x : Int64} (hd : x_dec y pc (.lstore i) 2 nx) (hn : i + 1 < y.2.2.1) (hl' : x_put2 lv i (.long x) = lv') (k : x_G l E y v μ nx lv' st) : x_G l E y v μ pc lv (.long x :: st) := by
  intro p e s m args below meth c H ls locs F hP hl hS
  obtain ⟨hd, rfl⟩ := hd
  exact lv_lstore F.1 F.2.1 hd hl hn hl' (fun ls hl => k p e s m args below meth c H ls locs F hP hl hS)
theorem x_astore_n (lv' : List (Nat × Value)) {i : Fin 4} {q a : Nat} (hd : x_dec y pc (.astore_n i) 1 nx) (hi : (i : Nat) = q) (hn : q < y.2.2.1) (hl' : x_put1 lv q (.ref a) = lv') (k : x_G l E y v μ nx lv' st) : x_G l E y v μ pc lv (.ref a :: st) := by
  intro p e s m args below meth c H ls locs F hP hl hS
  obtain ⟨hd, rfl⟩ := hd
  exact lv_astore_n F.1 F.2.1 hd hi hl hn hl' (fun ls hl => k p e s m args below meth c H ls locs F hP hl hS)
theorem x_astore (lv' : List (Nat × Value)) {i a : Nat} (hd : x_dec y pc (.astore i) 2 nx) (hn : i < y.2.2.1) (hl' : x_put1 lv i (.ref a) = lv') (k : x_G l E y v μ nx lv' st) : x_G l E y v μ pc lv (.ref a :: st) := by
  intro p e s m args below meth c H ls locs F hP hl hS
  obtain ⟨hd, rfl⟩ := hd
  exact lv_astore F.1 F.2.1 hd hl hn hl' (fun ls hl => k p e s m args below meth c H ls locs F hP hl hS)
theorem x_astore_nN (lv' : List (Nat × Value)) {i : Fin 4} {q : Nat} (hd : x_dec y pc (.astore_n i) 1 nx) (hi : (i : Nat) = q) (hn : q < y.2.2.1) (hl' : x_put1 lv q .null = lv') (k : x_G l E y v μ nx lv' st) : x_G l E y v μ pc lv (.null :: st) := by
  intro p e s m args below meth c H ls locs F hP hl hS
  obtain ⟨hd, rfl⟩ := hd
  exact lv_astore_nN F.1 F.2.1 hd hi hl hn hl' (fun ls hl => k p e s m args below meth c H ls locs F hP hl hS)
theorem x_astoreN (lv' : List (Nat × Value)) {i : Nat} (hd : x_dec y pc (.astore i) 2 nx) (hn : i < y.2.2.1) (hl' : x_put1 lv i .null = lv') (k : x_G l E y v μ nx lv' st) : x_G l E y v μ pc lv (.null :: st) := by
  intro p e s m args below meth c H ls locs F hP hl hS
  obtain ⟨hd, rfl⟩ := hd
  exact lv_astoreN F.1 F.2.1 hd hl hn hl' (fun ls hl => k p e s m args below meth c H ls locs F hP hl hS)
theorem x_iinc (lv' : List (Nat × Value)) (j : Nat) {i : Nat} {n : Int} {x z : Int32} (hd : x_dec y pc (.iinc i n) 3 nx) (hj : lv[j]? = some (i, .int x)) (hv : x + Int32.ofInt n = z) (hn : i < y.2.2.1) (hl' : x_put1 lv i (.int z) = lv') (k : x_G l E y v μ nx lv' st) : x_G l E y v μ pc lv st := by
  intro p e s m args below meth c H ls locs F hP hl hS
  obtain ⟨hd, rfl⟩ := hd
  exact lv_iinc F.1 F.2.1 hd hl hj hv hn hl' (fun ls hl => k p e s m args below meth c H ls locs F hP hl hS)
/-- fewer locals, in another order, by places -/
theorem x_lv (ks : List Nat) (h : lv_pick lv ks = lv') (k : x_G l E y v μ pc lv' st) : x_G l E y v μ pc lv st := fun p e s m args below meth c H ls locs F hP hl hS => k p e s m args below meth c H ls locs F hP (lv_sub hl ks h) hS
theorem x_iadd {a b : Int32} (hd : x_dec y pc .iadd 1 nx) (k : x_G l E y v μ nx lv (.int (a + b) :: st)) : x_G l E y v μ pc lv (.int b :: .int a :: st) := by
  intro p e s m args below meth c H ls locs F hP hl hS
  obtain ⟨hd, rfl⟩ := hd
  exact lv_iadd F.1 F.2.1 hd (k p e s m args below meth c H ls locs F hP hl hS)
theorem x_isub {a b : Int32} (hd : x_dec y pc .isub 1 nx) (k : x_G l E y v μ nx lv (.int (a - b) :: st)) : x_G l E y v μ pc lv (.int b :: .int a :: st) := by
  intro p e s m args below meth c H ls locs F hP hl hS
  obtain ⟨hd, rfl⟩ := hd
  exact lv_isub F.1 F.2.1 hd (k p e s m args below meth c H ls locs F hP hl hS)
theorem x_imul {a b : Int32} (hd : x_dec y pc .imul 1 nx) (k : x_G l E y v μ nx lv (.int (a * b) :: st)) : x_G l E y v μ pc lv (.int b :: .int a :: st) := by
  intro p e s m args below meth c H ls locs F hP hl hS
  obtain ⟨hd, rfl⟩ := hd
  exact lv_imul F.1 F.2.1 hd (k p e s m args below meth c H ls locs F hP hl hS)
theorem x_iand {a b : Int32} (hd : x_dec y pc .iand 1 nx) (k : x_G l E y v μ nx lv (.int (a &&& b) :: st)) : x_G l E y v μ pc lv (.int b :: .int a :: st) := by
  intro p e s m args below meth c H ls locs F hP hl hS
  obtain ⟨hd, rfl⟩ := hd
  exact lv_iand F.1 F.2.1 hd (k p e s m args below meth c H ls locs F hP hl hS)
theorem x_ior {a b : Int32} (hd : x_dec y pc .ior 1 nx) (k : x_G l E y v μ nx lv (.int (a ||| b) :: st)) : x_G l E y v μ pc lv (.int b :: .int a :: st) := by
  intro p e s m args below meth c H ls locs F hP hl hS
  obtain ⟨hd, rfl⟩ := hd
  exact lv_ior F.1 F.2.1 hd (k p e s m args below meth c H ls locs F hP hl hS)
theorem x_ladd {a b : Int64} (hd : x_dec y pc .ladd 1 nx) (k : x_G l E y v μ nx lv (.long (a + b) :: st)) : x_G l E y v μ pc lv (.long b :: .long a :: st) := by
  intro p e s m args below meth c H ls locs F hP hl hS
  obtain ⟨hd, rfl⟩ := hd
  exact lv_ladd F.1 F.2.1 hd (k p e s m args below meth c H ls locs F hP hl hS)
theorem x_lmul {a b : Int64} (hd : x_dec y pc .lmul 1 nx) (k : x_G l E y v μ nx lv (.long (a * b) :: st)) : x_G l E y v μ pc lv (.long b :: .long a :: st) := by
  intro p e s m args below meth c H ls locs F hP hl hS
  obtain ⟨hd, rfl⟩ := hd
  exact lv_lmul F.1 F.2.1 hd (k p e s m args below meth c H ls locs F hP hl hS)
theorem x_land {a b : Int64} (hd : x_dec y pc .land 1 nx) (k : x_G l E y v μ nx lv (.long (a &&& b) :: st)) : x_G l E y v μ pc lv (.long b :: .long a :: st) := by
  intro p e s m args below meth c H ls locs F hP hl hS
  obtain ⟨hd, rfl⟩ := hd
  exact lv_land F.1 F.2.1 hd (k p e s m args below meth c H ls locs F hP hl hS)
theorem x_idiv {a b : Int32} (hd : x_dec y pc (.idiv) 1 nx) (hne : ¬ b = 0) (k : x_G l E y v μ nx lv (.int (a / b) :: st)) : x_G l E y v μ pc lv (.int b :: .int a :: st) := by
  intro p e s m args below meth c H ls locs F hP hl hS
  obtain ⟨hd, rfl⟩ := hd
  exact lv_idiv F.1 F.2.1 hd hne (k p e s m args below meth c H ls locs F hP hl hS)
theorem x_irem {a b : Int32} (hd : x_dec y pc (.irem) 1 nx) (hne : ¬ b = 0) (k : x_G l E y v μ nx lv (.int (a - a / b * b) :: st)) : x_G l E y v μ pc lv (.int b :: .int a :: st) := by
  intro p e s m args below meth c H ls locs F hP hl hS
  obtain ⟨hd, rfl⟩ := hd
  exact lv_irem F.1 F.2.1 hd hne (k p e s m args below meth c H ls locs F hP hl hS)
theorem x_ldiv {a b : Int64} (hd : x_dec y pc (.ldiv) 1 nx) (hne : ¬ b = 0) (k : x_G l E y v μ nx lv (.long (a / b) :: st)) : x_G l E y v μ pc lv (.long b :: .long a :: st) := by
  intro p e s m args below meth c H ls locs F hP hl hS
  obtain ⟨hd, rfl⟩ := hd
  exact lv_ldiv F.1 F.2.1 hd hne (k p e s m args below meth c H ls locs F hP hl hS)
theorem x_lrem {a b : Int64} (hd : x_dec y pc (.lrem) 1 nx) (hne : ¬ b = 0) (k : x_G l E y v μ nx lv (.long (a - a / b * b) :: st)) : x_G l E y v μ pc lv (.long b :: .long a :: st) := by
  intro p e s m args below meth c H ls locs F hP hl hS
  obtain ⟨hd, rfl⟩ := hd
  exact lv_lrem F.1 F.2.1 hd hne (k p e s m args below meth c H ls locs F hP hl hS)
theorem x_ineg {a : Int32} (hd : x_dec y pc (.ineg) 1 nx) (k : x_G l E y v μ nx lv (.int (-a) :: st)) : x_G l E y v μ pc lv (.int a :: st) := by
  intro p e s m args below meth c H ls locs F hP hl hS
  obtain ⟨hd, rfl⟩ := hd
  exact lv_ineg F.1 F.2.1 hd (k p e s m args below meth c H ls locs F hP hl hS)
theorem x_ishl {a b : Int32} (hd : x_dec y pc (.ishl) 1 nx) (k : x_G l E y v μ nx lv (.int (a <<< (b &&& 31)) :: st)) : x_G l E y v μ pc lv (.int b :: .int a :: st) := by
  intro p e s m args below meth c H ls locs F hP hl hS
  obtain ⟨hd, rfl⟩ := hd
  exact lv_ishl F.1 F.2.1 hd (k p e s m args below meth c H ls locs F hP hl hS)
theorem x_ishr {a b : Int32} (hd : x_dec y pc (.ishr) 1 nx) (k : x_G l E y v μ nx lv (.int (a >>> (b &&& 31)) :: st)) : x_G l E y v μ pc lv (.int b :: .int a :: st) := by
  intro p e s m args below meth c H ls locs F hP hl hS
  obtain ⟨hd, rfl⟩ := hd
  exact lv_ishr F.1 F.2.1 hd (k p e s m args below meth c H ls locs F hP hl hS)
theorem x_iushr {a b : Int32} (hd : x_dec y pc (.iushr) 1 nx) (k : x_G l E y v μ nx lv (.int (a.toUInt32 >>> (b.toUInt32 &&& Int32.toUInt32 31)).toInt32 :: st)) : x_G l E y v μ pc lv (.int b :: .int a :: st) := by
  intro p e s m args below meth c H ls locs F hP hl hS
  obtain ⟨hd, rfl⟩ := hd
  exact lv_iushr F.1 F.2.1 hd rfl (k p e s m args below meth c H ls locs F hP hl hS)
theorem x_i2l {a : Int32} (hd : x_dec y pc (.i2l) 1 nx) (k : x_G l E y v μ nx lv (.long a.toInt64 :: st)) : x_G l E y v μ pc lv (.int a :: st) := by
  intro p e s m args below meth c H ls locs F hP hl hS
  obtain ⟨hd, rfl⟩ := hd
  exact lv_i2l F.1 F.2.1 hd rfl (k p e s m args below meth c H ls locs F hP hl hS)
theorem x_i2b {a : Int32} (hd : x_dec y pc (.i2b) 1 nx) (k : x_G l E y v μ nx lv (.int a.toInt8.toInt32 :: st)) : x_G l E y v μ pc lv (.int a :: st) := by
  intro p e s m args below meth c H ls locs F hP hl hS
  obtain ⟨hd, rfl⟩ := hd
  exact lv_i2b F.1 F.2.1 hd rfl (k p e s m args below meth c H ls locs F hP hl hS)
theorem x_i2s {a : Int32} (hd : x_dec y pc (.i2s) 1 nx) (k : x_G l E y v μ nx lv (.int a.toInt16.toInt32 :: st)) : x_G l E y v μ pc lv (.int a :: st) := by
  intro p e s m args below meth c H ls locs F hP hl hS
  obtain ⟨hd, rfl⟩ := hd
  exact lv_i2s F.1 F.2.1 hd rfl (k p e s m args below meth c H ls locs F hP hl hS)
theorem x_dup {a : Value} (hd : x_dec y pc (.dup) 1 nx) (ha : a.category = 1) (k : x_G l E y v μ nx lv (a :: a :: st)) : x_G l E y v μ pc lv (a :: st) := by
  intro p e s m args below meth c H ls locs F hP hl hS
  obtain ⟨hd, rfl⟩ := hd
  exact lv_dup F.1 F.2.1 hd ha (k p e s m args below meth c H ls locs F hP hl hS)
theorem x_pop {a : Value} (hd : x_dec y pc (.pop) 1 nx) (ha : a.category = 1) (k : x_G l E y v μ nx lv (st)) : x_G l E y v μ pc lv (a :: st) := by
  intro p e s m args below meth c H ls locs F hP hl hS
  obtain ⟨hd, rfl⟩ := hd
  exact lv_pop F.1 F.2.1 hd ha (k p e s m args below meth c H ls locs F hP hl hS)
theorem x_dup2 {a b : Value} (hd : x_dec y pc (.dup2) 1 nx) (ha : a.category = 1) (hb : b.category = 1) (k : x_G l E y v μ nx lv (a :: b :: a :: b :: st)) : x_G l E y v μ pc lv (a :: b :: st) := by
  intro p e s m args below meth c H ls locs F hP hl hS
  obtain ⟨hd, rfl⟩ := hd
  exact lv_dup2_11 F.1 F.2.1 hd ha hb (k p e s m args below meth c H ls locs F hP hl hS)
theorem x_lcmp {a b : Int64} (hd : x_dec y pc (.lcmp) 1 nx) (k : x_G l E y v μ nx lv (.int (lg_cmp a b) :: st)) : x_G l E y v μ pc lv (.long b :: .long a :: st) := by
  intro p e s m args below meth c H ls locs F hP hl hS
  obtain ⟨hd, rfl⟩ := hd
  exact W.lcmp F.1 F.2.1 hd (k p e s m args below meth c H ls locs F hP hl hS)
theorem x_null (hd : x_dec y pc (.aconst_null) 1 nx) (k : x_G l E y v μ nx lv (.null :: st)) : x_G l E y v μ pc lv (st) := by
  intro p e s m args below meth c H ls locs F hP hl hS
  obtain ⟨hd, rfl⟩ := hd
  exact lv_null F.1 F.2.1 hd (k p e s m args below meth c H ls locs F hP hl hS)
theorem x_ifnonnullN {off : Int} (hd : x_dec y pc (.ifnonnull off) 3 nx) (k : x_G l E y v μ nx lv (st)) : x_G l E y v μ pc lv (.null :: st) := by
  intro p e s m args below meth c H ls locs F hP hl hS
  obtain ⟨hd, rfl⟩ := hd
  exact lv_ifnonnullN F.1 F.2.1 hd (k p e s m args below meth c H ls locs F hP hl hS)
theorem x_ifnull {off : Int} {a : Nat} (hd : x_dec y pc (.ifnull off) 3 nx) (k : x_G l E y v μ nx lv (st)) : x_G l E y v μ pc lv (.ref a :: st) := by
  intro p e s m args below meth c H ls locs F hP hl hS
  obtain ⟨hd, rfl⟩ := hd
  exact lv_ifnull F.1 F.2.1 hd (k p e s m args below meth c H ls locs F hP hl hS)
theorem x_ifnonnull (tgt : Nat) {off : Int} {a : Nat} (hd : x_dec y pc (.ifnonnull off) 3 nx) (ht : (pc : Int) + off = (tgt : Int)) (k : x_G l E y v μ tgt lv st) : x_G l E y v μ pc lv (.ref a :: st) := by
  intro p e s m args below meth c H ls locs F hP hl hS
  obtain ⟨hd, rfl⟩ := hd
  exact lv_ifnonnull F.1 F.2.1 hd ht (k p e s m args below meth c H ls locs F hP hl hS)
theorem x_ifnullN (tgt : Nat) {off : Int} (hd : x_dec y pc (.ifnull off) 3 nx) (ht : (pc : Int) + off = (tgt : Int)) (k : x_G l E y v μ tgt lv st) : x_G l E y v μ pc lv (.null :: st) := by
  intro p e s m args below meth c H ls locs F hP hl hS
  obtain ⟨hd, rfl⟩ := hd
  exact lv_ifnullN F.1 F.2.1 hd ht (k p e s m args below meth c H ls locs F hP hl hS)
theorem x_goto (tgt : Nat) {off : Int} (hd : x_dec y pc (.goto off) 3 nx) (ht : (pc : Int) + off = (tgt : Int)) (k : x_G l E y v μ tgt lv st) : x_G l E y v μ pc lv st := by
  intro p e s m args below meth c H ls locs F hP hl hS
  obtain ⟨hd, rfl⟩ := hd
  exact lv_goto F.1 F.2.1 hd ht (k p e s m args below meth c H ls locs F hP hl hS)
theorem x_if_eq (tgt : Nat) {off : Int} {a : Int32} (hd : x_dec y pc (.ifCond .eq off) 3 nx) (ht : (pc : Int) + off = (tgt : Int)) (kt : a = 0 → x_G l E y v μ tgt lv st) (kf : ¬ a = 0 → x_G l E y v μ nx lv st) : x_G l E y v μ pc lv (.int a :: st) := by
  intro p e s m args below meth c H ls locs F hP hl hS
  obtain ⟨hd, rfl⟩ := hd
  exact lv_if_eq F.1 F.2.1 hd ht (fun h => kt h p e s m args below meth c H ls locs F hP hl hS) (fun h => kf h p e s m args below meth c H ls locs F hP hl hS)
theorem x_if_ne (tgt : Nat) {off : Int} {a : Int32} (hd : x_dec y pc (.ifCond .ne off) 3 nx) (ht : (pc : Int) + off = (tgt : Int)) (kt : ¬ a = 0 → x_G l E y v μ tgt lv st) (kf : a = 0 → x_G l E y v μ nx lv st) : x_G l E y v μ pc lv (.int a :: st) := by
  intro p e s m args below meth c H ls locs F hP hl hS
  obtain ⟨hd, rfl⟩ := hd
  exact lv_if_ne F.1 F.2.1 hd ht (fun h => kt h p e s m args below meth c H ls locs F hP hl hS) (fun h => kf h p e s m args below meth c H ls locs F hP hl hS)
theorem x_if_lt (tgt : Nat) {off : Int} {a : Int32} (hd : x_dec y pc (.ifCond .lt off) 3 nx) (ht : (pc : Int) + off = (tgt : Int)) (kt : a < 0 → x_G l E y v μ tgt lv st) (kf : ¬ a < 0 → x_G l E y v μ nx lv st) : x_G l E y v μ pc lv (.int a :: st) := by
  intro p e s m args below meth c H ls locs F hP hl hS
  obtain ⟨hd, rfl⟩ := hd
  exact lv_if_lt F.1 F.2.1 hd ht (fun h => kt h p e s m args below meth c H ls locs F hP hl hS) (fun h => kf h p e s m args below meth c H ls locs F hP hl hS)
theorem x_if_ge (tgt : Nat) {off : Int} {a : Int32} (hd : x_dec y pc (.ifCond .ge off) 3 nx) (ht : (pc : Int) + off = (tgt : Int)) (kt : 0 ≤ a → x_G l E y v μ tgt lv st) (kf : ¬ 0 ≤ a → x_G l E y v μ nx lv st) : x_G l E y v μ pc lv (.int a :: st) := by
  intro p e s m args below meth c H ls locs F hP hl hS
  obtain ⟨hd, rfl⟩ := hd
  exact lv_if_ge F.1 F.2.1 hd ht (fun h => kt h p e s m args below meth c H ls locs F hP hl hS) (fun h => kf h p e s m args below meth c H ls locs F hP hl hS)
theorem x_if_gt (tgt : Nat) {off : Int} {a : Int32} (hd : x_dec y pc (.ifCond .gt off) 3 nx) (ht : (pc : Int) + off = (tgt : Int)) (kt : 0 < a → x_G l E y v μ tgt lv st) (kf : ¬ 0 < a → x_G l E y v μ nx lv st) : x_G l E y v μ pc lv (.int a :: st) := by
  intro p e s m args below meth c H ls locs F hP hl hS
  obtain ⟨hd, rfl⟩ := hd
  exact lv_if_gt F.1 F.2.1 hd ht (fun h => kt h p e s m args below meth c H ls locs F hP hl hS) (fun h => kf h p e s m args below meth c H ls locs F hP hl hS)
theorem x_if_le (tgt : Nat) {off : Int} {a : Int32} (hd : x_dec y pc (.ifCond .le off) 3 nx) (ht : (pc : Int) + off = (tgt : Int)) (kt : a ≤ 0 → x_G l E y v μ tgt lv st) (kf : ¬ a ≤ 0 → x_G l E y v μ nx lv st) : x_G l E y v μ pc lv (.int a :: st) := by
  intro p e s m args below meth c H ls locs F hP hl hS
  obtain ⟨hd, rfl⟩ := hd
  exact lv_if_le F.1 F.2.1 hd ht (fun h => kt h p e s m args below meth c H ls locs F hP hl hS) (fun h => kf h p e s m args below meth c H ls locs F hP hl hS)
theorem x_icmp_eq (tgt : Nat) {off : Int} {a b : Int32} (hd : x_dec y pc (.if_icmp .eq off) 3 nx) (ht : (pc : Int) + off = (tgt : Int)) (kt : a = b → x_G l E y v μ tgt lv st) (kf : ¬ a = b → x_G l E y v μ nx lv st) : x_G l E y v μ pc lv (.int b :: .int a :: st) := by
  intro p e s m args below meth c H ls locs F hP hl hS
  obtain ⟨hd, rfl⟩ := hd
  exact lv_icmp_eq F.1 F.2.1 hd ht (fun h => kt h p e s m args below meth c H ls locs F hP hl hS) (fun h => kf h p e s m args below meth c H ls locs F hP hl hS)
theorem x_icmp_ne (tgt : Nat) {off : Int} {a b : Int32} (hd : x_dec y pc (.if_icmp .ne off) 3 nx) (ht : (pc : Int) + off = (tgt : Int)) (kt : ¬ a = b → x_G l E y v μ tgt lv st) (kf : a = b → x_G l E y v μ nx lv st) : x_G l E y v μ pc lv (.int b :: .int a :: st) := by
  intro p e s m args below meth c H ls locs F hP hl hS
  obtain ⟨hd, rfl⟩ := hd
  exact lv_icmp_ne F.1 F.2.1 hd ht (fun h => kt h p e s m args below meth c H ls locs F hP hl hS) (fun h => kf h p e s m args below meth c H ls locs F hP hl hS)
theorem x_icmp_lt (tgt : Nat) {off : Int} {a b : Int32} (hd : x_dec y pc (.if_icmp .lt off) 3 nx) (ht : (pc : Int) + off = (tgt : Int)) (kt : a < b → x_G l E y v μ tgt lv st) (kf : ¬ a < b → x_G l E y v μ nx lv st) : x_G l E y v μ pc lv (.int b :: .int a :: st) := by
  intro p e s m args below meth c H ls locs F hP hl hS
  obtain ⟨hd, rfl⟩ := hd
  exact lv_icmp_lt F.1 F.2.1 hd ht (fun h => kt h p e s m args below meth c H ls locs F hP hl hS) (fun h => kf h p e s m args below meth c H ls locs F hP hl hS)
theorem x_icmp_ge (tgt : Nat) {off : Int} {a b : Int32} (hd : x_dec y pc (.if_icmp .ge off) 3 nx) (ht : (pc : Int) + off = (tgt : Int)) (kt : b ≤ a → x_G l E y v μ tgt lv st) (kf : ¬ b ≤ a → x_G l E y v μ nx lv st) : x_G l E y v μ pc lv (.int b :: .int a :: st) := by
  intro p e s m args below meth c H ls locs F hP hl hS
  obtain ⟨hd, rfl⟩ := hd
  exact lv_icmp_ge F.1 F.2.1 hd ht (fun h => kt h p e s m args below meth c H ls locs F hP hl hS) (fun h => kf h p e s m args below meth c H ls locs F hP hl hS)
theorem x_icmp_gt (tgt : Nat) {off : Int} {a b : Int32} (hd : x_dec y pc (.if_icmp .gt off) 3 nx) (ht : (pc : Int) + off = (tgt : Int)) (kt : b < a → x_G l E y v μ tgt lv st) (kf : ¬ b < a → x_G l E y v μ nx lv st) : x_G l E y v μ pc lv (.int b :: .int a :: st) := by
  intro p e s m args below meth c H ls locs F hP hl hS
  obtain ⟨hd, rfl⟩ := hd
  exact lv_icmp_gt F.1 F.2.1 hd ht (fun h => kt h p e s m args below meth c H ls locs F hP hl hS) (fun h => kf h p e s m args below meth c H ls locs F hP hl hS)
theorem x_icmp_le (tgt : Nat) {off : Int} {a b : Int32} (hd : x_dec y pc (.if_icmp .le off) 3 nx) (ht : (pc : Int) + off = (tgt : Int)) (kt : a ≤ b → x_G l E y v μ tgt lv st) (kf : ¬ a ≤ b → x_G l E y v μ nx lv st) : x_G l E y v μ pc lv (.int b :: .int a :: st) := by
  intro p e s m args below meth c H ls locs F hP hl hS
  obtain ⟨hd, rfl⟩ := hd
  exact lv_icmp_le F.1 F.2.1 hd ht (fun h => kt h p e s m args below meth c H ls locs F hP hl hS) (fun h => kf h p e s m args below meth c H ls locs F hP hl hS)
/-- a truth value as an int -/
def x_b (q : Bool) : Int32 := if q = true then 1 else 0
theorem x_b_f : x_b false = 0 := rfl
theorem x_b_t : x_b true = 1 := rfl
theorem x_b_nar (q : Bool) : narrow .boolean (.int (x_b q)) = .int (x_b q) := by cases q <;> rfl
theorem x_b_fit (q : Bool) : fits .boolean (.int (x_b q)) = true := by cases q <;> rfl
theorem x_b_0 {q : Bool} : x_b q = 0 ↔ q = false := by cases q <;> decide
theorem x_b_1 {q : Bool} : x_b q = 1 ↔ q = true := by cases q <;> decide
theorem x_ifb_eq (tgt : Nat) {off : Int} {q : Bool} (hd : x_dec y pc (.ifCond .eq off) 3 nx) (ht : (pc : Int) + off = (tgt : Int)) (kt : q = false → x_G l E y v μ tgt lv st) (kf : q = true → x_G l E y v μ nx lv st) : x_G l E y v μ pc lv (.int (x_b q) :: st) :=
  x_if_eq tgt hd ht (fun h => kt (x_b_0.mp h)) (fun h => kf (by cases q with
    | false => exact absurd rfl h
    | true => rfl))
theorem x_ifb_ne (tgt : Nat) {off : Int} {q : Bool} (hd : x_dec y pc (.ifCond .ne off) 3 nx) (ht : (pc : Int) + off = (tgt : Int)) (kt : q = true → x_G l E y v μ tgt lv st) (kf : q = false → x_G l E y v μ nx lv st) : x_G l E y v μ pc lv (.int (x_b q) :: st) :=
  x_if_ne tgt hd ht (fun h => kt (by cases q with
    | false => exact absurd rfl h
    | true => rfl)) (fun h => kf (x_b_0.mp h))
theorem x_ldc {idx : Nat} {a : Int32} (hc : Cond.constant y.1.cls idx a ∈ x_tbl) (hd : x_dec y pc (.ldc idx) 2 nx) (k : x_G l E y v μ nx lv (.int a :: st)) : x_G l E y v μ pc lv st := by
  intro p e s m args below meth c H ls locs F hP hl hS
  obtain ⟨hd, rfl⟩ := hd
  exact lv_ldc F.1 F.2.1 F.2.2.2.2.2.1 (F.2.2.2.2.2.2.1 _ hc) hd (k p e s m args below meth c H ls locs F hP hl hS)
theorem x_ldcw {idx : Nat} {a : Int32} (hc : Cond.constant y.1.cls idx a ∈ x_tbl) (hd : x_dec y pc (.ldc_w idx) 3 nx) (k : x_G l E y v μ nx lv (.int a :: st)) : x_G l E y v μ pc lv st := by
  intro p e s m args below meth c H ls locs F hP hl hS
  obtain ⟨hd, rfl⟩ := hd
  exact lv_ldcw F.1 F.2.1 F.2.2.2.2.2.1 (F.2.2.2.2.2.2.1 _ hc) hd (k p e s m args below meth c H ls locs F hP hl hS)
theorem x_ldc2 {idx : Nat} {a : Int64} (hc : Cond.constantLong y.1.cls idx a ∈ x_tbl) (hd : x_dec y pc (.ldc2_w idx) 3 nx) (k : x_G l E y v μ nx lv (.long a :: st)) : x_G l E y v μ pc lv st := by
  intro p e s m args below meth c H ls locs F hP hl hS
  obtain ⟨hd, rfl⟩ := hd
  exact lv_ldc2 F.1 F.2.1 F.2.2.2.2.2.1 (F.2.2.2.2.2.2.1 _ hc) hd (k p e s m args below meth c H ls locs F hP hl hS)
theorem x_tswIn (tgt : Nat) {dflt lo hi : Int} {offs : Array Int} {len : Nat} {a : Int32} {off : Int} (hd : x_dec y pc (.tableswitch dflt lo hi offs) len nx) (h1 : ¬ a.toInt < lo) (h2 : ¬ hi < a.toInt) (ho : offs[(a.toInt - lo).toNat]? = some off) (ht : (pc : Int) + off = (tgt : Int)) (k : x_G l E y v μ tgt lv st) : x_G l E y v μ pc lv (.int a :: st) := by
  intro p e s m args below meth c H ls locs F hP hl hS
  obtain ⟨hd, rfl⟩ := hd
  exact lv_tableIn F.1 F.2.1 hd h1 h2 ho ht (k p e s m args below meth c H ls locs F hP hl hS)
theorem x_tswOut (tgt : Nat) {dflt lo hi : Int} {offs : Array Int} {len : Nat} {a : Int32} (hd : x_dec y pc (.tableswitch dflt lo hi offs) len nx) (h : a.toInt < lo ∨ hi < a.toInt) (ht : (pc : Int) + dflt = (tgt : Int)) (k : x_G l E y v μ tgt lv st) : x_G l E y v μ pc lv (.int a :: st) := by
  intro p e s m args below meth c H ls locs F hP hl hS
  obtain ⟨hd, rfl⟩ := hd
  exact lv_tableOut F.1 F.2.1 hd h ht (k p e s m args below meth c H ls locs F hP hl hS)
theorem x_lsw (tgt : Nat) {dflt : Int} {ps : Array (Int × Int)} {len : Nat} {a : Int32} {off : Int} (hd : x_dec y pc (.lookupswitch dflt ps) len nx) (hp : (ps.toList.zip (ps.toList.drop 1)).all (fun (a, next) => a.1 < next.1) = true) (ho : Op.lookupswitch.offset ps.toList dflt a.toInt = off) (ht : (pc : Int) + off = (tgt : Int)) (k : x_G l E y v μ tgt lv st) : x_G l E y v μ pc lv (.int a :: st) := by
  intro p e s m args below meth c H ls locs F hP hl hS
  obtain ⟨hd, rfl⟩ := hd
  exact lv_lookup F.1 F.2.1 hd hp ho ht (k p e s m args below meth c H ls locs F hP hl hS)
end XR
/-! the heap -/
theorem x_val_int {E : x_E} {μ : x_Mem} {k j : Nat} (h : x_rf k j = none) : x_val E μ k j = .int (μ k j) := by simp [x_val, h]
theorem x_val_ref {E : x_E} {μ : x_Mem} {k j t : Nat} (h : x_rf k j = some t) : x_val E μ k j = .ref (E.1 + t) := by simp [x_val, h]
theorem x_k52 {k : Nat} (h : x_kd k < 9) : k < 52 := by
  rcases Nat.lt_or_ge k 52 with q | q
  · exact q
  · exfalso
    have : x_kd k = 9 := by
      unfold x_kd
      rw [List.getD_eq_getElem?_getD, List.getElem?_eq_none (by show 52 ≤ k; exact q)]
      rfl
    omega
theorem x_rf0 {k j : Nat} (h : x_kd k = 0) : x_rf k j = none := by simp [x_rf, h]
theorem x_rf1 {k j : Nat} (h : x_kd k = 1) : x_rf k j = none := by simp [x_rf, h]
/-- one place written -/
def upd2 (μ : x_Mem) (k j : Nat) (x : Int32) : x_Mem := fun a => if a = k then upd (μ k) j x else μ a
theorem upd2_at (μ : x_Mem) (k j : Nat) (x : Int32) : upd2 μ k j x k = upd (μ k) j x := by simp [upd2]
theorem upd2_ne (μ : x_Mem) {k a : Nat} (j : Nat) (x : Int32) (h : a ≠ k) : upd2 μ k j x a = μ a := by simp [upd2, h]
theorem x_at_congr {E : x_E} {μ μ' : x_Mem} {k : Nat} {H H1 : Heap} (h : x_at E μ k H) (hm : ∀ j, x_val E μ k j = x_val E μ' k j) (hq : H1[E.1 + k]? = H[E.1 + k]?) : x_at E μ' k H1 := by
  have e : x_val E μ k = x_val E μ' k := funext hm
  unfold x_at at h ⊢
  by_cases h3 : 3 ≤ x_kd k
  · rw [if_pos h3] at h ⊢
    obtain ⟨r, h1, h2⟩ := h
    rw [e] at h2
    exact ⟨r, h1, h2.kept hq⟩
  · rw [if_neg h3] at h ⊢
    rw [hq, h, e]
theorem x_P_set {E : x_E} {μ μ' : x_Mem} {H H1 : Heap} (hP : x_P E μ H) (k : Nat) (oq : ∀ q : Nat, q ≠ E.1 + k → H1[q]? = H[q]?) (hat : x_at E μ' k H1) (hm : ∀ a, a ≠ k → μ' a = μ a) : x_P E μ' H1 := by
  intro a ha
  by_cases h : a = k
  · subst h; exact hat
  · refine x_at_congr (hP a ha) (fun j => ?_) (oq _ (by omega))
    simp [x_val, hm a h]
theorem x_arr {E : x_E} {μ : x_Mem} {H : Heap} (hP : x_P E μ H) {k : Nat} (h : x_kd k < 3) : H[E.1 + k]? = some (arrV (E.2.2.1 (x_kd k)) (x_ln k) (x_val E μ k)) := by
  have := hP k (x_k52 (by omega))
  unfold x_at at this
  rwa [if_neg (by omega)] at this
theorem x_obj {E : x_E} {μ : x_Mem} {H : Heap} (hP : x_P E μ H) {k ci : Nat} (h : x_kd k = 3 + ci) (hc : ci < 5) : ∃ r : vw_C, x_cl[ci]? = some r ∧ t_OB (E.1 + k) (E.2.1.1 ci) r.2.2 (E.2.1.2 ci) H (x_val E μ k) := by
  have := hP k (x_k52 (by omega))
  unfold x_at at this
  rw [if_pos (by omega)] at this
  have e : x_kd k - 3 = ci := by omega
  rwa [e] at this
theorem x_S_put {E : x_E} {H0 H H1 : Heap} {locs : List Loc} {k i : Nat} (h : va_S (x_A E) H0 H locs) (z : H1.size = H.size) (oq : ∀ q : Nat, q ≠ E.1 + k → H1[q]? = H[q]?) : va_S (x_A E) H0 H1 (locs ++ [⟨E.1 + k, i⟩]) := h.put z oq (by unfold x_A; exact Nat.le_add_right _ _)
/-- a class of ours: its table, and all that the words say of its fields -/
def x_okc (ci : Nat) (r : vw_C) : Prop := x_cl[ci]? = some r ∧ (∀ w ∈ u_ws r.1 r.2.1 r.2.2, w ∈ x_tbl) ∧ ∃ ty : Nat → FieldType, (∀ k, k < r.2.2 → parseFieldDescriptor (r.2.1 k).2.2.1 = some (ty k)) ∧ ∀ a, a < r.2.2 → ∀ b, b < r.2.2 → a ≠ b → (r.2.1 a).2.1 ≠ (r.2.1 b).2.1
theorem x_u0 : ∀ w ∈ u_ws RX0 TX0 16, w ∈ x_tbl := by decide +kernel
theorem x_u1 : ∀ w ∈ u_ws RX1 TX1 3, w ∈ x_tbl := by decide +kernel
theorem x_u2 : ∀ w ∈ u_ws RX2 TX2 6, w ∈ x_tbl := by decide +kernel
theorem x_u3 : ∀ w ∈ u_ws RX3 TX3 8, w ∈ x_tbl := by decide +kernel
theorem x_u4 : ∀ w ∈ u_ws RX4 TX4 17, w ∈ x_tbl := by decide +kernel
theorem x_c0 : x_okc 0 (RX0, TX0, 16) := ⟨rfl, x_u0, tyX0, tyX0_ok, nmX0⟩
theorem x_c1 : x_okc 1 (RX1, TX1, 3) := ⟨rfl, x_u1, tyX1, tyX1_ok, nmX1⟩
theorem x_c2 : x_okc 2 (RX2, TX2, 6) := ⟨rfl, x_u2, tyX2, tyX2_ok, nmX2⟩
theorem x_c3 : x_okc 3 (RX3, TX3, 8) := ⟨rfl, x_u3, tyX3, tyX3_ok, nmX3⟩
theorem x_c4 : x_okc 4 (RX4, TX4, 17) := ⟨rfl, x_u4, tyX4, tyX4_ok, nmX4⟩
section XH
variable {l : Launch} {E : x_E} {y : x_M} {v : x_V} {μ : x_Mem} {pc nx len : Nat} {lv lv' : List (Nat × Value)} {st : List Value}
/-- getfield -/
theorem x_get {ci k j idx : Nat} {r : vw_C} {z : Value} (hc : x_okc ci r) (hk : x_kd k = 3 + ci) (hj : j < r.2.2) (hl : Cond.fieldLink y.1.cls idx (r.2.1 j).1 (r.2.1 j).2.1 (r.2.1 j).2.2.1 ∈ x_tbl) (hv : x_val E μ k j = z) (hd : x_dec y pc (.getfield idx) 3 nx) (kk : x_G l E y v μ nx lv (z :: st)) : x_G l E y v μ pc lv (.ref (E.1 + k) :: st) := by
  intro p e s m args below meth c H ls locs F hP hl' hS
  obtain ⟨hd, rfl⟩ := hd
  obtain ⟨hcl, hin, ty, hty, hnm⟩ := hc
  have hci : ci < 5 := (List.getElem?_eq_some_iff.mp hcl).1
  obtain ⟨r', h1, cell, q1, q2, q3, q4⟩ := x_obj hP hk hci
  cases hcl.symm.trans h1
  obtain ⟨hx, hb, hr, hlk, hml, hown, hts, hK, hZ, hcs⟩ := F
  have hts' : ∀ w ∈ x_tbl, w.before args s = true := hts
  obtain ⟨hSl, hfc, kC, hkC, hkind⟩ := hK.1 ci _ hcl
  obtain ⟨cf, kf, fi, f, hi, hsl⟩ := hSl j hj
  refine W.getf hx hb hown (hts _ hl) hi (u_facts hfc hkC (u_lays hts hin hj) hi).1 q1 (by rw [q3]; exact fun h => by cases h) (v := z) ?_ rfl rfl hd (kk p e s m args below meth c H ls locs ⟨hx, hb, hr, hlk, hml, hown, hts, hK, hZ, hcs⟩ hP hl' hS)
  rw [hsl, q4 j hj, hv]
theorem x_geti {ci k j idx : Nat} {r : vw_C} (hc : x_okc ci r) (hk : x_kd k = 3 + ci) (hj : j < r.2.2) (hl : Cond.fieldLink y.1.cls idx (r.2.1 j).1 (r.2.1 j).2.1 (r.2.1 j).2.2.1 ∈ x_tbl) (hn : x_rf k j = none) (hd : x_dec y pc (.getfield idx) 3 nx) (kk : x_G l E y v μ nx lv (.int (μ k j) :: st)) : x_G l E y v μ pc lv (.ref (E.1 + k) :: st) :=
  x_get hc hk hj hl (x_val_int hn) hd kk
theorem x_getr {ci k j idx : Nat} {r : vw_C} (t : Nat) (hc : x_okc ci r) (hk : x_kd k = 3 + ci) (hj : j < r.2.2) (hl : Cond.fieldLink y.1.cls idx (r.2.1 j).1 (r.2.1 j).2.1 (r.2.1 j).2.2.1 ∈ x_tbl) (hn : x_rf k j = some t) (hd : x_dec y pc (.getfield idx) 3 nx) (kk : x_G l E y v μ nx lv (.ref (E.1 + t) :: st)) : x_G l E y v μ pc lv (.ref (E.1 + k) :: st) :=
  x_get hc hk hj hl (x_val_ref hn) hd kk
/-- putfield of an int or a boolean -/
theorem x_put {ci k j idx : Nat} {r : vw_C} {x : Int32} {ty0 : FieldType} (hc : x_okc ci r) (hk : x_kd k = 3 + ci) (hj : j < r.2.2) (hl : Cond.fieldLink y.1.cls idx (r.2.1 j).1 (r.2.1 j).2.1 (r.2.1 j).2.2.1 ∈ x_tbl) (hn : x_rf k j = none) (hfin : (r.2.1 j).2.2.2 = false) (hdt : parseFieldDescriptor (r.2.1 j).2.2.1 = some ty0) (hna : narrow ty0 (.int x) = .int x) (hfit : fits ty0 (.int x) = true) (hd : x_dec y pc (.putfield idx) 3 nx) (kk : x_G l E y v (upd2 μ k j x) nx lv st) : x_G l E y v μ pc lv (.int x :: .ref (E.1 + k) :: st) := by
  intro p e s m args below meth c H ls locs F hP hl' hS
  obtain ⟨hd, rfl⟩ := hd
  obtain ⟨hcl, hin, ty, hty, hnm⟩ := hc
  have hci : ci < 5 := (List.getElem?_eq_some_iff.mp hcl).1
  obtain ⟨r', h1, cell, q1, q2, q3, q4⟩ := x_obj hP hk hci
  cases hcl.symm.trans h1
  obtain ⟨hx, hb, hr, hlk, hml, hown, hts, hK, hZ, hcs⟩ := F
  have hap := va_apart (own := y.1.cls) (C := r.1) (T := r.2.1) (N := r.2.2) hts hin ty hty hnm hK hcl
  obtain ⟨hSl, hfc, kC, hkC, hkind⟩ := hK.1 ci _ hcl
  obtain ⟨cf, kf, fi, f, hi, hsl⟩ := hSl j hj
  have hlay := hts _ (hin _ (u_in_lay hj))
  unfold u_lay at hlay
  rw [if_neg (by rw [hfin]; decide)] at hlay
  have hst := (u_facts hfc hkC (u_lays hts hin hj) hi).1
  have h6 := u_store hfc hkC hkind hlay hi hdt hna hfit
  refine W.putK hx hb (f := f) ⟨hown, hts _ hl, ⟨_, _, _, hi⟩, hst⟩ (by rw [q2]; exact h6) q1 q3 (by rw [hsl]; exact k2_hasslot (q4 j hj)) rfl rfl hd fun H' e1 e2 e3 => ?_
  rw [hsl] at e1 ⊢
  refine kk p e s m args below meth c H' ls _ ⟨hx, hb, hr, hlk, hml, hown, hts, hK, hZ, hcs⟩ (x_P_set hP k e3 ?_ (fun a ha => upd2_ne μ j x ha)) hl' (x_S_put hS e2 e3)
  unfold x_at
  rw [if_pos (by omega)]
  have e : x_kd k - 3 = ci := by omega
  rw [e]
  refine ⟨r, hcl, t_OB.to (V := updV (x_val E μ k) j (.int x)) ⟨_, e1, q2, q3, t_set q4 hap hj (.int x)⟩ (fun i _ => ?_)⟩
  unfold updV x_val
  rw [upd2_at]
  by_cases hij : i = j
  · subst hij
    simp [hn, upd]
  · cases x_rf k i <;> simp [upd, hij]
theorem x_puti {ci k j idx : Nat} {r : vw_C} {x : Int32} (hc : x_okc ci r) (hk : x_kd k = 3 + ci) (hj : j < r.2.2) (hl : Cond.fieldLink y.1.cls idx (r.2.1 j).1 (r.2.1 j).2.1 (r.2.1 j).2.2.1 ∈ x_tbl) (hn : x_rf k j = none) (hfin : (r.2.1 j).2.2.2 = false) (hdt : parseFieldDescriptor (r.2.1 j).2.2.1 = some .int) (hd : x_dec y pc (.putfield idx) 3 nx) (kk : x_G l E y v (upd2 μ k j x) nx lv st) : x_G l E y v μ pc lv (.int x :: .ref (E.1 + k) :: st) :=
  x_put hc hk hj hl hn hfin hdt rfl rfl hd kk
theorem x_putz {ci k j idx : Nat} {r : vw_C} {q : Bool} (hc : x_okc ci r) (hk : x_kd k = 3 + ci) (hj : j < r.2.2) (hl : Cond.fieldLink y.1.cls idx (r.2.1 j).1 (r.2.1 j).2.1 (r.2.1 j).2.2.1 ∈ x_tbl) (hn : x_rf k j = none) (hfin : (r.2.1 j).2.2.2 = false) (hdt : parseFieldDescriptor (r.2.1 j).2.2.1 = some .boolean) (hd : x_dec y pc (.putfield idx) 3 nx) (kk : x_G l E y v (upd2 μ k j (x_b q)) nx lv st) : x_G l E y v μ pc lv (.int (x_b q) :: .ref (E.1 + k) :: st) :=
  x_put hc hk hj hl hn hfin hdt (x_b_nar q) (x_b_fit q) hd kk
theorem x_iald {k : Nat} (n : Nat) {i : Int32} (hk : x_kd k = 0) (hn : x_ln k = n) (hin : vp_in i n) (hd : x_dec y pc .iaload 1 nx) (kk : x_G l E y v μ nx lv (.int (μ k i.toNatClampNeg) :: st)) : x_G l E y v μ pc lv (.int i :: .ref (E.1 + k) :: st) := by
  intro p e s m args below meth c H ls locs F hP hl' hS
  obtain ⟨hd, rfl⟩ := hd
  have hlt : i.toNatClampNeg < n := Nat.not_le.mp fun q => hin (Or.inr q)
  have ha := x_arr hP (k := k) (by omega)
  rw [hk, hn] at ha
  have hK : x_K E s := F.2.2.2.2.2.2.2.1
  exact W.iald (v := .int (μ k i.toNatClampNeg)) F.1 F.2.1 ha ((hK.2 0 _ rfl).1 n _) (fun q => by cases q) (by rw [arrV_size]; exact hin) (by rw [arrV_read _ _ hlt, x_val_int (x_rf0 hk)]) rfl rfl hd (kk p e s m args below meth c H ls locs F hP hl' hS)
theorem x_bald {k : Nat} (n : Nat) {i : Int32} (hk : x_kd k = 1) (hn : x_ln k = n) (hin : vp_in i n) (hd : x_dec y pc .baload 1 nx) (kk : x_G l E y v μ nx lv (.int (μ k i.toNatClampNeg) :: st)) : x_G l E y v μ pc lv (.int i :: .ref (E.1 + k) :: st) := by
  intro p e s m args below meth c H ls locs F hP hl' hS
  obtain ⟨hd, rfl⟩ := hd
  have hlt : i.toNatClampNeg < n := Nat.not_le.mp fun q => hin (Or.inr q)
  have ha := x_arr hP (k := k) (by omega)
  rw [hk, hn] at ha
  have hK : x_K E s := F.2.2.2.2.2.2.2.1
  exact W.bald (v := .int (μ k i.toNatClampNeg)) F.1 F.2.1 ha ((hK.2 1 _ rfl).1 n _) (fun q => by cases q) (by rw [arrV_size]; exact hin) (by rw [arrV_read _ _ hlt, x_val_int (x_rf1 hk)]) rfl rfl hd (kk p e s m args below meth c H ls locs F hP hl' hS)
/-- the array of sheets -/
theorem x_aald {i : Int32} (hin : vp_in i 4) (hd : x_dec y pc .aaload 1 nx) (kk : x_G l E y v μ nx lv (.ref (E.1 + (33 + 2 * i.toNatClampNeg)) :: st)) : x_G l E y v μ pc lv (.int i :: .ref (E.1 + 30) :: st) := by
  intro p e s m args below meth c H ls locs F hP hl' hS
  obtain ⟨hd, rfl⟩ := hd
  have hlt : i.toNatClampNeg < 4 := Nat.not_le.mp fun q => hin (Or.inr q)
  have ha : H[E.1 + 30]? = some (arrV (E.2.2.1 2) 4 (x_val E μ 30)) := x_arr hP (k := 30) (by decide)
  have hK : x_K E s := F.2.2.2.2.2.2.2.1
  have hr : x_rf 30 i.toNatClampNeg = some (33 + 2 * i.toNatClampNeg) := rfl
  exact W.aald (v := .ref (E.1 + (33 + 2 * i.toNatClampNeg))) (ty := .object RX1) F.1 F.2.1 ha ((hK.2 2 _ rfl).1 4 _) rfl (fun q => by cases q) (by rw [arrV_size]; exact hin) (by rw [arrV_read _ _ hlt, x_val_ref hr]) rfl rfl hd (kk p e s m args below meth c H ls locs F hP hl' hS)
theorem x_st_val {E : x_E} {μ : x_Mem} {k j : Nat} {x : Int32} (hr : ∀ i, x_rf k i = none) : updV (x_val E μ k) j (.int x) = x_val E (upd2 μ k j x) k := by
  funext i
  rw [x_val_int (hr i), upd2_at]
  by_cases h : i = j
  · subst h; simp [updV, upd]
  · simp [updV, upd, h, x_val_int (hr i)]
theorem x_iast {k : Nat} (n : Nat) {i x : Int32} (hk : x_kd k = 0) (hn : x_ln k = n) (hin : vp_in i n) (hd : x_dec y pc .iastore 1 nx) (kk : x_G l E y v (upd2 μ k i.toNatClampNeg x) nx lv st) : x_G l E y v μ pc lv (.int x :: .int i :: .ref (E.1 + k) :: st) := by
  intro p e s m args below meth c H ls locs F hP hl' hS
  obtain ⟨hd, rfl⟩ := hd
  have ha := x_arr hP (k := k) (by omega)
  have hK : x_K E s := F.2.2.2.2.2.2.2.1
  have ha' := ha
  rw [hk, hn] at ha'
  refine W.iast F.1 F.2.1 ha' ((hK.2 0 _ rfl).1 n _) (fun q => by cases q) (by rw [arrV_size]; exact hin) rfl rfl hd fun H1 e z oq => ?_
  refine kk p _ s m args below meth c H1 ls _ F (x_P_set hP k oq ?_ (fun a ha => upd2_ne μ _ x ha)) hl' (x_S_put hS z oq)
  unfold x_at
  rw [if_neg (by omega), e, arrV_store, hk, hn, x_st_val (fun i => x_rf0 hk)]
theorem x_bast {k : Nat} (n : Nat) {i x : Int32} (hk : x_kd k = 1) (hn : x_ln k = n) (hin : vp_in i n) (hd : x_dec y pc .bastore 1 nx) (kk : x_G l E y v (upd2 μ k i.toNatClampNeg x.toInt8.toInt32) nx lv st) : x_G l E y v μ pc lv (.int x :: .int i :: .ref (E.1 + k) :: st) := by
  intro p e s m args below meth c H ls locs F hP hl' hS
  obtain ⟨hd, rfl⟩ := hd
  have ha := x_arr hP (k := k) (by omega)
  have hK : x_K E s := F.2.2.2.2.2.2.2.1
  have ha' := ha
  rw [hk, hn] at ha'
  refine W.bast F.1 F.2.1 ha' ((hK.2 1 _ rfl).1 n _) (fun q => by cases q) (by rw [arrV_size]; exact hin) rfl rfl hd fun H1 e z oq => ?_
  refine kk p _ s m args below meth c H1 ls _ F (x_P_set hP k oq ?_ (fun a ha => upd2_ne μ _ _ ha)) hl' (x_S_put hS z oq)
  unfold x_at
  rw [if_neg (by omega), e, narrow_byte, arrV_store, hk, hn, x_st_val (fun i => x_rf1 hk)]
/-! returns -/
abbrev x_I (P : Int32 → x_Mem → Prop) : Option Value → x_Mem → Prop := fun r μ => ∃ z : Int32, r = some (.int z) ∧ P z μ
abbrev x_L (P : Int64 → x_Mem → Prop) : Option Value → x_Mem → Prop := fun r μ => ∃ z : Int64, r = some (.long z) ∧ P z μ
abbrev x_J (P : x_Mem → Prop) : Option Value → x_Mem → Prop := fun r μ => r = none ∧ P μ
theorem x_iret {P : Int32 → x_Mem → Prop} {z : Int32} (hr : y.2.2.2.1 = some .int) (hd : x_dec y pc .ireturn 1 nx) (h : P z μ) : x_G l E y (x_mv E y (x_I P)) μ pc lv [.int z] := by
  intro p e s m args below meth c H ls locs F hP hl' hS
  exact W.iret F.1 F.2.1 (F.2.2.1.trans hr) (fun t ht hW => ⟨_, μ, rfl, ⟨z, rfl, h⟩, by rw [ht]; exact hP, hS.F ht⟩) hS.2.2 hd.1 F.2.2.2.1
theorem x_zret {P : Int32 → x_Mem → Prop} {q : Bool} (hr : y.2.2.2.1 = some .boolean) (hd : x_dec y pc .ireturn 1 nx) (h : P (x_b q) μ) : x_G l E y (x_mv E y (x_I P)) μ pc lv [.int (x_b q)] := by
  intro p e s m args below meth c H ls locs F hP hl' hS
  exact W.zret F.1 F.2.1 (F.2.2.1.trans hr) (x_b_nar q) (fun t ht hW => ⟨_, μ, rfl, ⟨_, rfl, h⟩, by rw [ht]; exact hP, hS.F ht⟩) hS.2.2 hd.1 F.2.2.2.1
theorem x_zret0 {P : Int32 → x_Mem → Prop} (hr : y.2.2.2.1 = some .boolean) (hd : x_dec y pc .ireturn 1 nx) (h : P (x_b false) μ) : x_G l E y (x_mv E y (x_I P)) μ pc lv [.int 0] := x_zret (q := false) hr hd h
theorem x_zret1 {P : Int32 → x_Mem → Prop} (hr : y.2.2.2.1 = some .boolean) (hd : x_dec y pc .ireturn 1 nx) (h : P (x_b true) μ) : x_G l E y (x_mv E y (x_I P)) μ pc lv [.int 1] := x_zret (q := true) hr hd h
theorem x_lret {P : Int64 → x_Mem → Prop} {z : Int64} (hr : y.2.2.2.1 = some .long) (hd : x_dec y pc .lreturn 1 nx) (h : P z μ) : x_G l E y (x_mv E y (x_L P)) μ pc lv [.long z] := by
  intro p e s m args below meth c H ls locs F hP hl' hS
  exact W.lret F.1 F.2.1 (F.2.2.1.trans hr) (fun t ht hW => ⟨_, μ, rfl, ⟨z, rfl, h⟩, by rw [ht]; exact hP, hS.F ht⟩) hS.2.2 hd.1 F.2.2.2.1
theorem x_vret {P : x_Mem → Prop} (hr : y.2.2.2.1 = none) (hd : x_dec y pc .return_ 1 nx) (h : P μ) : x_G l E y (x_mv E y (x_J P)) μ pc lv [] := by
  intro p e s m args below meth c H ls locs F hP hl' hS
  exact W.vret F.1 F.2.1 (F.2.2.1.trans hr) (fun t ht hW => ⟨_, μ, rfl, ⟨rfl, h⟩, by rw [ht]; exact hP, hS.F ht⟩) hS.2.2 hd.1 F.2.2.2.1
theorem x_aret {Po : Option Value → x_Mem → Prop} {z : Value} {n : String} (hr : y.2.2.2.1 = some (.object n)) (hz : z = .null ∨ ∃ a, z = .ref a) (hd : x_dec y pc .areturn 1 nx) (h : Po (some z) μ) : x_G l E y (x_mv E y Po) μ pc lv [z] := by
  intro p e s m args below meth c H ls locs F hP hl' hS
  exact W.aret F.1 F.2.1 (F.2.2.1.trans hr) (Or.inl ⟨n, rfl⟩) hz (fun t ht hW => ⟨_, μ, rfl, h, by rw [ht]; exact hP, hS.F ht⟩) hS.2.2 hd.1 F.2.2.2.1
/-! calls -/
/-- all that a call of y2 asks of the tables but its link -/
def x_VM (y2 : x_M) (n : Nat) : Prop := Cond.code y2.1 y2.2.1 y2.2.2.1 y2.2.2.2.1 ∈ x_tbl ∧ Cond.initialized y2.1.cls ∈ x_tbl ∧ (y2.1.cls ≠ "java/lang/invoke/MethodHandle" ∧ y2.1.cls ≠ "java/lang/invoke/VarHandle" ∧ (parseMethodDescriptor y2.1.desc).map (fun d => d.parameters.length) = some n)
def x_VI (y2 : x_M) : Prop := Cond.instanceMethod y2.1 ∈ x_tbl ∧ Cond.selects y2.1.cls y2.1 y2.1 ∈ x_tbl
/-- a cell holds an object of that class -/
def x_ob (k : Nat) (C : String) : Prop := ∃ (ci : Nat) (r : vw_C), x_kd k = 3 + ci ∧ x_cl[ci]? = some r ∧ r.1 = C
theorem x_goodIn {y2 : x_M} {n : Nat} (h : x_VM y2 n) : GoodIn x_tbl (x_ws y2) := by
  intro w hw
  rcases List.mem_cons.mp hw with rfl | hw
  · exact ⟨h.1, good_of_word (x_good _ h.1)⟩
  · exact ⟨hw, good_of_word (x_good _ hw)⟩
theorem x_fb {as : List Value} {μ : x_Mem} : FrameBlind (va_Pc as (x_Pre E μ)) := by
  rintro a U g mk ⟨h0, hP, hK, hZ⟩
  exact ⟨h0, hP, va_K.moved (u := U) (U := U.calling g mk a) (Vm.Alike.refl U.vm) hK, x_Z.same (s := U) (U := U.calling g mk a) rfl hZ⟩
/-- behind any call -/
theorem x_back {R : Room} {cs ss : Nat} {p : Program} {e : Env} {s : State} {m : MethodId} {args : Array Value} {below : List Frame} {meth : Method} {c : Code} {H : Heap} {ls : Array Slot} {locs : List Loc} {Q : State → Prop} {Po2 : Option Value → x_Mem → Prop} {as' : Array Value} {rest : List Value}
    (hr : va_Run p l e R s m args below meth c H locs cs ss 0 0 (F0 m pc ls st) rest (x_Q E Po2 as') (x_A E)) (hS : va_S (x_A E) s.heap H locs)
    (kk : ∀ (r : Option Value) (μ' : x_Mem) (H1 : Heap) (locs1 : List Loc), Po2 r μ' → x_P E μ' H1 → va_S (x_A E) s.heap H1 locs1 → W p l e R s m args below meth c H1 locs1 cs ss Q (F0 m (pc + 3) ls (r.toList ++ rest))) : W p l e R s m args below meth c H locs cs ss Q (F0 m pc ls st) := by
  intro T hT X
  obtain ⟨r, st₀, t, T', L, h0, X', hL, e1, e2, ⟨r', μ', hv, hp, hq, hf⟩, stp⟩ := hr T hT X
  cases hv
  subst h0
  have hS' : va_S (x_A E) s.heap t.heap (locs ++ L) := by
    refine ⟨Nat.le_trans hS.1 hf.1, fun q h1 h2 => ?_, fun z hz => ?_⟩
    · rw [hf.2 q (Nat.lt_of_lt_of_le h1 hS.1) h2, hS.2.1 q h1 h2]
    · rcases List.mem_append.mp hz with h | h
      · exact hS.2.2 z h
      · exact hL z h
  obtain ⟨t2, a1, b1⟩ := kk r μ' t.heap (locs ++ L) hp hq hS' T' e1 X'
  exact ⟨t2, stp t2 a1, b1⟩
theorem x_cv {y2 : x_M} {k n idx : Nat} {as stk : List Value} {Po2 : Option Value → x_Mem → Prop} (hM : x_Met l y2 E (.ref (E.1 + k) :: as) μ Po2) (hw : x_VM y2 n) (hi : x_VI y2) (hlk : Cond.methodLink y.1.cls idx y2.1 ∈ x_tbl) (hk : x_ob k y2.1.cls) (hn : as.length = n) (hR : y2.2.2.2.2.1 + 1 ≤ v.1.frames ∧ 8 + (y2.2.2.1 + 11) + y2.2.2.2.2.2 ≤ v.1.locals) (hstk : stk = as.reverse ++ .ref (E.1 + k) :: st) (hst : (st.map fun w => w.category).sum ≤ 8) (hd : x_dec y pc (.invokevirtual idx) 3 nx)
    (kk : ∀ (r : Option Value) (μ' : x_Mem), Po2 r μ' → x_G l E y v μ' nx lv (r.toList ++ st)) : x_G l E y v μ pc lv stk := by
  intro p e s m args below meth c H ls locs F hP hl' hS
  obtain ⟨hd, rfl⟩ := hd
  subst hstk
  obtain ⟨hx, hb, hr, hlo, hml, hown, hts, hK, hZ, hc1, hc2, hcx⟩ := id F
  obtain ⟨ci, rc, hkd, hcl, hcn⟩ := hk
  have hci : ci < 5 := (List.getElem?_eq_some_iff.mp hcl).1
  obtain ⟨r', h1, cell, q1, q2, q3, q4⟩ := x_obj hP hkd hci
  cases hcl.symm.trans h1
  have hfc : s.vm.findClass y2.1.cls = some cell.cls := by
    have := (hK.1 ci _ hcl).2.1
    rw [← hcn, q2]; exact this
  have run := va_runV (As := as) (rest := st) (g := F0 m pc ls (as.reverse ++ .ref (E.1 + k) :: st)) (own := y.1.cls) (Ts := x_tbl) (C := y2.1.cls) (b := E.1 + k) (cells := v.2.1) (slots := v.2.2.1) (R := v.1) (locs := locs) (e := e) (below := below) (meth := meth) (H := H) (index := idx)
    ⟨hx, hb, hml, hown, hts⟩ hM ⟨callB_of n hts (x_goodIn hw) rfl rfl rfl (hts _ hw.2.1) (hts _ hlk) hw.2.2 hR, hts _ hi.1, hts _ hi.2⟩
    ⟨x_fb, ⟨cell, q1, by rw [q3]; rfl, hfc⟩, fun U hU hW => ⟨rfl, by rw [hU]; exact hP, va_K.moved hW.alike hK, by rw [hU]; exact (hZ.warm hW).kept hS.2.1⟩⟩ rfl hn hl'.1 rfl (lv_room hst) hd ⟨hc1, hc2⟩
  exact x_back run hS (fun r μ' H1 locs1 h1 h2 h3 => kk r μ' h1 p e s m args below meth c H1 ls locs1 F h2 hl' h3)
theorem x_cs {y2 : x_M} {n idx : Nat} {as stk : List Value} {Po2 : Option Value → x_Mem → Prop} (hM : x_Met l y2 E as μ Po2) (hw : x_VM y2 n) (hi : Cond.static y2.1 ∈ x_tbl) (hlk : Cond.methodLink y.1.cls idx y2.1 ∈ x_tbl) (hn : as.length = n) (hR : y2.2.2.2.2.1 + 1 ≤ v.1.frames ∧ 8 + (y2.2.2.1 + 11) + y2.2.2.2.2.2 ≤ v.1.locals) (hstk : stk = as.reverse ++ st) (hst : (st.map fun w => w.category).sum ≤ 8) (hd : x_dec y pc (.invokestatic idx) 3 nx)
    (kk : ∀ (r : Option Value) (μ' : x_Mem), Po2 r μ' → x_G l E y v μ' nx lv (r.toList ++ st)) : x_G l E y v μ pc lv stk := by
  intro p e s m args below meth c H ls locs F hP hl' hS
  obtain ⟨hd, rfl⟩ := hd
  subst hstk
  obtain ⟨hx, hb, hr, hlo, hml, hown, hts, hK, hZ, hc1, hc2, hcx⟩ := id F
  have run := va_runS (As := as) (rest := st) (g := F0 m pc ls (as.reverse ++ st)) (own := y.1.cls) (Ts := x_tbl) (cells := v.2.1) (slots := v.2.2.1) (R := v.1) (locs := locs) (e := e) (below := below) (meth := meth) (H := H) (index := idx)
    ⟨hx, hb, hml, hown, hts⟩ hM ⟨callB_of n hts (x_goodIn hw) rfl rfl rfl (hts _ hw.2.1) (hts _ hlk) hw.2.2 hR, hts _ hi⟩
    ⟨x_fb, fun U hU hW => ⟨rfl, by rw [hU]; exact hP, va_K.moved hW.alike hK, by rw [hU]; exact (hZ.warm hW).kept hS.2.1⟩⟩ rfl hn hl'.1 rfl (lv_room hst) hd ⟨hc1, hc2⟩
  exact x_back run hS (fun r μ' H1 locs1 h1 h2 h3 => kk r μ' h1 p e s m args below meth c H1 ls locs1 F h2 hl' h3)
theorem x_cvi {y2 : x_M} {k n idx : Nat} {as stk : List Value} {P2 : Int32 → x_Mem → Prop} (hM : x_Met l y2 E (.ref (E.1 + k) :: as) μ (x_I P2)) (hw : x_VM y2 n) (hi : x_VI y2) (hlk : Cond.methodLink y.1.cls idx y2.1 ∈ x_tbl) (hk : x_ob k y2.1.cls) (hn : as.length = n) (hR : y2.2.2.2.2.1 + 1 ≤ v.1.frames ∧ 8 + (y2.2.2.1 + 11) + y2.2.2.2.2.2 ≤ v.1.locals) (hstk : stk = as.reverse ++ .ref (E.1 + k) :: st) (hst : (st.map fun w => w.category).sum ≤ 8) (hd : x_dec y pc (.invokevirtual idx) 3 nx)
    (kk : ∀ (z : Int32) (μ' : x_Mem), P2 z μ' → x_G l E y v μ' nx lv (.int z :: st)) : x_G l E y v μ pc lv stk :=
  x_cv hM hw hi hlk hk hn hR hstk hst hd (fun r μ' h => by obtain ⟨z, rfl, h⟩ := h; exact kk z μ' h)
theorem x_cvl {y2 : x_M} {k n idx : Nat} {as stk : List Value} {P2 : Int64 → x_Mem → Prop} (hM : x_Met l y2 E (.ref (E.1 + k) :: as) μ (x_L P2)) (hw : x_VM y2 n) (hi : x_VI y2) (hlk : Cond.methodLink y.1.cls idx y2.1 ∈ x_tbl) (hk : x_ob k y2.1.cls) (hn : as.length = n) (hR : y2.2.2.2.2.1 + 1 ≤ v.1.frames ∧ 8 + (y2.2.2.1 + 11) + y2.2.2.2.2.2 ≤ v.1.locals) (hstk : stk = as.reverse ++ .ref (E.1 + k) :: st) (hst : (st.map fun w => w.category).sum ≤ 8) (hd : x_dec y pc (.invokevirtual idx) 3 nx)
    (kk : ∀ (z : Int64) (μ' : x_Mem), P2 z μ' → x_G l E y v μ' nx lv (.long z :: st)) : x_G l E y v μ pc lv stk :=
  x_cv hM hw hi hlk hk hn hR hstk hst hd (fun r μ' h => by obtain ⟨z, rfl, h⟩ := h; exact kk z μ' h)
theorem x_cvv {y2 : x_M} {k n idx : Nat} {as stk : List Value} {P2 : x_Mem → Prop} (hM : x_Met l y2 E (.ref (E.1 + k) :: as) μ (x_J P2)) (hw : x_VM y2 n) (hi : x_VI y2) (hlk : Cond.methodLink y.1.cls idx y2.1 ∈ x_tbl) (hk : x_ob k y2.1.cls) (hn : as.length = n) (hR : y2.2.2.2.2.1 + 1 ≤ v.1.frames ∧ 8 + (y2.2.2.1 + 11) + y2.2.2.2.2.2 ≤ v.1.locals) (hstk : stk = as.reverse ++ .ref (E.1 + k) :: st) (hst : (st.map fun w => w.category).sum ≤ 8) (hd : x_dec y pc (.invokevirtual idx) 3 nx)
    (kk : ∀ (μ' : x_Mem), P2 μ' → x_G l E y v μ' nx lv st) : x_G l E y v μ pc lv stk :=
  x_cv hM hw hi hlk hk hn hR hstk hst hd (fun r μ' h => by obtain ⟨rfl, h⟩ := h; exact kk μ' h)
theorem x_csi {y2 : x_M} {n idx : Nat} {as stk : List Value} {P2 : Int32 → x_Mem → Prop} (hM : x_Met l y2 E as μ (x_I P2)) (hw : x_VM y2 n) (hi : Cond.static y2.1 ∈ x_tbl) (hlk : Cond.methodLink y.1.cls idx y2.1 ∈ x_tbl) (hn : as.length = n) (hR : y2.2.2.2.2.1 + 1 ≤ v.1.frames ∧ 8 + (y2.2.2.1 + 11) + y2.2.2.2.2.2 ≤ v.1.locals) (hstk : stk = as.reverse ++ st) (hst : (st.map fun w => w.category).sum ≤ 8) (hd : x_dec y pc (.invokestatic idx) 3 nx)
    (kk : ∀ (z : Int32) (μ' : x_Mem), P2 z μ' → x_G l E y v μ' nx lv (.int z :: st)) : x_G l E y v μ pc lv stk :=
  x_cs hM hw hi hlk hn hR hstk hst hd (fun r μ' h => by obtain ⟨z, rfl, h⟩ := h; exact kk z μ' h)
theorem x_csv {y2 : x_M} {n idx : Nat} {as stk : List Value} {P2 : x_Mem → Prop} (hM : x_Met l y2 E as μ (x_J P2)) (hw : x_VM y2 n) (hi : Cond.static y2.1 ∈ x_tbl) (hlk : Cond.methodLink y.1.cls idx y2.1 ∈ x_tbl) (hn : as.length = n) (hR : y2.2.2.2.2.1 + 1 ≤ v.1.frames ∧ 8 + (y2.2.2.1 + 11) + y2.2.2.2.2.2 ≤ v.1.locals) (hstk : stk = as.reverse ++ st) (hst : (st.map fun w => w.category).sum ≤ 8) (hd : x_dec y pc (.invokestatic idx) 3 nx)
    (kk : ∀ (μ' : x_Mem), P2 μ' → x_G l E y v μ' nx lv st) : x_G l E y v μ pc lv stk :=
  x_cs hM hw hi hlk hn hR hstk hst hd (fun r μ' h => by obtain ⟨rfl, h⟩ := h; exact kk μ' h)
end XH
/-! loops: what holds at a loop's end holds all the way back -/
theorem x_up (P : Nat → Prop) (N : Nat) (hN : P N) (hs : ∀ i, i < N → P (i + 1) → P i) (i : Nat) (hi : i ≤ N) : P i := by
  have h : ∀ d i, i + d = N → P i := by
    intro d
    induction d with
    | zero => intro i h; have : i = N := by omega
              subst this; exact hN
    | succ d ih => intro i h; exact hs i (by omega) (ih (i + 1) (by omega))
  exact h (N - i) i (by omega)
