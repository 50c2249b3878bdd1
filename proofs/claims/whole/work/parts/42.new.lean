/-! THE MAKING: objects and arrays come one behind another; a judgement of its own, a row an instruction -/
/-- the words of nest mates' constructors, and of the array of sheets -/
def x_W2 (U : State) : Prop := va_Nw (.methodLinkNest "FaithRails" 28 yX2_init "FaithRails") U ∧ va_Nw (.methodLinkNest "FaithRails" 46 yX1_init "FaithRails") U ∧ va_AO RX1 U
theorem x_W2.warm {s U : State} (hW : s.WarmedH U.vm) (h : x_W2 s) : x_W2 U := ⟨va_Nw.warmM hW h.1, va_Nw.warmM hW h.2.1, va_AO.moved hW.alike h.2.2⟩
theorem x_W2.same {s U : State} (hW : U.vm = s.vm) (h : x_W2 s) : x_W2 U := ⟨va_Nw.same rfl hW.symm h.1, va_Nw.same rfl hW.symm h.2.1, va_AO.moved (by rw [hW]; exact Vm.Alike.refl s.vm) h.2.2⟩
abbrev x_Om : Type := Nat → Nat → Value
def x_atW (E : x_E) (f : Nat → Value) (k : Nat) (H : Heap) : Prop :=
  if 3 ≤ x_kd k then ∃ r : vw_C, x_cl[x_kd k - 3]? = some r ∧ t_OB (E.1 + k) (E.2.1.1 (x_kd k - 3)) r.2.2 (E.2.1.2 (x_kd k - 3)) H f
  else H[E.1 + k]? = some (arrV (E.2.2.1 (x_kd k)) (x_ln k) f)
/-- the first n cells of the block stand, and nothing behind them -/
def x_PW (E : x_E) (ω : x_Om) (n : Nat) (H : Heap) : Prop := H.size = E.1 + n ∧ ∀ k, k < n → x_atW E (ω k) k H
def upW (ω : x_Om) (n : Nat) (d : Nat → Value) : x_Om := fun k => if k = n then d else ω k
def upV (ω : x_Om) (k j : Nat) (z : Value) : x_Om := fun a => if a = k then updV (ω k) j z else ω a
theorem upW_ne {ω : x_Om} {n k : Nat} {d : Nat → Value} (h : k ≠ n) : upW ω n d k = ω k := if_neg h
theorem upV_ne {ω : x_Om} {k a j : Nat} {z : Value} (h : a ≠ k) : upV ω k j z a = ω a := if_neg h
theorem x_atW.kept {E : x_E} {f : Nat → Value} {k : Nat} {H H1 : Heap} (h : x_atW E f k H) (hq : H1[E.1 + k]? = H[E.1 + k]?) : x_atW E f k H1 := by
  unfold x_atW at h ⊢
  by_cases h3 : 3 ≤ x_kd k
  · rw [if_pos h3] at h ⊢
    obtain ⟨r, h1, h2⟩ := h
    exact ⟨r, h1, h2.kept hq⟩
  · rw [if_neg h3] at h ⊢
    rw [hq]; exact h
theorem x_PW_new {E : x_E} {ω : x_Om} {n : Nat} {H H1 : Heap} {d : Nat → Value} (hP : x_PW E ω n H) (z : H1.size = E.1 + n + 1) (o : ∀ q : Nat, q < E.1 + n → H1[q]? = H[q]?) (hat : x_atW E d n H1) : x_PW E (upW ω n d) (n + 1) H1 := by
  refine ⟨by rw [z]; omega, fun k hk => ?_⟩
  by_cases q : k = n
  · subst q
    have e : upW ω k d k = d := if_pos rfl
    rw [e]; exact hat
  · rw [upW_ne q]; exact (hP.2 k (by omega)).kept (o _ (by omega))
theorem x_PW_set {E : x_E} {ω ω' : x_Om} {n : Nat} {H H1 : Heap} (hP : x_PW E ω n H) (k : Nat) (z : H1.size = H.size) (oq : ∀ q : Nat, q ≠ E.1 + k → H1[q]? = H[q]?) (hat : x_atW E (ω' k) k H1) (hm : ∀ a, a ≠ k → ω' a = ω a) : x_PW E ω' n H1 := by
  refine ⟨z.trans hP.1, fun a ha => ?_⟩
  by_cases h : a = k
  · subst h; exact hat
  · rw [hm a h]; exact (hP.2 a ha).kept (oq _ (by omega))
theorem x_warr {E : x_E} {ω : x_Om} {n : Nat} {H : Heap} (hP : x_PW E ω n H) {k : Nat} (hk : k < n) (h : x_kd k < 3) : H[E.1 + k]? = some (arrV (E.2.2.1 (x_kd k)) (x_ln k) (ω k)) := by
  have := hP.2 k hk
  unfold x_atW at this
  rwa [if_neg (by omega)] at this
theorem x_wobj {E : x_E} {ω : x_Om} {n : Nat} {H : Heap} (hP : x_PW E ω n H) {k ci : Nat} (hk : k < n) (h : x_kd k = 3 + ci) : ∃ r : vw_C, x_cl[ci]? = some r ∧ t_OB (E.1 + k) (E.2.1.1 ci) r.2.2 (E.2.1.2 ci) H (ω k) := by
  have := hP.2 k hk
  unfold x_atW at this
  rw [if_pos (by omega)] at this
  have e : x_kd k - 3 = ci := by omega
  rwa [e] at this
def x_N (l : Launch) (E : x_E) (y : x_M) (v : x_V) (i : Bool) (ω : x_Om) (n cs ss pc : Nat) (lv : List (Nat × Value)) (st : List Value) : Prop :=
  ∀ (p : Program) (e : Env) (s : State) (m : MethodId) (args : Array Value) (below : List Frame) (meth : Method) (c : Code) (H : Heap) (ls : Array Slot) (locs : List Loc),
    x_F E y v p s m args meth c → (i = true → meth.name = "<init>") → x_W2 s → x_PW E ω n H → lv_has ls y.2.2.1 lv → va_S (x_A E) s.heap H locs →
    W p l e v.1 s m args below meth c H locs cs ss (v.2.2.2.2 below args s) (F0 m pc ls st)
def x_NPre (E : x_E) (ω : x_Om) (n : Nat) (U : State) : Prop := x_PW E ω n U.heap ∧ x_K E U ∧ x_Z E U U.heap ∧ x_W2 U
def x_NQ (E : x_E) (Po : x_Om → Nat → Prop) : Array Value → State → Outcome → State → Prop := fun _ st o t => ∃ (ω : x_Om) (n : Nat), o = .returned none ∧ Po ω n ∧ x_PW E ω n t.heap ∧ va_F (x_A E) st t
def x_nrm (y : x_M) (mc ms : Nat) : Room := { frames := y.2.2.2.2.1, cells := mc, slots := ms, locals := y.2.2.2.2.2 }
def x_NM (l : Launch) (y : x_M) (E : x_E) (as : List Value) (ω : x_Om) (n : Nat) (Po : x_Om → Nat → Prop) (mc ms : Nat) : Prop :=
  Met l y.1 (x_ws y) (x_nrm y mc ms) (va_Pc as (x_NPre E ω n)) (x_NQ E Po) mc ms (x_A E)
def x_nv (E : x_E) (y : x_M) (Po : x_Om → Nat → Prop) (mc ms : Nat) : x_V := (x_nrm y mc ms, 0, 0, (fun _ _ => True), fun below args s => MQ below (x_NQ E Po) args s mc ms (x_A E))
theorem n_enter {l : Launch} {E : x_E} {y : x_M} {as : List Value} {ω : x_Om} {n mc ms : Nat} {Po : x_Om → Nat → Prop} {lv : List (Nat × Value)} (i : Bool) (hi : i = true → y.1.name = "<init>") (hy : plainName y.1.cls = true) (hlen : (lg_sl as).length ≤ y.2.2.1) (hlv : lv_args 0 as = lv)
    (k : x_N l E y (x_nv E y Po mc ms) i ω n 0 0 0 lv []) : x_NM l y E as ω n Po mc ms := by
  subst hlv
  refine Met.ofW (cc := y.2.1) (maxL := y.2.2.1) (ret := y.2.2.2.1) hy rfl ?_
  intro p e s m args below meth c s₁ B hml hv
  obtain ⟨rfl, hP, hK, hZ, hW2⟩ := hv
  have hts : ∀ w ∈ x_tbl, w.before as.toArray s = true := fun w hw => atoms_spec (ws := x_ws y) B.pre w (List.mem_cons_of_mem _ hw)
  have hown : s.vm.findClass y.1.cls = some m.cls := findClass_of_methodNamed B.named
  have hl := lv_entry as (n := y.2.2.1) hlen
  rw [lg_entry_eq]
  exact k p e s m as.toArray below meth c s.heap _ [] ⟨B.exec, B.bytes, B.returns, B.notSynchronized, hml, hown, hts, hK, hZ, Nat.zero_le _, Nat.zero_le _, trivial⟩ (fun h => ((name_of_methodNamed B.named B.method).1).trans (hi h)) hW2 hP hl va_S.rf
section XN
variable {l : Launch} {E : x_E} {y : x_M} {v : x_V} {i : Bool} {ω : x_Om} {n cs ss pc nx len : Nat} {lv lv' : List (Nat × Value)} {st : List Value}
theorem n_iconst {q : Int} {x : Int32} (hd : x_dec y pc (.iconst q) 1 nx) (hv : Int32.ofInt q = x) (k : x_N l E y v i ω n cs ss nx lv (.int x :: st)) : x_N l E y v i ω n cs ss pc lv st := by
  intro p e s m args below meth c H ls locs F hi hw hP hl hS
  obtain ⟨hd, rfl⟩ := hd
  exact lv_iconst F.1 F.2.1 hd hv (k p e s m args below meth c H ls locs F hi hw hP hl hS)
theorem n_bipush {q : Int} {x : Int32} (hd : x_dec y pc (.bipush q) 2 nx) (hv : (Int8.ofInt q).toInt32 = x) (k : x_N l E y v i ω n cs ss nx lv (.int x :: st)) : x_N l E y v i ω n cs ss pc lv st := by
  intro p e s m args below meth c H ls locs F hi hw hP hl hS
  obtain ⟨hd, rfl⟩ := hd
  exact lv_bipush F.1 F.2.1 hd hv (k p e s m args below meth c H ls locs F hi hw hP hl hS)
theorem n_sipush {q : Int} {x : Int32} (hd : x_dec y pc (.sipush q) 3 nx) (hv : (Int16.ofInt q).toInt32 = x) (k : x_N l E y v i ω n cs ss nx lv (.int x :: st)) : x_N l E y v i ω n cs ss pc lv st := by
  intro p e s m args below meth c H ls locs F hi hw hP hl hS
  obtain ⟨hd, rfl⟩ := hd
  exact lv_sipush F.1 F.2.1 hd hv (k p e s m args below meth c H ls locs F hi hw hP hl hS)
theorem n_iload_n {f : Fin 4} (j : Nat) {q : Nat} {x : Int32} (hd : x_dec y pc (.iload_n f) 1 nx) (hi2 : (f : Nat) = q) (hj : lv[j]? = some (q, .int x)) (k : x_N l E y v i ω n cs ss nx lv (.int x :: st)) : x_N l E y v i ω n cs ss pc lv st := by
  intro p e s m args below meth c H ls locs F hi hw hP hl hS
  obtain ⟨hd, rfl⟩ := hd
  exact lv_iload_n F.1 F.2.1 hd hi2 (lv_at hl j hj) (k p e s m args below meth c H ls locs F hi hw hP hl hS)
theorem n_aload_n {f : Fin 4} (j : Nat) {q a : Nat} (hd : x_dec y pc (.aload_n f) 1 nx) (hi2 : (f : Nat) = q) (hj : lv[j]? = some (q, .ref a)) (k : x_N l E y v i ω n cs ss nx lv (.ref a :: st)) : x_N l E y v i ω n cs ss pc lv st := by
  intro p e s m args below meth c H ls locs F hi hw hP hl hS
  obtain ⟨hd, rfl⟩ := hd
  exact lv_aload_n F.1 F.2.1 hd hi2 (lv_at hl j hj) (k p e s m args below meth c H ls locs F hi hw hP hl hS)
theorem n_istore_n (lv' : List (Nat × Value)) {f : Fin 4} {q : Nat} {x : Int32} (hd : x_dec y pc (.istore_n f) 1 nx) (hi2 : (f : Nat) = q) (hn : q < y.2.2.1) (hl' : x_put1 lv q (.int x) = lv') (k : x_N l E y v i ω n cs ss nx lv' st) : x_N l E y v i ω n cs ss pc lv (.int x :: st) := by
  intro p e s m args below meth c H ls locs F hi hw hP hl hS
  obtain ⟨hd, rfl⟩ := hd
  exact lv_istore_n F.1 F.2.1 hd hi2 hl hn hl' (fun ls hl => k p e s m args below meth c H ls locs F hi hw hP hl hS)
theorem n_astore_n (lv' : List (Nat × Value)) {f : Fin 4} {q a : Nat} (hd : x_dec y pc (.astore_n f) 1 nx) (hi2 : (f : Nat) = q) (hn : q < y.2.2.1) (hl' : x_put1 lv q (.ref a) = lv') (k : x_N l E y v i ω n cs ss nx lv' st) : x_N l E y v i ω n cs ss pc lv (.ref a :: st) := by
  intro p e s m args below meth c H ls locs F hi hw hP hl hS
  obtain ⟨hd, rfl⟩ := hd
  exact lv_astore_n F.1 F.2.1 hd hi2 hl hn hl' (fun ls hl => k p e s m args below meth c H ls locs F hi hw hP hl hS)
theorem n_iinc (lv' : List (Nat × Value)) (j : Nat) {f : Nat} {q : Int} {x z : Int32} (hd : x_dec y pc (.iinc f q) 3 nx) (hj : lv[j]? = some (f, .int x)) (hv : x + Int32.ofInt q = z) (hn : f < y.2.2.1) (hl' : x_put1 lv f (.int z) = lv') (k : x_N l E y v i ω n cs ss nx lv' st) : x_N l E y v i ω n cs ss pc lv st := by
  intro p e s m args below meth c H ls locs F hi hw hP hl hS
  obtain ⟨hd, rfl⟩ := hd
  exact lv_iinc F.1 F.2.1 hd hl hj hv hn hl' (fun ls hl => k p e s m args below meth c H ls locs F hi hw hP hl hS)
theorem n_iadd {a b : Int32} (hd : x_dec y pc .iadd 1 nx) (k : x_N l E y v i ω n cs ss nx lv (.int (a + b) :: st)) : x_N l E y v i ω n cs ss pc lv (.int b :: .int a :: st) := by
  intro p e s m args below meth c H ls locs F hi hw hP hl hS
  obtain ⟨hd, rfl⟩ := hd
  exact lv_iadd F.1 F.2.1 hd (k p e s m args below meth c H ls locs F hi hw hP hl hS)
theorem n_lv (ks : List Nat) (h : lv_pick lv ks = lv') (k : x_N l E y v i ω n cs ss pc lv' st) : x_N l E y v i ω n cs ss pc lv st := fun p e s m args below meth c H ls locs F hi hw hP hl hS => k p e s m args below meth c H ls locs F hi hw hP (lv_sub hl ks h) hS
theorem n_dup {a : Value} (hd : x_dec y pc (.dup) 1 nx) (ha : a.category = 1) (k : x_N l E y v i ω n cs ss nx lv (a :: a :: st)) : x_N l E y v i ω n cs ss pc lv (a :: st) := by
  intro p e s m args below meth c H ls locs F hi hw hP hl hS
  obtain ⟨hd, rfl⟩ := hd
  exact lv_dup F.1 F.2.1 hd ha (k p e s m args below meth c H ls locs F hi hw hP hl hS)
theorem n_goto (tgt : Nat) {off : Int} (hd : x_dec y pc (.goto off) 3 nx) (ht : (pc : Int) + off = (tgt : Int)) (k : x_N l E y v i ω n cs ss tgt lv st) : x_N l E y v i ω n cs ss pc lv st := by
  intro p e s m args below meth c H ls locs F hi hw hP hl hS
  obtain ⟨hd, rfl⟩ := hd
  exact lv_goto F.1 F.2.1 hd ht (k p e s m args below meth c H ls locs F hi hw hP hl hS)
theorem n_icmp_ge (tgt : Nat) {off : Int} {a b : Int32} (hd : x_dec y pc (.if_icmp .ge off) 3 nx) (ht : (pc : Int) + off = (tgt : Int)) (kt : b ≤ a → x_N l E y v i ω n cs ss tgt lv st) (kf : ¬ b ≤ a → x_N l E y v i ω n cs ss nx lv st) : x_N l E y v i ω n cs ss pc lv (.int b :: .int a :: st) := by
  intro p e s m args below meth c H ls locs F hi hw hP hl hS
  obtain ⟨hd, rfl⟩ := hd
  exact lv_icmp_ge F.1 F.2.1 hd ht (fun h => kt h p e s m args below meth c H ls locs F hi hw hP hl hS) (fun h => kf h p e s m args below meth c H ls locs F hi hw hP hl hS)
/-- Object's own constructor does nothing -/
theorem n_obj {idx a : Nat} (hlk : Cond.methodLink y.1.cls idx ⟨"java/lang/Object", "<init>", "()V"⟩ ∈ x_tbl) (hf : 1 ≤ v.1.frames) (hlo : (st.map fun w => w.category).sum + 12 ≤ v.1.locals) (hd : x_dec y pc (.invokespecial idx) 3 nx) (k : x_N l E y v i ω n cs ss nx lv st) : x_N l E y v i ω n cs ss pc lv (.ref a :: st) := by
  intro p e s m args below meth c H ls locs F hi hw hP hl hS
  obtain ⟨hd, rfl⟩ := hd
  obtain ⟨hx, hb, hr, hlk', hml, hown, hts, hK, hZ, hcs⟩ := id F
  exact W.objInit hx hb hown (hts _ hlk) (hts _ q20) (hts _ q21) rfl (hl.1.trans hml.symm) rfl hd hf (by show 2 * 0 + _ + 12 ≤ _; omega) (k p e s m args below meth c H ls locs F hi hw hP hl hS)
/-- a new object, its fields as they are at first -/
theorem n_new {ci idx : Nat} {r : vw_C} {d : Nat → Value} (ty : Nat → FieldType) (hty : ∀ k, k < r.2.2 → parseFieldDescriptor (r.2.1 k).2.2.1 = some (ty k)) (hc : x_okc ci r) (hkd : x_kd n = 3 + ci) (hl2 : Cond.classLink y.1.cls idx r.1 ∈ x_tbl) (hins : Cond.instantiable r.1 r.2.2 ∈ x_tbl) (hini : Cond.initialized r.1 ∈ x_tbl) (hdf : ∀ j, j < r.2.2 → defaultValue (ty j) = d j) (hcs : cs + 1 ≤ v.1.cells) (hss : ss + r.2.2 ≤ v.1.slots) (hd : x_dec y pc (.new idx) 3 nx)
    (kk : ∀ ω' : x_Om, ω' = upW ω n d → x_N l E y v i ω' (n + 1) (cs + 1) (ss + r.2.2) nx lv (.ref (E.1 + n) :: st)) : x_N l E y v i ω n cs ss pc lv st := by
  intro p e s m args below meth c H ls locs F hi hw hP hl hS
  obtain ⟨hd, rfl⟩ := hd
  obtain ⟨hx, hb, hr, hlk', hml, hown, hts, hK, hZ, hcx⟩ := id F
  obtain ⟨hcl, hin, -⟩ := hc
  have hKn := hK.1 ci r hcl
  refine W.newcK hx hb hown (hts _ hl2) (hts _ hins) (hts _ hini) rfl hd hcs hss hKn.2.1 hP.1 fun H1 kC hkC e1 z1 o1 => ?_
  refine kk _ rfl p e s m args below meth c H1 ls locs F hi hw (x_PW_new hP z1 o1 ?_) hl ⟨by rw [z1, ← hP.1]; exact Nat.le_succ_of_le hS.1, fun q h1 h2 => ?_, hS.2.2⟩
  · unfold x_atW
    rw [if_pos (by omega)]
    have e : x_kd n - 3 = ci := by omega
    rw [e]
    exact ⟨r, hcl, (u_born ty hts hin hKn hkC e1 hty).to hdf⟩
  · have hq : q < H.size := Nat.lt_of_lt_of_le h1 hS.1
    rw [o1 q (by rw [← hP.1]; exact hq)]
    exact hS.2.1 q h1 h2
/-- a new array of ints, or of bytes -/
theorem n_newp {atype : ArrayType} {tn : Nat} {z : Int32} {N : Nat} (htn : x_kd n = tn) (h3 : tn < 3) (hty : (x_tys E)[tn]? = some (E.2.2.1 tn, newarray.typeOf atype)) (hra : ∀ (U : State) (cA : ClassId), va_RA U (E.2.2.1 tn) (newarray.typeOf atype) → U.vm.findClass ("[" ++ (newarray.typeOf atype).toString) = some cA → cA = E.2.2.1 tn) (hdv : defaultValue (newarray.typeOf atype) = .int 0) (hln : x_ln n = N) (hz : ¬ z < 0) (hN : z.toNatClampNeg = N) (hby : N * componentBytes (newarray.typeOf atype) ≤ 536870912) (hcs : cs + 1 ≤ v.1.cells) (hss : ss + N ≤ v.1.slots) (har : Cond.arrayClass (newarray.typeOf atype) ∈ x_tbl) (hd : x_dec y pc (.newarray atype) 2 nx)
    (kk : ∀ ω' : x_Om, ω' = upW ω n (fun _ => .int 0) → x_N l E y v i ω' (n + 1) (cs + 1) (ss + N) nx lv (.ref (E.1 + n) :: st)) : x_N l E y v i ω n cs ss pc lv (.int z :: st) := by
  intro p e s m args below meth c H ls locs F hi hw hP hl hS
  obtain ⟨hd, rfl⟩ := hd
  obtain ⟨hx, hb, hr, hlk', hml, hown, hts, hK, hZ, hcx⟩ := id F
  refine va_newaK hx hb (hts _ har) rfl hd rfl hz hN hby hcs hss hP.1 fun H1 cA e1 z1 o1 hAr hNm => ?_
  have hcA : cA = E.2.2.1 tn := hra s cA (hK.2 tn _ hty).2 hNm
  refine kk _ rfl p e s m args below meth c H1 ls locs F hi hw (x_PW_new hP z1 o1 ?_) hl ⟨by rw [z1, ← hP.1]; exact Nat.le_succ_of_le hS.1, fun q h1 h2 => ?_, hS.2.2⟩
  · unfold x_atW
    rw [if_neg (by omega), htn, hln, e1, hdv, hcA]
  · have hq : q < H.size := Nat.lt_of_lt_of_le h1 hS.1
    rw [o1 q (by rw [← hP.1]; exact hq)]
    exact hS.2.1 q h1 h2
/-- a new array of sheets -/
theorem n_anew {idx : Nat} {z : Int32} {N : Nat} (htn : x_kd n = 2) (hln : x_ln n = N) (hz : ¬ z < 0) (hN : z.toNatClampNeg = N) (hby : N * 4 ≤ 536870912) (hcs : cs + 1 ≤ v.1.cells) (hss : ss + N ≤ v.1.slots) (hl2 : Cond.classLink y.1.cls idx RX1 ∈ x_tbl) (hd : x_dec y pc (.anewarray idx) 3 nx)
    (kk : ∀ ω' : x_Om, ω' = upW ω n (fun _ => .null) → x_N l E y v i ω' (n + 1) (cs + 1) (ss + N) nx lv (.ref (E.1 + n) :: st)) : x_N l E y v i ω n cs ss pc lv (.int z :: st) := by
  intro p e s m args below meth c H ls locs F hi hw hP hl hS
  obtain ⟨hd, rfl⟩ := hd
  obtain ⟨hx, hb, hr, hlk', hml, hown, hts, hK, hZ, hcx⟩ := id F
  subst hN
  refine W.anew hx hb hown (hts _ hl2) (va_AO.use hw.2.2) rfl hd rfl hz hby hcs hss fun cA kA comp f1 f2 f3 f4 => ?_
  generalize hH1 : H.push ({ cls := cA, slots := Array.replicate z.toNatClampNeg .null, vm := .none } : Cell) = H1
  have z1 : H1.size = E.1 + n + 1 := by rw [← hH1, Array.size_push, hP.1]
  have e1 : H1[E.1 + n]? = some (arrV cA z.toNatClampNeg (fun _ => .null)) := by rw [← hH1, ← hP.1, Array.getElem?_push_size, ← arrV_new]
  have o1 : ∀ q : Nat, q < E.1 + n → H1[q]? = H[q]? := fun q hq => by rw [← hH1, Array.getElem?_push, if_neg (by rw [hP.1]; omega)]
  have hcA : cA = E.2.2.1 2 := by
    obtain ⟨kA2, comp2, k1, k2, k3, k4⟩ := (hK.2 2 (E.2.2.1 2, .object RX1) rfl).2
    exact Option.some.inj (f1.symm.trans k4)
  have hst : (F0 m (pc + 3) ls (.ref H.size :: st)) = F0 m (pc + 3) ls (.ref (E.1 + n) :: st) := by rw [hP.1]
  have goal := kk _ rfl p e s m args below meth c H1 ls locs F hi hw (x_PW_new hP z1 o1 (by
    unfold x_atW
    rw [if_neg (by omega), htn, hln, e1, hcA])) hl ⟨by rw [z1, ← hP.1]; exact Nat.le_succ_of_le hS.1, fun q h1 h2 => by
    have hq : q < H.size := Nat.lt_of_lt_of_le h1 hS.1
    rw [o1 q (by rw [← hP.1]; exact hq)]
    exact hS.2.1 q h1 h2, hS.2.2⟩
  rw [← hst] at goal
  exact goal
/-- a field -/
theorem n_get {ci k j idx : Nat} {r : vw_C} {z : Value} (hc : x_okc ci r) (hk : x_kd k = 3 + ci) (hkn : k < n) (hj : j < r.2.2) (hl2 : Cond.fieldLink y.1.cls idx (r.2.1 j).1 (r.2.1 j).2.1 (r.2.1 j).2.2.1 ∈ x_tbl) (hv : ω k j = z) (hd : x_dec y pc (.getfield idx) 3 nx) (kk : x_N l E y v i ω n cs ss nx lv (z :: st)) : x_N l E y v i ω n cs ss pc lv (.ref (E.1 + k) :: st) := by
  intro p e s m args below meth c H ls locs F hi0 hw hP hl hS
  obtain ⟨hd, rfl⟩ := hd
  obtain ⟨hcl, hin, ty, hty, hnm⟩ := hc
  obtain ⟨r', h1, cell, q1, q2, q3, q4⟩ := x_wobj hP hkn hk
  cases hcl.symm.trans h1
  obtain ⟨hx, hb, hr, hlk, hml, hown, hts, hK, hZ, hcs⟩ := id F
  obtain ⟨hSl, hfc, kC, hkC, hkind⟩ := hK.1 ci _ hcl
  obtain ⟨cf, kf, fi, f, hi, hsl⟩ := hSl j hj
  refine W.getf hx hb hown (hts _ hl2) hi (u_facts hfc hkC (u_lays hts hin hj) hi).1 q1 (by rw [q3]; exact fun h => by cases h) (v := z) ?_ rfl rfl hd (kk p e s m args below meth c H ls locs F hi0 hw hP hl hS)
  rw [hsl, q4 j hj, hv]
theorem n_put {ci k j idx : Nat} {r : vw_C} {z : Value} {ty0 : FieldType} (hc : x_okc ci r) (hk : x_kd k = 3 + ci) (hkn : k < n) (hj : j < r.2.2) (hl2 : Cond.fieldLink y.1.cls idx (r.2.1 j).1 (r.2.1 j).2.1 (r.2.1 j).2.2.1 ∈ x_tbl) (hfin : (r.2.1 j).2.2.2 = false) (hdt : parseFieldDescriptor (r.2.1 j).2.2.1 = some ty0) (hna : narrow ty0 z = z) (hfit : fits ty0 z = true) (hd : x_dec y pc (.putfield idx) 3 nx)
    (kk : ∀ ω' : x_Om, ω' = upV ω k j z → x_N l E y v i ω' n cs ss nx lv st) : x_N l E y v i ω n cs ss pc lv (z :: .ref (E.1 + k) :: st) := by
  intro p e s m args below meth c H ls locs F hi0 hw hP hl hS
  obtain ⟨hd, rfl⟩ := hd
  obtain ⟨hcl, hin, ty, hty, hnm⟩ := hc
  obtain ⟨r', h1, cell, q1, q2, q3, q4⟩ := x_wobj hP hkn hk
  cases hcl.symm.trans h1
  obtain ⟨hx, hb, hr, hlk, hml, hown, hts, hK, hZ, hcs⟩ := id F
  have hap := va_apart (own := y.1.cls) (C := r.1) (T := r.2.1) (N := r.2.2) hts hin ty hty hnm hK hcl
  obtain ⟨hSl, hfc, kC, hkC, hkind⟩ := hK.1 ci _ hcl
  obtain ⟨cf, kf, fi, f, hi, hsl⟩ := hSl j hj
  have hlay := hts _ (hin _ (u_in_lay hj))
  unfold u_lay at hlay
  rw [if_neg (by rw [hfin]; decide)] at hlay
  have hst := (u_facts hfc hkC (u_lays hts hin hj) hi).1
  have h6 := u_store hfc hkC hkind hlay hi hdt hna hfit
  refine W.putK hx hb (f := f) ⟨hown, hts _ hl2, ⟨_, _, _, hi⟩, hst⟩ (by rw [q2]; exact h6) q1 q3 (by rw [hsl]; exact k2_hasslot (q4 j hj)) rfl rfl hd fun H' e1 e2 e3 => ?_
  rw [hsl] at e1 ⊢
  refine kk _ rfl p e s m args below meth c H' ls _ F hi0 hw (x_PW_set hP k e2 e3 ?_ (fun a ha => upV_ne ha)) hl (x_S_put hS e2 e3)
  unfold x_atW
  rw [if_pos (by omega)]
  have e : x_kd k - 3 = ci := by omega
  rw [e]
  have eU : upV ω k j z k = updV (ω k) j z := if_pos rfl
  rw [eU]
  exact ⟨r, hcl, ⟨_, e1, q2, q3, t_set q4 hap hj z⟩⟩
theorem n_putF {ci k j idx : Nat} {r : vw_C} {z : Value} {ty0 : FieldType} (hit : i = true) (hc : x_okc ci r) (hk : x_kd k = 3 + ci) (hkn : k < n) (hj : j < r.2.2) (hl2 : Cond.fieldLink y.1.cls idx (r.2.1 j).1 (r.2.1 j).2.1 (r.2.1 j).2.2.1 ∈ x_tbl) (hfin : (r.2.1 j).2.2.2 = true) (hdecl : (r.2.1 j).1 = y.1.cls) (hdt : parseFieldDescriptor (r.2.1 j).2.2.1 = some ty0) (hna : narrow ty0 z = z) (hfit : fits ty0 z = true) (hd : x_dec y pc (.putfield idx) 3 nx)
    (kk : ∀ ω' : x_Om, ω' = upV ω k j z → x_N l E y v i ω' n cs ss nx lv st) : x_N l E y v i ω n cs ss pc lv (z :: .ref (E.1 + k) :: st) := by
  intro p e s m args below meth c H ls locs F hi0 hw hP hl hS
  obtain ⟨hd, rfl⟩ := hd
  obtain ⟨hcl, hin, ty, hty, hnm⟩ := hc
  obtain ⟨r', h1, cell, q1, q2, q3, q4⟩ := x_wobj hP hkn hk
  cases hcl.symm.trans h1
  obtain ⟨hx, hb, hr, hlk, hml, hown, hts, hK, hZ, hcs⟩ := id F
  have hap := va_apart (own := y.1.cls) (C := r.1) (T := r.2.1) (N := r.2.2) hts hin ty hty hnm hK hcl
  obtain ⟨hSl, hfc, kC, hkC, hkind⟩ := hK.1 ci _ hcl
  obtain ⟨cf, kf, fi, f, hi, hsl⟩ := hSl j hj
  have hlay := hts _ (hin _ (u_in_lay hj))
  unfold u_lay at hlay
  rw [if_pos hfin] at hlay
  have hst := (u_facts hfc hkC (u_lays hts hin hj) hi).1
  have hcf : m.cls = cf := by
    obtain ⟨_, _, c', _, _, _, -, -, hf', -, -, -, hown2, -⟩ := Cond.laysFinal_spec hlay
    have e1 : c' = cf := by have := hi.symm.trans hf'; simp at this; exact this.1.symm
    rw [hdecl] at hown2
    rw [← e1]; exact Option.some.inj (hown.symm.trans hown2)
  have h6 := u_fits hfc hkC hkind (Or.inr hlay) hi hdt hna hfit
  refine W.putFinK hx hb hown (hts _ hl2) hi hst hcf (hi0 hit) (by rw [q2]; exact h6) q1 q3 (by rw [hsl]; exact k2_hasslot (q4 j hj)) rfl rfl hd fun H' e1 e2 e3 => ?_
  rw [hsl] at e1 ⊢
  refine kk _ rfl p e s m args below meth c H' ls _ F hi0 hw (x_PW_set hP k e2 e3 ?_ (fun a ha => upV_ne ha)) hl (x_S_put hS e2 e3)
  unfold x_atW
  rw [if_pos (by omega)]
  have e : x_kd k - 3 = ci := by omega
  rw [e]
  have eU : upV ω k j z k = updV (ω k) j z := if_pos rfl
  rw [eU]
  exact ⟨r, hcl, ⟨_, e1, q2, q3, t_set q4 hap hj z⟩⟩
theorem n_alen {k : Nat} (N : Nat) (hkn : k < n) (hk : x_kd k = 0) (hln : x_ln k = N) (hd : x_dec y pc .arraylength 1 nx) (kk : x_N l E y v i ω n cs ss nx lv (.int (nI N) :: st)) : x_N l E y v i ω n cs ss pc lv (.ref (E.1 + k) :: st) := by
  intro p e s m args below meth c H ls locs F hi0 hw hP hl hS
  obtain ⟨hd, rfl⟩ := hd
  have ha := x_warr hP hkn (by omega)
  rw [hk, hln] at ha
  have hK : x_K E s := F.2.2.2.2.2.2.2.1
  exact W.alen (n := nI N) F.1 F.2.1 ha ((hK.2 0 _ rfl).1 N _) (by rw [arrV_size] <;> rfl) rfl rfl hd (kk p e s m args below meth c H ls locs F hi0 hw hP hl hS)
theorem n_iast {k e0 : Nat} (N : Nat) {x : Int32} (hkn : k < n) (hk : x_kd k = 0) (hln : x_ln k = N) (he : e0 < N) (hb31 : N < 2 ^ 31) (hd : x_dec y pc .iastore 1 nx)
    (kk : ∀ ω' : x_Om, ω' = upV ω k e0 (.int x) → x_N l E y v i ω' n cs ss nx lv st) : x_N l E y v i ω n cs ss pc lv (.int x :: .int (nI e0) :: .ref (E.1 + k) :: st) := by
  intro p e s m args below meth c H ls locs F hi0 hw hP hl hS
  obtain ⟨hd, rfl⟩ := hd
  have ha := x_warr hP hkn (by omega)
  have hK : x_K E s := F.2.2.2.2.2.2.2.1
  have ha' := ha
  rw [hk, hln] at ha'
  refine W.iast F.1 F.2.1 ha' ((hK.2 0 _ rfl).1 N _) (fun q => by cases q) (by rw [arrV_size]; exact vp_in_nI he hb31) rfl rfl hd fun H1 e1 z oq => ?_
  refine kk _ rfl p _ s m args below meth c H1 ls _ F hi0 hw (x_PW_set hP k z oq ?_ (fun a ha => upV_ne ha)) hl (x_S_put hS z oq)
  unfold x_atW
  have eU : upV ω k e0 (.int x) k = updV (ω k) e0 (.int x) := if_pos rfl
  rw [if_neg (by omega), e1, arrV_store, nI_clamp (by omega), hk, hln, eU]
theorem n_aast {k e0 q : Nat} (N : Nat) (hkn : k < n) (hqn : q < n) (hk : x_kd k = 2) (hln : x_ln k = N) (hq : x_kd q = 3 + 1) (he : e0 < N) (hb31 : N < 2 ^ 31) (hd : x_dec y pc .aastore 1 nx)
    (kk : ∀ ω' : x_Om, ω' = upV ω k e0 (.ref (E.1 + q)) → x_N l E y v i ω' n cs ss nx lv st) : x_N l E y v i ω n cs ss pc lv (.ref (E.1 + q) :: .int (nI e0) :: .ref (E.1 + k) :: st) := by
  intro p e s m args below meth c H ls locs F hi0 hw hP hl hS
  obtain ⟨hd, rfl⟩ := hd
  have ha := x_warr hP hkn (by omega)
  have hK : x_K E s := F.2.2.2.2.2.2.2.1
  have ha' := ha
  rw [hk, hln] at ha'
  obtain ⟨r', hr', cellV, g1, g2, g3, -⟩ := x_wobj hP hqn hq
  have hcls := (hK.1 1 (RX1, TX1, 3) rfl).2
  obtain ⟨kA, comp, k1, k2, k3, -⟩ := (hK.2 2 (E.2.2.1 2, .object RX1) rfl).2
  have hcomp : comp = E.2.1.1 1 := Option.some.inj (k3.symm.trans hcls.1)
  subst hcomp
  obtain ⟨kC, hkC, -⟩ := hcls.2
  have hin := vp_in_nI he hb31
  refine W.aast F.1 F.2.1 ha' (fun q h => by cases h) (fun h => by cases h) k1 k2 rfl hkC ⟨fun z => hin (Or.inl z), by rw [arrV_size, nI_clamp (by omega)]; exact he⟩ g1 (fun q h => by rw [g3] at h; cases h) (by rw [g2]; exact hkC) (by rw [g2]; exact va_assign hcls) rfl rfl hd fun H1 e1 z oq => ?_
  refine kk _ rfl p _ s m args below meth c H1 ls _ F hi0 hw (x_PW_set hP k z oq ?_ (fun a ha => upV_ne ha)) hl (x_S_put hS z oq)
  unfold x_atW
  have eU : upV ω k e0 (.ref (E.1 + q)) k = updV (ω k) e0 (.ref (E.1 + q)) := if_pos rfl
  rw [if_neg (by omega), e1, arrV_store, nI_clamp (by omega), hk, hln, eU]
/-! calls -/
theorem x_nfb {as : List Value} : FrameBlind (va_Pc as (x_NPre E ω n)) := by
  rintro a U g mk ⟨h0, hP, hK, hZ, hW⟩
  exact ⟨h0, hP, va_K.moved (u := U) (U := U.calling g mk a) (Vm.Alike.refl U.vm) hK, x_Z.same (s := U) (U := U.calling g mk a) rfl hZ, x_W2.same (s := U) (U := U.calling g mk a) rfl hW⟩
theorem n_back {R : Room} {mc ms : Nat} {p : Program} {e : Env} {s : State} {m : MethodId} {args : Array Value} {below : List Frame} {meth : Method} {c : Code} {H : Heap} {ls : Array Slot} {locs : List Loc} {Q : State → Prop} {Po : x_Om → Nat → Prop} {as' : Array Value} {rest stk : List Value}
    (hr : va_Run p l e R s m args below meth c H locs cs ss mc ms (F0 m pc ls stk) rest (x_NQ E Po as') (x_A E)) (hS : va_S (x_A E) s.heap H locs)
    (kk : ∀ (ω' : x_Om) (n' : Nat) (H1 : Heap) (locs1 : List Loc), Po ω' n' → x_PW E ω' n' H1 → va_S (x_A E) s.heap H1 locs1 → W p l e R s m args below meth c H1 locs1 (cs + mc) (ss + ms) Q (F0 m (pc + 3) ls rest)) : W p l e R s m args below meth c H locs cs ss Q (F0 m pc ls stk) := by
  intro T hT X
  obtain ⟨r, st₀, t, T', L, h0, X', hL, e1, e2, ⟨ω', n', hv, hp, hq, hf⟩, stp⟩ := hr T hT X
  cases hv
  subst h0
  have hS' : va_S (x_A E) s.heap t.heap (locs ++ L) := by
    refine ⟨Nat.le_trans hS.1 hf.1, fun q h1 h2 => ?_, fun z hz => ?_⟩
    · rw [hf.2 q (Nat.lt_of_lt_of_le h1 hS.1) h2, hS.2.1 q h1 h2]
    · rcases List.mem_append.mp hz with h | h
      · exact hS.2.2 z h
      · exact hL z h
  obtain ⟨t2, a1, b1⟩ := kk ω' n' t.heap (locs ++ L) hp hq hS' T' e1 X'
  exact ⟨t2, stp t2 a1, b1⟩
/-- a constructor of ours -/
theorem n_ini {y2 : x_M} {k idx mc ms : Nat} {Po : x_Om → Nat → Prop} (hM : x_NM l y2 E [.ref (E.1 + k)] ω n Po mc ms) (hw2 : x_VM y2 0) (hret : y2.2.2.2.1 = none) (hnm : y2.1.name = "<init>") (him : Cond.instanceMethod y2.1 ∈ x_tbl) (hlk : Cond.methodLink y.1.cls idx y2.1 ∈ x_tbl) (hR : y2.2.2.2.2.1 + 1 ≤ v.1.frames ∧ 8 + (y2.2.2.1 + 11) + y2.2.2.2.2.2 ≤ v.1.locals) (hcs : cs + mc ≤ v.1.cells) (hss : ss + ms ≤ v.1.slots) (hst : (st.map fun w => w.category).sum ≤ 8) (hd : x_dec y pc (.invokespecial idx) 3 nx)
    (kk : ∀ (ω' : x_Om) (n' : Nat), Po ω' n' → x_N l E y v i ω' n' (cs + mc) (ss + ms) nx lv st) : x_N l E y v i ω n cs ss pc lv (.ref (E.1 + k) :: st) := by
  intro p e s m args below meth c H ls locs F hi0 hw hP hl hS
  obtain ⟨hd, rfl⟩ := hd
  obtain ⟨hx, hb, hr, hlo, hml, hown, hts, hK, hZ, hc1, hc2, hcx⟩ := id F
  have cb := callB_of (R := v.1) (mc := mc) (ms := ms) (rm := x_nrm y2 mc ms) (own := y.1.cls) (index := idx) 0 hts (x_goodIn hw2) rfl rfl rfl (hts _ hw2.2.1) (hts _ hlk) hw2.2.2 hR
  rw [hret] at cb
  have run := va_runI (As := []) (rest := st) (g := F0 m pc ls (.ref (E.1 + k) :: st)) (own := y.1.cls) (Ts := x_tbl) (b := E.1 + k) (cells := cs) (slots := ss) (R := v.1) (locs := locs) (e := e) (below := below) (meth := meth) (H := H) (index := idx)
    ⟨hx, hb, hml, hown, hts⟩ hM ⟨cb, hnm, hts _ him⟩
    ⟨x_nfb, fun U hU hW => ⟨rfl, by rw [hU]; exact hP, va_K.moved hW.alike hK, by rw [hU]; exact (hZ.warm hW).kept hS.2.1, hw.warm hW⟩⟩ rfl rfl hl.1 rfl (lv_room hst) hd ⟨hcs, hss⟩
  exact n_back run hS (fun ω' n' H1 locs1 h1 h2 h3 => kk ω' n' h1 p e s m args below meth c H1 ls locs1 F hi0 hw h2 hl h3)
theorem n_iniN {y2 : x_M} {k idx mc ms : Nat} {Po : x_Om → Nat → Prop} (hM : x_NM l y2 E [.ref (E.1 + k)] ω n Po mc ms) (hw2 : x_VM y2 0) (hret : y2.2.2.2.1 = none) (hnm : y2.1.name = "<init>") (him : Cond.instanceMethod y2.1 ∈ x_tbl) (hlk : ∀ U : State, x_W2 U → va_Nw (.methodLinkNest y.1.cls idx y2.1 "FaithRails") U) (hR : y2.2.2.2.2.1 + 1 ≤ v.1.frames ∧ 8 + (y2.2.2.1 + 11) + y2.2.2.2.2.2 ≤ v.1.locals) (hcs : cs + mc ≤ v.1.cells) (hss : ss + ms ≤ v.1.slots) (hst : (st.map fun w => w.category).sum ≤ 8) (hd : x_dec y pc (.invokespecial idx) 3 nx)
    (kk : ∀ (ω' : x_Om) (n' : Nat), Po ω' n' → x_N l E y v i ω' n' (cs + mc) (ss + ms) nx lv st) : x_N l E y v i ω n cs ss pc lv (.ref (E.1 + k) :: st) := by
  intro p e s m args below meth c H ls locs F hi0 hw hP hl hS
  obtain ⟨hd, rfl⟩ := hd
  obtain ⟨hx, hb, hr, hlo, hml, hown, hts, hK, hZ, hc1, hc2, hcx⟩ := id F
  have cb := va_cnB (R := v.1) (args := args) (mc := mc) (ms := ms) (rm := x_nrm y2 mc ms) (own := y.1.cls) (host := "FaithRails") (index := idx) 0 hts (x_goodIn hw2) rfl rfl rfl (hlk s hw) (hts _ hw2.2.1) hw2.2.2 hR
  rw [hret] at cb
  have run := va_runIN (As := []) (rest := st) (g := F0 m pc ls (.ref (E.1 + k) :: st)) (own := y.1.cls) (Ts := x_tbl) (b := E.1 + k) (cells := cs) (slots := ss) (R := v.1) (locs := locs) (e := e) (below := below) (meth := meth) (H := H) (index := idx)
    ⟨hx, hb, hml, hown, hts⟩ hM ⟨cb, hnm, hts _ him⟩
    ⟨x_nfb, fun U hU hW => ⟨rfl, by rw [hU]; exact hP, va_K.moved hW.alike hK, by rw [hU]; exact (hZ.warm hW).kept hS.2.1, hw.warm hW⟩⟩ rfl rfl hl.1 rfl (lv_room hst) hd ⟨hcs, hss⟩
  exact n_back run hS (fun ω' n' H1 locs1 h1 h2 h3 => kk ω' n' h1 p e s m args below meth c H1 ls locs1 F hi0 hw h2 hl h3)
/-- a static method that answers nothing -/
theorem n_csv {y2 : x_M} {nn idx mc ms : Nat} {as stk : List Value} {Po : x_Om → Nat → Prop} (hM : x_NM l y2 E as ω n Po mc ms) (hw2 : x_VM y2 nn) (hst2 : Cond.static y2.1 ∈ x_tbl) (hlk : Cond.methodLink y.1.cls idx y2.1 ∈ x_tbl) (hn : as.length = nn) (hR : y2.2.2.2.2.1 + 1 ≤ v.1.frames ∧ 8 + (y2.2.2.1 + 11) + y2.2.2.2.2.2 ≤ v.1.locals) (hcs : cs + mc ≤ v.1.cells) (hss : ss + ms ≤ v.1.slots) (hstk : stk = as.reverse ++ st) (hst : (st.map fun w => w.category).sum ≤ 8) (hd : x_dec y pc (.invokestatic idx) 3 nx)
    (kk : ∀ (ω' : x_Om) (n' : Nat), Po ω' n' → x_N l E y v i ω' n' (cs + mc) (ss + ms) nx lv st) : x_N l E y v i ω n cs ss pc lv stk := by
  intro p e s m args below meth c H ls locs F hi0 hw hP hl hS
  obtain ⟨hd, rfl⟩ := hd
  subst hstk
  obtain ⟨hx, hb, hr, hlo, hml, hown, hts, hK, hZ, hc1, hc2, hcx⟩ := id F
  have run := va_runS (As := as) (rest := st) (g := F0 m pc ls (as.reverse ++ st)) (own := y.1.cls) (Ts := x_tbl) (cells := cs) (slots := ss) (R := v.1) (locs := locs) (e := e) (below := below) (meth := meth) (H := H) (index := idx)
    ⟨hx, hb, hml, hown, hts⟩ hM ⟨callB_of (rm := x_nrm y2 mc ms) nn hts (x_goodIn hw2) rfl rfl rfl (hts _ hw2.2.1) (hts _ hlk) hw2.2.2 hR, hts _ hst2⟩
    ⟨x_nfb, fun U hU hW => ⟨rfl, by rw [hU]; exact hP, va_K.moved hW.alike hK, by rw [hU]; exact (hZ.warm hW).kept hS.2.1, hw.warm hW⟩⟩ rfl hn hl.1 rfl (lv_room hst) hd ⟨hcs, hss⟩
  exact n_back run hS (fun ω' n' H1 locs1 h1 h2 h3 => kk ω' n' h1 p e s m args below meth c H1 ls locs1 F hi0 hw h2 hl h3)
theorem n_ret {mc ms : Nat} {Po : x_Om → Nat → Prop} (hr : y.2.2.2.1 = none) (hd : x_dec y pc .return_ 1 nx) (h : Po ω n) : x_N l E y (x_nv E y Po mc ms) i ω n mc ms pc lv [] := by
  intro p e s m args below meth c H ls locs F hi0 hw hP hl hS
  exact W.vret F.1 F.2.1 (F.2.2.1.trans hr) (fun t ht hW => ⟨ω, n, rfl, h, by rw [ht]; exact hP, hS.F ht⟩) hS.2.2 hd.1 F.2.2.2.1
end XN
theorem q99 : Cond.arrayClass .int ∈ x_tbl := x_in 162 (by decide +kernel) (by decide +kernel)
theorem q126 : Cond.arrayClass .byte ∈ x_tbl := x_in 189 (by decide +kernel) (by decide +kernel)
theorem q128 : Cond.arrayOver (.object "FaithRails$Sheet") ∈ lw_tbl := List.mem_of_getElem? (i := 191) (by decide +kernel)
theorem ra_int {E : x_E} (U : State) (cA : ClassId) (h : va_RA U (E.2.2.1 0) (newarray.typeOf .int)) (h2 : U.vm.findClass ("[" ++ (newarray.typeOf .int).toString) = some cA) : cA = E.2.2.1 0 := Option.some.inj (h2.symm.trans h)
theorem ra_byte {E : x_E} (U : State) (cA : ClassId) (h : va_RA U (E.2.2.1 1) (newarray.typeOf .byte)) (h2 : U.vm.findClass ("[" ++ (newarray.typeOf .byte).toString) = some cA) : cA = E.2.2.1 1 := Option.some.inj (h2.symm.trans h)
