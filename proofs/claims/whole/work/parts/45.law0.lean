/-! THE CLAIM OUT OF ONE WALK OF THE LAW'S BODY. Your part is whole_start (and what it stands on); all else here is the same for every law, but numbers. -/
def R_law : String := "FaithRailsLaw"
def lw_P (b : Addr) (xs : List Int32) (args : Array Value) (s : State) : Prop := args = #[.ref b] ∧ s.IntsAt b xs ∧ xs.length ≤ 3072 ∧ (Jvm.Cond.and given_1 narrow_1).before args s = true
def lw_Q (_ : Array Value) (s : State) (o : Outcome) (t : State) : Prop := o = .returned (some (.int 1)) ∧ Framed s o t [] 600000 7302250
def lw_Z (below : List Frame) (a : Array Value) (s : State) : State → Prop := fun t => ∃ o, t.status = .running ∧ Ended t below o ∧ lw_Q a s o t
/-- the law's own end, with 1 on the stack, nothing written that was there before, its room as the claim has it -/
theorem lw_ret {p : Program} {l : Launch} {e : Env} {s : State} {m : MethodId} {below : List Frame} {meth : Method} {c : Code} {b : Nat} (hx : p.tables.exec = Jvm.exec) (hb : c.code = code) (hr : meth.sig.returnType = ret) (hlocks : meth.locks = false) {pc : Nat} {H : Heap} {ls : Array Slot} (hdg : decode code pc = .ok (.ireturn, 1)) : W p l e room_1 s m #[Value.ref b] below meth c H [] 600000 7302250 (lw_Z below #[Value.ref b] s) (F0 m pc ls [.int 1]) := by
  intro T hT X
  obtain ⟨fs, hret, hrun, hended, hW, hframe⟩ := X.leave (v := some (.int 1)) (hlocks := hlocks) (fun h => by rw [hr] at h; cases h)
  have hmeth' : T.vm.method? m = some meth := X.method'
  refine ⟨T.setFrames fs, ?_, .returned (some (.int 1)), hrun, hended, rfl, ⟨_, rfl⟩, hW, hframe⟩
  jvm_step X.here [X.here.top, hx, hb, hdg, hmeth', hr, ret, narrow_b1]
  (try refine ⟨rfl, ?_⟩); (try refine ⟨rfl, ?_⟩)
  first | (intro acts; rw [hret _ acts rfl rfl rfl]) | rw [hret _ _ rfl rfl rfl]
  exact Steps.refl _
/-- what holds at the law's entry: the machine, the code, the tables' words (any of lw_tbl by 'hts w (by decide +kernel)'), the script of L ints xs at the cell b, what the Statement gives of the start (any of its parts by flat_of_before) -/
def lw_At (p : Program) (s : State) (m : MethodId) (meth : Method) (c : Code) (b L : Nat) (xs : Nat → Int32) : Prop :=
  p.tables.exec = Jvm.exec ∧ c.code = code ∧ meth.sig.returnType = ret ∧ c.maxLocals = 4 ∧ s.vm.findClass R_law = some m.cls ∧ (∀ w ∈ lw_tbl, w.before #[Value.ref b] s = true) ∧ va_X b L xs s s.heap ∧ b < s.heap.size ∧ meth.locks = false ∧ (Jvm.Cond.and given_1 narrow_1).before #[Value.ref b] s = true

/-! THE LAW: what is made stands as the first state; the script's rows -/
theorem x_bdA : ∀ k, k < 52 → x_kd k < 3 → x_bd k = x_ln k := by decide +kernel
theorem x_bdO : ∀ k, k < 52 → 3 ≤ x_kd k → (x_cl[x_kd k - 3]?).map (fun r => r.2.2) = some (x_bd k) := by decide +kernel
theorem arrV_cg {cI : ClassId} {N : Nat} {f g : Nat → Value} (h : ∀ j, j < N → f j = g j) : arrV cI N f = arrV cI N g := by
  unfold arrV
  have : (fun j : Fin N => f j.val) = fun j : Fin N => g j.val := funext fun j => h j.val j.isLt
  rw [this]
theorem x_PW_P {E : x_E} {ω : x_Om} {H : Heap} (hP : x_PW E ω 52 H) (ho : ∀ c, c < 52 → okC E ω c) : x_P E x_ini H := by
  intro k hk
  have h := hP.2 k hk
  unfold x_atW at h
  unfold x_at
  by_cases h3 : 3 ≤ x_kd k
  · rw [if_pos h3] at h ⊢
    obtain ⟨r, h1, h2⟩ := h
    have hb := x_bdO k hk h3
    rw [h1] at hb
    have hb : r.2.2 = x_bd k := Option.some.inj hb
    exact ⟨r, h1, h2.to (fun j hj => ho k hk j (by rw [← hb]; exact hj))⟩
  · rw [if_neg h3] at h ⊢
    rw [h, arrV_cg (fun j hj => ho k hk j (by rw [x_bdA k hk (by omega)]; exact hj))]
def a0 : x_St := iniM
def g0 : x_SG := (a0, a0, false, 0, (fun _ => 0), (fun _ => 0), (fun _ => 0), (fun _ _ => 0), fun _ => 0)
theorem pn_a0 : pn a0 = 0 := by decide +kernel
theorem PR_a0 : PR a0 1 x_ini := by
  have h : (∀ j, j < 16 → x_ini (1 + 1) j = a0 (8 + j)) ∧ (∀ p, p < 8 → x_ini (1 + 2) p = a0 (24 + 3 * p)) ∧ (∀ p, p < 8 → x_ini (1 + 3) p = a0 (24 + 3 * p + 1)) ∧ (∀ p, p < 8 → x_ini (1 + 4) p = a0 (24 + 3 * p + 2)) ∧ (∀ j, j < 10 → x_ini (1 + 5) j = a0 (48 + j)) := ⟨by decide +kernel, by decide +kernel, by decide +kernel, by decide +kernel, by decide +kernel⟩
  obtain ⟨h1, h2, h3, h4, h5⟩ := h
  exact ⟨h1, h2, h3, h4, h5, by decide +kernel⟩
theorem XS_0 : XS g0 x_ini := ⟨PR_a0, by decide +kernel, ⟨fun h => (by cases h), by decide +kernel, by decide +kernel, fun j hj => absurd hj (Nat.not_lt_zero j), by decide +kernel, by decide +kernel, by decide +kernel⟩, by intro j hj; revert j; decide +kernel⟩
theorem MS_0 : MS g0 x_ini := ⟨by intro j hj; revert j; decide +kernel, ⟨fun h => (by cases h), by decide +kernel, by decide +kernel, fun j hj => absurd hj (Nat.not_lt_zero j), by decide +kernel, by decide +kernel, by decide +kernel⟩, by intro j hj; revert j; decide +kernel⟩
theorem LI_0 : LI a0 := by
  refine ⟨⟨by decide +kernel, by decide +kernel, ?_, ?_, ?_, ⟨0, by decide, by decide +kernel⟩, Or.inl (by decide +kernel), ⟨3, by decide, by decide +kernel⟩, ⟨5, by decide, by decide +kernel⟩, ⟨0, by decide, by decide +kernel⟩⟩, ?_, ?_, 0, by decide, by decide +kernel⟩
  · exact fun p hp => ⟨0, by decide, by revert p; decide +kernel⟩
  · exact fun p hp => Or.inr ⟨0, by decide, by revert p; decide +kernel⟩
  · exact fun p hp => ⟨0, by decide, by revert p; decide +kernel⟩
  · exact fun k hk => ⟨50, by decide, by revert k; decide +kernel⟩
  · exact fun j hj => Or.inl (by revert j; decide +kernel)
theorem Inv_0 : Inv g0 := ⟨LI_0, fun h => (by cases h), by decide, fun j hj => absurd hj (Nat.not_lt_zero j), fun s hs => by show (0 : Nat) ≤ 40; decide, fun s hs => Or.inl rfl⟩
theorem XS.keep {g : x_SG} {μ μ' : x_Mem} (h : XS g μ) (e : ∀ id, id < 41 → μ' id = μ id) : XS g μ' := by
  obtain ⟨h1, h2, h3, h4⟩ := h
  exact ⟨h1.cg (fun id hid => e id (by omega)), by rw [e 1 (by decide)]; exact h2, h3.cg (fun id hid => e id (by omega)), h4.cg (fun id hid => e id (by omega))⟩
theorem MS.keep {g : x_SG} {μ μ' : x_Mem} (h : MS g μ) (e : ∀ id, 41 ≤ id → μ' id = μ id) : MS g μ' := by
  obtain ⟨h1, h2, h3⟩ := h
  exact ⟨h1.cg (fun id hid => e id (by omega)), h2.cg (fun id hid => e id (by omega)), h3.cg (fun id hid => e id (by omega))⟩
/-- the law's own: its room, what is made, the script, its end -/
def x_vL (E : x_E) (b L : Nat) (xs : Nat → Int32) : x_V := (room_1, 52, 1327, (fun s args => E.1 = s.heap.size ∧ args = #[.ref b] ∧ va_X b L xs s s.heap ∧ b < s.heap.size), fun below args s => lw_Z below args s)
section XLAW
variable {l : Launch} {E : x_E} {y : x_M} {b L : Nat} {xs : Nat → Int32} {μ : x_Mem} {pc nx : Nat} {lv lv' : List (Nat × Value)} {st : List Value}
theorem x_sld {e0 : Nat} (he : e0 < L) (hL : L ≤ 3072) (hd : x_dec y pc .iaload 1 nx) (k : x_G l E y (x_vL E b L xs) μ nx lv (.int (xs e0) :: st)) : x_G l E y (x_vL E b L xs) μ pc lv (.int (nI e0) :: .ref b :: st) := by
  intro p e s m args below meth c H ls locs F hP hl hS
  obtain ⟨hd, rfl⟩ := hd
  obtain ⟨hE, ha, hX, hb⟩ := F.2.2.2.2.2.2.2.2.2.2.2
  refine va_sld F.1 F.2.1 hX hb (A := x_A E) (by show ¬ E.1 ≤ b; omega) hS (vp_in_nI he (by omega)) hd ?_
  rw [nI_clamp (by omega)]
  exact k p e s m args below meth c H ls locs F hP hl hS
theorem x_sln2 (hd : x_dec y pc .arraylength 1 nx) (k : x_G l E y (x_vL E b L xs) μ nx lv (.int (nI L) :: st)) : x_G l E y (x_vL E b L xs) μ pc lv (.ref b :: st) := by
  intro p e s m args below meth c H ls locs F hP hl hS
  obtain ⟨hd, rfl⟩ := hd
  obtain ⟨hE, ha, hX, hb⟩ := F.2.2.2.2.2.2.2.2.2.2.2
  exact va_slen F.1 F.2.1 hX hb (A := x_A E) (by show ¬ E.1 ≤ b; omega) hS hd (k p e s m args below meth c H ls locs F hP hl hS)
theorem x_made {ω : x_Om} {i : Bool} (ho : ∀ c, c < 52 → okC E ω c) (k : x_G l E y (x_vL E b L xs) x_ini pc lv st) : x_N l E y (x_vL E b L xs) i ω 52 52 1327 pc lv st := by
  intro p e s m args below meth c H ls locs F hi hw hP hl hS
  exact k p e s m args below meth c H ls locs F (x_PW_P hP ho) hl hS
end XLAW
theorem mask63 (x : Int32) : ∃ n, n < 64 ∧ x &&& 63 = nI n := by
  have e : x = nI x.toBitVec.toNat := by
    apply Int32.toBitVec_inj.mp
    show x.toBitVec = BitVec.ofNat 32 x.toBitVec.toNat
    simp
  refine ⟨x.toBitVec.toNat &&& 63, Nat.lt_of_le_of_lt Nat.and_le_right (by decide), ?_⟩
  conv => lhs; rw [e]
  exact nI_and _ _
theorem law_gt {L i : Nat} (hL : L ≤ 3072) (hi : i ≤ L) (c : ¬ nI L - 6 < nI i) : i + 6 ≤ L := by
  rw [Int32.lt_iff_toInt_lt, show (6 : Int32) = nI 6 from rfl, pk_sub_toInt (by omega) (by omega), nI_toInt (by omega)] at c
  omega
theorem lcmp_0 (z : Int64) : lg_cmp z z = 0 := by
  unfold lg_cmp
  simp
