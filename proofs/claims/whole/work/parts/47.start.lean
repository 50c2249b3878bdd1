/-! THE START: what the Statement gives, as the walk wants it -/
def natL : List Cond := flatC (Jvm.Cond.and given_1 narrow_1)
def x_sst : List Nat := [142, 151, 163, 176, 189, 203, 217, 234, 250, 270, 287, 306, 325, 345, 367]
def x_sri : List Nat := [569, 622, 623, 624, 625, 626, 627, 632, 637, 639, 644, 645, 646, 647, 648]
abbrev tmS (i : Nat) : Term := .string "FaithRails$Tape" (x_sidx.getD i 0)
theorem nS_ex : ∀ i, i < 15 → natL[x_sst.getD i 0]? = some (Cond.exactly (tmS i) "java/lang/String") := by decide +kernel
theorem nS_co : ∀ i, i < 15 → natL[x_sst.getD i 0 + 1]? = some (Cond.eq (.field (tmS i) "java/lang/String" "coder" "B") (.int 0)) := by decide +kernel
theorem nS_ar : ∀ i, i < 15 → natL[x_sst.getD i 0 + 2]? = some (Cond.arrayOf (.field (tmS i) "java/lang/String" "value" "[B") .byte) := by decide +kernel
theorem nS_le : ∀ i, i < 15 → natL[x_sst.getD i 0 + 3]? = some (Cond.eq (.length (.field (tmS i) "java/lang/String" "value" "[B")) (.int (Int32.ofNat (x_slen.getD i 0)))) := by decide +kernel
theorem nS_el : ∀ i, i < 15 → ∀ j, j < x_slen.getD i 0 → natL[x_sst.getD i 0 + 4 + j]? = some (Cond.eq (.elem (.field (tmS i) "java/lang/String" "value" "[B") (.int (Int32.ofNat j))) (.int ((x_sbyt.getD i []).getD j 0))) := by decide +kernel
theorem nS_ne : ∀ j, j < 15 → ∀ i, i < j → natL[x_sst.getD j 0 + 4 + x_slen.getD j 0 + i]? = some (Cond.not (Cond.eq (tmS i) (tmS j))) := by decide +kernel
theorem nS_rf : ∀ i, i < 15 → lw_tbl[x_sri.getD i 0]? = some (Cond.stringRef "FaithRails$Tape" (x_sidx.getD i 0) (x_stx.getD i "")) := by decide +kernel
theorem nK_ar : natL[10]? = some (Cond.arrayOf (.static "FaithRails" "KIND_ABOVE" "[I") .int) := by decide +kernel
theorem nK_le : natL[11]? = some (Cond.eq (.length (.static "FaithRails" "KIND_ABOVE" "[I")) (.int (Int32.ofNat 7))) := by decide +kernel
theorem nK_el : ∀ j, j < 7 → natL[12 + j]? = some (Cond.eq (.elem (.static "FaithRails" "KIND_ABOVE" "[I") (.int (Int32.ofNat j))) (.int (x_above.getD j 0))) := by decide +kernel
theorem nN_ar : natL[20]? = some (Cond.arrayOf (.static "FaithRailsModel" "NAMES" "[I") .int) := by decide +kernel
theorem nN_le : natL[21]? = some (Cond.eq (.length (.static "FaithRailsModel" "NAMES" "[I")) (.int (Int32.ofNat 120))) := by decide +kernel
theorem nN_el : ∀ j, j < 120 → natL[22 + j]? = some (Cond.eq (.elem (.static "FaithRailsModel" "NAMES" "[I") (.int (Int32.ofNat j))) (.int (x_names.getD j 0))) := by decide +kernel
theorem nC : natL[4]? = some (Cond.eq (.static "java/lang/String" "COMPACT_STRINGS" "Z") (.int 1)) := by decide +kernel
theorem nF : natL[5]? = some (Cond.isRef (.static "jdk/internal/util/Preconditions" "SIOOBE_FORMATTER" "Ljava/util/function/BiFunction;")) := by decide +kernel
theorem x_tb {w : Cond} (h : w ∈ x_tbl) : w ∈ lw_tbl := (List.mem_filter.mp h).1
theorem x_known {s : State} {A : Array Value} (hts : ∀ w ∈ lw_tbl, w.before A s = true) : ∃ D : va_G, ∀ (c : Nat) (q : vw_C), x_cl[c]? = some q → u_Kn s q.1 q.2.1 q.2.2 (D.1 c) (D.2 c) := by
  obtain ⟨c0, i0, k0⟩ := u_known (C := RX0) (T := TX0) (N := 16) (n := 16) hts (fun w h => x_tb (x_u0 w h)) (hts _ (x_tb q23))
  obtain ⟨c1, i1, k1⟩ := u_known (C := RX1) (T := TX1) (N := 3) (n := 3) hts (fun w h => x_tb (x_u1 w h)) (hts _ (x_tb q129))
  obtain ⟨c2, i2, k2⟩ := u_known (C := RX2) (T := TX2) (N := 6) (n := 6) hts (fun w h => x_tb (x_u2 w h)) (hts _ (x_tb q101))
  obtain ⟨c3, i3, k3⟩ := u_known (C := RX3) (T := TX3) (N := 8) (n := 8) hts (fun w h => x_tb (x_u3 w h)) (hts _ (x_tb q15))
  obtain ⟨c4, i4, k4⟩ := u_known (C := RX4) (T := TX4) (N := 17) (n := 17) hts (fun w h => x_tb (x_u4 w h)) (hts _ (x_tb q663))
  refine ⟨(fun k => if k = 0 then c0 else if k = 1 then c1 else if k = 2 then c2 else if k = 3 then c3 else c4, fun k => if k = 0 then i0 else if k = 1 then i1 else if k = 2 then i2 else if k = 3 then i3 else i4), ?_⟩
  intro k q hq
  match k, hq with
  | 0, hq => cases hq; exact k0
  | 1, hq => cases hq; exact k1
  | 2, hq => cases hq; exact k2
  | 3, hq => cases hq; exact k3
  | 4, hq => cases hq; exact k4
  | k + 5, hq => simp [x_cl] at hq
theorem x_start {s : State} {A : Array Value} (hts : ∀ w ∈ lw_tbl, w.before A s = true) (hgv : (Jvm.Cond.and given_1 narrow_1).before A s = true) : ∃ E : x_E, E.1 = s.heap.size ∧ x_K E s ∧ x_Z E s s.heap ∧ x_W2 s := by
  have hn : ∀ {i : Nat} {w : Cond}, natL[i]? = some w → w.before A s = true := fun h => flat_of_before _ hgv _ (List.mem_of_getElem? h)
  have hA : ∀ a : Nat, a < s.heap.size → ¬ (fun q : Nat => s.heap.size ≤ q) a := fun a h => Nat.not_le.mpr h
  obtain ⟨D, hD⟩ := x_known hts
  obtain ⟨cI, kI, pI, n1, n2, n3⟩ := Cond.arrayClass_spec (hts _ (x_tb q99))
  obtain ⟨cB, kB, pB, b1, b2, b3⟩ := Cond.arrayClass_spec (hts _ (x_tb q126))
  obtain ⟨pS, cS, kS, s1, s2, s3, s4, s5⟩ := Cond.arrayOver_spec (hts _ q128)
  obtain ⟨tK, hK1, hK2⟩ := va_Tof (N := 7) (f := fun j => .int (x_above.getD j 0)) (A := fun q : Nat => s.heap.size ≤ q) (by decide) (hn nK_ar) (va_eqt (hn nK_le)) (fun j hj => va_eqt (hn (nK_el j hj))) hA
  obtain ⟨tN, hN1, hN2⟩ := va_Tof (N := 120) (f := fun j => .int (x_names.getD j 0)) (A := fun q : Nat => s.heap.size ≤ q) (by decide) (hn nN_ar) (va_eqt (hn nN_le)) (fun j hj => va_eqt (hn (nN_el j hj))) hA
  obtain ⟨adK, adV, hS1, hS2⟩ := vk_Sof (args := A) (s := s) (N := 15) (tm := tmS) (len := x_slen) (byt := x_sbyt) (A := fun q : Nat => s.heap.size ≤ q) (by decide +kernel) (fun i hi => hn (nS_ex i hi)) (fun i hi => hn (nS_co i hi)) (fun i hi => hn (nS_ar i hi)) (fun i hi => hn (nS_le i hi)) (fun i hi j hj => hn (nS_el i hi j hj))
    (fun i j hi hj hij => by
      rcases Nat.lt_or_gt_of_ne hij with h | h
      · exact Or.inl (hn (nS_ne j hj i h))
      · exact Or.inr (hn (nS_ne i hi j h))) hA
  refine ⟨(s.heap.size, D, (fun k => if k = 0 then cI else if k = 1 then cB else cS), tK, tN, adK, adV), rfl, ⟨hD, ?_⟩, ⟨⟨?_, hK2⟩, ⟨?_, hN2⟩, hS1, ?_, ?_, ?_, ?_⟩, ?_⟩
  · intro k q hq
    match k, hq with
    | 0, hq => cases hq; exact ⟨fun n z => ⟨fun k h => (by cases h), kI, n2, pI, n3⟩, n1⟩
    | 1, hq => cases hq; exact ⟨fun n z => ⟨fun k h => (by cases h), kB, b2, pB, b3⟩, b1⟩
    | 2, hq => cases hq; exact ⟨fun n z => ⟨fun k h => (by cases h), kS, s3, pS, s4⟩, kS, pS, s3, s4, s1, s5⟩
    | k + 3, hq => simp [x_tys] at hq
  · exact va_Zof (hts _ q601) (hts _ (x_tb q1)) hK1 hA
  · exact va_Zof (hts _ q1041) (hts _ (x_tb q6)) hN1 hA
  · exact fun i hi => vk_R.of (hts _ (List.mem_of_getElem? (nS_rf i hi))) (hS2 i hi)
  · exact va_Zof (hts _ q520) (hts _ (x_tb q10)) (va_eqi (hn nC)) hA
  · exact va_Zqof (hts _ q536) (hts _ (x_tb q12)) (hn nF) hA
  · exact va_Nw.of rfl (hts _ q362)
  · exact ⟨va_Nw.of rfl (hts _ q102), va_Nw.of rfl (hts _ q130), va_AO.of (hts _ q128)⟩
/-- YOUR PART: from the entry, for every script of at most 3072 ints, the law comes to its end with true -/
theorem whole_start {p : Program} {e : Env} {s : State} {m : MethodId} {below : List Frame} {meth : Method} {c : Code} (l : Launch) (hflags : l.flags = flags0) {b L : Nat} {xs : Nat → Int32} (hL : L ≤ 3072) (C0 : lw_At p s m meth c b L xs) : W p l e room_1 s m #[Value.ref b] below meth c s.heap [] 0 0 (lw_Z below #[Value.ref b] s) (entryFrame m ([Value.ref b] : List Value).toArray 4) := by
  obtain ⟨hx, hb, hr, hml, hown, hts, hX, hbl, hlocks, hgv⟩ := id C0
  obtain ⟨E, hE, hK, hZ, hW2⟩ := x_start hts hgv
  have hl := lv_entry ([.ref b]) (n := 4) (Nat.le_of_ble_eq_true rfl)
  rw [lg_entry_eq]
  exact law_made l E (fun _ _ => .int 0) (b := b) (L := L) (xs := xs) hL p e s m #[Value.ref b] below meth c s.heap _ [] ⟨hx, hb, by rw [hr]; rfl, hlocks, hml, hown, fun w hw => hts w (x_tb hw), hK, hZ, (by decide : 52 ≤ 600000), (by decide : 1327 ≤ 7302250), hE, rfl, hX, hbl⟩ (fun h => Bool.noConfusion h) hW2 ⟨hE.symm, fun k hk => absurd hk (Nat.not_lt_zero k)⟩ hl va_S.rf
set_option maxHeartbeats 4000000 in
theorem lw_walk (l : Launch) (hflags : l.flags = flags0) (b : Addr) (xs : List Int32) : MetFree l x (headSpec (Jvm.Cond.code x code maxLocals ret :: tables_1) room_1) (lw_P b xs) (fun _ _ _ _ _ => True) lw_Q := by
  refine MetFree.of_bodyS (code := code) (maxLocals := maxLocals) (ret := ret) (by decide) ?_ ?_
  · intro args s m h hn
    obtain ⟨meth, c, h1, h2, h3, h4, h5, h6, -, -⟩ := Cond.code_spec hn (atoms_spec (ws := Jvm.Cond.code x code maxLocals ret :: tables_1) h _ List.mem_cons_self)
    exact ⟨meth, c, h1, h2, h3, h4, h5, h6⟩
  · intro p e s m args below meth c s₁ B hml0 hP _
    obtain ⟨rfl, hx, hbd, hgv⟩ := hP
    obtain ⟨scr, harrAt, hlist, hof, hsmall⟩ := hx
    obtain ⟨hcb, hkn, -, -⟩ := State.arrayAt?_spec harrAt
    have hown : s.vm.findClass R_law = some m.cls := findClass_of_methodNamed B.named
    have hts0 : ∀ c ∈ (Jvm.Cond.code x code maxLocals ret :: tables_1), c.before #[Value.ref b] s = true := atoms_spec (ws := Jvm.Cond.code x code maxLocals ret :: tables_1) B.pre
    have hts : ∀ w ∈ lw_tbl, w.before #[Value.ref b] s = true := k2_hts_sels lw_privs (fun w hw => hts0 w (List.mem_cons_of_mem _ hw)) lw_privs_ok
    have hml : c.maxLocals = 4 := B.maxLocals_eq (hts0 _ List.mem_cons_self)
    have X₀ : Stand p l e room_1 s m #[Value.ref b] below meth c s₁ [] 0 0 := Stand.of_body B
    have hh0 : s₁.heap = s.heap := by rw [B.state]; rfl
    have hsz : scr.slots.size = xs.length := by rw [← Array.length_toList, hlist, List.length_map]
    have hval : ∀ j : Nat, j < xs.length → scr.slots[j]? = some (.int (xs.getD j 0)) := fun j hj => by
      rw [← Array.getElem?_toList, hlist]
      simp [hj]
    have hbl : b < s.heap.size := (Array.getElem?_eq_some_iff.mp hcb).1
    have hX : va_X b xs.length (fun j => xs.getD j 0) s s.heap := ⟨scr, hcb, hof, hkn, hsz, hval⟩
    have K : W p l e room_1 s m #[Value.ref b] below meth c s₁.heap [] 0 0 (lw_Z below #[Value.ref b] s) (entryFrame m ([Value.ref b] : List Value).toArray 4) := by
      rw [hh0]
      exact whole_start l hflags hbd ⟨B.exec, B.bytes, B.returns, hml, hown, hts, hX, hbl, B.notSynchronized, hgv⟩
    obtain ⟨t, a1, o, b1, b2, b3⟩ := K s₁ rfl X₀
    exact ⟨t, o, a1, b1, b2, b3⟩
theorem lw_pre_spec {args : Array Value} {s : State} (h : (Jvm.Cond.and given_1 narrow_1).before args s = true) (hr : rest_1_c.before args s = true) : ∃ (b : Addr) (xs : List Int32), lw_P b xs args s := by
  have hs := flat_of_before _ h
  have hq := flat_of_before _ hr
  have hc : (Cond.count 1).before args s = true := hs _ (by decide +kernel)
  have harr : (Cond.arrayOf (.arg 0) .int).before args s = true := hs _ (by decide +kernel)
  have hle : (Cond.le (.length (.arg 0)) (.int 3072)).before args s = true := hs _ (by decide +kernel)
  have hlen : (Cond.isInt (.length (.arg 0))).before args s = true := hq _ (by decide +kernel)
  have hall : (Cond.all (.arg 0) (.isInt (.elem (.arg 0) (.index 0)))).before args s = true := hq _ (by decide +kernel)
  obtain ⟨b, xs, hb, hx⟩ := State.ints_of_pre rfl harr hlen hall
  have hsm : xs.length < 2 ^ 31 := hx.choose_spec.2.2.2
  have hev : (Term.length (.arg 0)).eval args s none [] s = some (.int xs.length.toInt32) := hx.length_eval hb
  have hv := Cond.le_ints hev (show (Term.int 3072).eval args s none [] s = some (.int 3072) from rfl)
  have hd : xs.length.toInt32 ≤ 3072 := by
    simpa [Cond.before, Cond.holds, hv] using hle
  have hN : xs.length ≤ 3072 := (Int32.ofNat_le_ofNat hsm (by decide)).mp (show Int32.ofNat xs.length ≤ Int32.ofNat 3072 from hd)
  exact ⟨b, xs, Cond.one_arg hc (show args[0]? = some (.ref b) from hb), hx, hN, h⟩
theorem lw_comes (l : Launch) (hflags : l.flags = flags0) : Comes l x (Jvm.Cond.code x code maxLocals ret :: tables_1) room_1 (fun tb e args s => Calls_1 tb e args s ∧ rest_1 tb e args s ∧ Pre_1 tb e args s)
    (fun _ _ args s o t => lw_Q args s o t) := by
  intro p e ha hc hk s m args below hf hfit hheap happ hpre
  obtain ⟨b, xs, hP⟩ := lw_pre_spec hpre.2.2 hpre.2.1
  obtain ⟨k, o, h1, h2, h3, hQ⟩ := lw_walk l hflags b xs p e ha hc hk s m args below hf ((Spec.applies_iff_loose hf).mp happ).1 hP trivial
  exact ⟨k, o, h1, h2, h3, hQ⟩
theorem lw_frame {s t : State} {o : Outcome} {args : Array Value} (h : Framed s o t [] 600000 7302250) :
    Framed s o t (fieldLocs frame_1_writes args s ++ arrayLocs frame_1_arrays args s ++ staticLocs frame_1_statics s) 600000 7302250 := h
theorem lw_limb (L : Cond) (hL : ∀ (args : Array Value) (s t : State), L.after args s (.returned (some (.int 1))) t = true) :
    ArmFor flags0 classFile x code maxLocals ret World_1 tables_1 room_1 Calls_1 rest_1 Pre_1
      (fun tb e a s o t => postC L tb e a s o t ∧ Framed s o t (fieldLocs frame_1_writes a s ++ arrayLocs frame_1_arrays a s ++ staticLocs frame_1_statics s) 600000 7302250) := by
  intro l hflags _ _ p e ha hc hk s m args below hf hfit hheap happ hpre
  obtain ⟨k, o, h1, h2, h3, rfl, hF⟩ := lw_comes l hflags p e ha hc hk s m args below hf hfit hheap happ hpre
  exact ⟨k, _, h1, h2, h3, hL args s _, lw_frame hF⟩
theorem i_vc : Claimed_1_1 ∧ Claimed_1_2 := ⟨lw_limb limb_1_1 (fun args s t => by simp [limb_1_1, Cond.after, Cond.holds, Cond.value]), lw_limb limb_1_2 (fun args s t => Cond.after_iff.mpr (by
  first | (rw [show limb_1_2 = Cond.eq .result (.int 1) from rfl, Cond.eq_ints (x := 1) (y := 1) rfl rfl]; simp; done) | (simp [limb_1_2, Cond.value, Term.eval]; done)))⟩
