/-! PURE 5: images, the tape, sheets -/
theorem XR.img {g : x_SG} {μ μ' : x_Mem} (h : XR g μ) {k : x_St} {p : Bool} (hk : p = true → PR k 19 μ' ∧ μ' 19 11 = k 0) (h3 : μ' 0 3 = x_b p) (e : ∀ id, (id = 28 ∨ id = 29 ∨ (33 ≤ id ∧ id < 41)) → μ' id = μ id) : XR (sK g k p) μ' := by
  obtain ⟨-, -, g3, g4, g5, g6, g7⟩ := h
  refine ⟨hk, h3, ?_, fun j hj => ?_, fun s hs => ?_, fun s hs => ?_, fun s hs j hj => ?_⟩
  · rw [e 28 (by omega)]; exact g3
  · rw [e 29 (by omega)]; exact g4 j hj
  · rw [e _ (by omega)]; exact g5 s hs
  · rw [e _ (by omega)]; exact g6 s hs
  · rw [e _ (by omega)]; exact g7 s hs j hj
theorem XR.tape {g : x_SG} {μ μ' : x_Mem} (h : XR g μ) {n : Nat} {b : Nat → Int32} (hn : μ' 28 1 = nI n) (hb : ∀ j, j < n → μ' 29 j = (b j).toInt8.toInt32) (e : ∀ id, (id = 0 ∨ (19 ≤ id ∧ id < 25) ∨ (33 ≤ id ∧ id < 41)) → μ' id = μ id) : XR (sT g n b) μ' := by
  obtain ⟨g1, g2, -, -, g5, g6, g7⟩ := h
  refine ⟨fun z => ⟨(g1 z).1.cg (fun id hid => e id (by omega)), ?_⟩, ?_, hn, hb, fun s hs => ?_, fun s hs => ?_, fun s hs j hj => ?_⟩
  · rw [e 19 (by omega)]; exact (g1 z).2
  · rw [e 0 (by omega)]; exact g2
  · rw [e _ (by omega)]; exact g5 s hs
  · rw [e _ (by omega)]; exact g6 s hs
  · rw [e _ (by omega)]; exact g7 s hs j hj
theorem XR.sheet {g : x_SG} {μ μ' : x_Mem} (h : XR g μ) {i : Nat} {b : Int32} {z : Nat} {r : Nat → Int32} (hb : μ' (33 + 2 * i) 0 = b) (hz : μ' (33 + 2 * i) 1 = nI z) (hr : ∀ j, j < 40 → μ' (33 + 2 * i + 1) j = r j)
    (e : ∀ id, (id < 33 + 2 * i ∨ 33 + 2 * i + 1 < id) → μ' id = μ id) : XR (sS g (upd (gSb g) i b) (upn (gSz g) i z) (upr (gSn g) i r)) μ' := by
  obtain ⟨g1, g2, g3, g4, g5, g6, g7⟩ := h
  by_cases hi : 4 ≤ i
  · refine ⟨fun z => ⟨(g1 z).1.cg (fun id hid => e id (by omega)), ?_⟩, ?_, ?_, fun j hj => ?_, fun s hs => ?_, fun s hs => ?_, fun s hs j hj => ?_⟩
    · rw [e 19 (by omega)]; exact (g1 z).2
    · rw [e 0 (by omega)]; exact g2
    · rw [e 28 (by omega)]; exact g3
    · rw [e 29 (by omega)]; exact g4 j hj
    · rw [e _ (by omega)]; exact (g5 s hs).trans (upd_n _ _ (by omega)).symm
    · rw [e _ (by omega)]; refine (g6 s hs).trans ?_; show nI (gSz g s) = nI (upn (gSz g) i z s); unfold upn; rw [if_neg (by omega)]
    · rw [e _ (by omega)]; refine (g7 s hs j hj).trans ?_; show gSn g s j = upr (gSn g) i r s j; unfold upr; rw [if_neg (by omega)]
  · refine ⟨fun z => ⟨(g1 z).1.cg (fun id hid => e id (by omega)), ?_⟩, ?_, ?_, fun j hj => ?_, fun s hs => ?_, fun s hs => ?_, fun s hs j hj => ?_⟩
    · rw [e 19 (by omega)]; exact (g1 z).2
    · rw [e 0 (by omega)]; exact g2
    · rw [e 28 (by omega)]; exact g3
    · rw [e 29 (by omega)]; exact g4 j hj
    · show _ = upd (gSb g) i b s
      by_cases q : s = i
      · subst q; rw [upd_s]; exact hb
      · rw [upd_n _ _ q, e _ (by omega)]; exact g5 s hs
    · show _ = nI (upn (gSz g) i z s)
      unfold upn
      by_cases q : s = i
      · subst q; rw [if_pos rfl]; exact hz
      · rw [if_neg q, e _ (by omega)]; exact g6 s hs
    · show _ = upr (gSn g) i r s j
      unfold upr
      by_cases q : s = i
      · subst q; rw [if_pos rfl]; exact hr j hj
      · rw [if_neg q, e _ (by omega)]; exact g7 s hs j hj
theorem XR.row {g : x_SG} {μ μ' : x_Mem} (h : XR g μ) {i : Nat} {r : Nat → Int32} (hr : ∀ j, j < 40 → μ' (33 + 2 * i + 1) j = r j)
    (e : ∀ id, id ≠ 33 + 2 * i + 1 → μ' id = μ id) : XR (sS g (gSb g) (gSz g) (upr (gSn g) i r)) μ' := by
  obtain ⟨g1, g2, g3, g4, g5, g6, g7⟩ := h
  refine ⟨fun z => ⟨(g1 z).1.cg (fun id hid => e id (by omega)), ?_⟩, ?_, ?_, fun j hj => ?_, fun s hs => ?_, fun s hs => ?_, fun s hs j hj => ?_⟩
  · rw [e 19 (by omega)]; exact (g1 z).2
  · rw [e 0 (by omega)]; exact g2
  · rw [e 28 (by omega)]; exact g3
  · rw [e 29 (by omega)]; exact g4 j hj
  · rw [e _ (by omega)]; exact g5 s hs
  · rw [e _ (by omega)]; exact g6 s hs
  · show _ = upr (gSn g) i r s j
    unfold upr
    by_cases q : s = i
    · subst q; rw [if_pos rfl]; exact hr j hj
    · rw [if_neg q, e _ (by omega)]; exact g7 s hs j hj
-- bytes that are fed
def byteU (v : Int32) (i : Nat) : Int32 := (v.toUInt32 >>> (((8 : Int32) * nI i).toUInt32 &&& Int32.toUInt32 31)).toInt32
theorem byte_8 (v : Int32) (i : Nat) (h : i < 4) : (byteU v i).toInt8 = ((v >>> (nI (8 * i) &&& 31)) &&& 255).toInt8 := by
  have h4 : i = 0 ∨ i = 1 ∨ i = 2 ∨ i = 3 := by omega
  apply Int8.toBitVec_inj.mp
  unfold byteU
  apply BitVec.eq_of_getLsbD_eq
  intro j hj
  have e255 : (255 : Int32).toBitVec = 255#32 := rfl
  have m255 : ∀ j, j < 8 → (255#32).getLsbD j = true := by decide
  have m8 : ∀ j, j < 8 → (255#8).getLsbD j = true := by decide
  have h32 : j < 32 := by omega
  rcases h4 with rfl | rfl | rfl | rfl <;>
  · simp [BitVec.getLsbD_setWidth, BitVec.getLsbD_ushiftRight, BitVec.getLsbD_sshiftRight, BitVec.getLsbD_and, nI, Int32.toBitVec_and, e255, m255 j hj]
    try rw [m8 j hj]
    simp only [BitVec.getLsbD_signExtend, BitVec.getLsbD_ushiftRight, BitVec.getLsbD_sshiftRight, hj, h32, decide_true, if_true, Bool.true_and, Bool.and_true, implies_true]
    try (first | done | (rw [if_pos (by omega)]; simp; omega))
theorem i8_i8 (x : Int32) : x.toInt8.toInt32.toInt8 = x.toInt8 := by simp
theorem feed_in {g : x_SG} {v : Int32} {n k : Nat} (hn : n ≤ 4) (hk : k < n) : (byteU v (n - 1 - k)).toInt8.toInt32.toInt8.toInt32 = (feedTo g v n n (gT g + k)).toInt8.toInt32 := by
  unfold feedTo
  rw [if_pos ⟨by omega, by omega⟩, i8_i8, byte_8 _ _ (by omega), show gT g + k - gT g = k by omega]
theorem feed_out {g : x_SG} {v : Int32} {n j : Nat} (hj : j < gT g) : feedTo g v n n j = gB g j := by
  unfold feedTo
  rw [if_neg (by omega)]
theorem app_up {n k : Nat} (h : k < n) (hn : n ≤ 4) : nI (n - k) - 1 = nI (n - 1 - k) := by
  rw [show n - k = (n - 1 - k) + 1 by omega, ← nI_1]
  exact Int32.add_sub_cancel _ _
theorem app_dn {n k : Nat} (h : n ≤ k) : nI (n - k) - 1 = -1 := by
  rw [show n - k = 0 by omega]
  decide
theorem app_nx {n k : Nat} : nI (n - 1 - k) + (-1) = nI (n - (k + 1)) - 1 := by
  rw [show n - 1 - k = n - (k + 1) by omega, Int32.sub_eq_add_neg]
-- sheets
theorem firstN_le (f : Nat → Bool) : ∀ n s, firstN f s n ≤ s + n
  | 0, s => Nat.le_refl _
  | n + 1, s => by
    unfold firstN
    split
    · omega
    · have := firstN_le f n (s + 1); omega
theorem fits_iff {a : x_St} {z : Nat → Int32} {any : Bool} {n : Nat} (hn : n ≤ 40) : nI (firstN (fun j => !fitB a z any j) 0 n) = nI n ↔ fitsB a z any n = true := by
  have h1 := firstN_le (fun j => !fitB a z any j) n 0
  unfold fitsB
  rw [nI_eq (by omega) (by omega)]
  exact decide_eq_true_iff.symm
theorem fits_t {a : x_St} {z : Nat → Int32} {any : Bool} {n : Nat} (hn : n ≤ 40) (c : nI (firstN (fun j => !fitB a z any j) 0 n) = nI n) : fitsB a z any n = true := (fits_iff hn).mp c
theorem fits_f {a : x_St} {z : Nat → Int32} {any : Bool} {n : Nat} (hn : n ≤ 40) (c : ¬ nI (firstN (fun j => !fitB a z any j) 0 n) = nI n) : fitsB a z any n = false := Bool.eq_false_iff.mpr (fun z => c ((fits_iff hn).mpr z))
theorem judge_t {a : x_St} {z : Nat → Int32} {any : Bool} {n : Nat} (hn : n ≤ 40) (c : nI (firstN (fun j => !fitB a z any j) 0 n) = nI n) : ¬ firstN (fun j => !fitB a z any j) 0 n < n := by
  have h1 := firstN_le (fun j => !fitB a z any j) n 0
  have := (nI_eq (by omega) (by omega)).mp c
  omega
theorem judge_f {a : x_St} {z : Nat → Int32} {any : Bool} {n : Nat} (hn : n ≤ 40) (c : ¬ nI (firstN (fun j => !fitB a z any j) 0 n) = nI n) : firstN (fun j => !fitB a z any j) 0 n < n := by
  have h1 := firstN_le (fun j => !fitB a z any j) n 0
  rcases Nat.lt_or_ge (firstN (fun j => !fitB a z any j) 0 n) n with q | q
  · exact q
  · exact absurd (congrArg nI (show firstN (fun j => !fitB a z any j) 0 n = n by omega)) c
theorem min16 {n : Nat} (hn : n ≤ 40) : minI (nI n) 16 = nI (min n 16) := by
  show (if nI 16 < nI n then nI 16 else nI n) = nI (min n 16)
  by_cases q : 16 < n
  · rw [if_pos ((nI_ltI (a := 16) (b := n) (by omega) (by omega)).mpr q), Nat.min_eq_right (by omega)]
  · rw [if_neg (fun z => q ((nI_ltI (a := 16) (b := n) (by omega) (by omega)).mp z)), Nat.min_eq_left (by omega)]
theorem load_0 (a : x_St) (z : Nat → Int32) : loadTo a z 0 = a := by
  funext j
  unfold loadTo
  rw [if_neg (by omega)]
theorem load_s (a : x_St) (z : Nat → Int32) (n : Nat) : upd (loadTo a z n) (8 + n) (z n) = loadTo a z (n + 1) := by
  funext j
  unfold upd loadTo
  by_cases q : j = 8 + n
  · subst q
    rw [if_pos rfl, if_pos (by omega), show 8 + n - 8 = n by omega]
  · rw [if_neg q]
    by_cases q2 : 8 ≤ j ∧ j < 8 + n
    · rw [if_pos q2, if_pos (by omega)]
    · rw [if_neg q2, if_neg (by omega)]
theorem load_1 (a : x_St) (z : Nat → Int32) (n : Nat) : loadTo a z n 0 = a 0 := by
  unfold loadTo
  rw [if_neg (by omega)]
theorem load_f {n k : Nat} {f : Nat → Bool} (hk : min n 16 ≤ k) (hk2 : k ≤ min n 16) (h : ∀ j, j < k → (!(decide (j < 16) && f j)) = false) : firstN (fun j => !(decide (j < 16) && f j)) 0 n = k := by
  by_cases q : n ≤ 16
  · have e : k = n := by omega
    subst e
    exact firstN_none h
  · have e : k = 16 := by omega
    subst e
    exact firstN_some (f := fun j => !(decide (j < 16) && f j)) (by omega) (by simp) h
theorem inR_p {v : Int32} {n : Nat} (hn : n < 2 ^ 31) (h0 : ¬ v < 0) (h : v < nI n) : ∃ k, k < n ∧ v = nI k := by
  obtain ⟨k, hk, e⟩ := nI_of h0
  rw [e] at h
  exact ⟨k, (nI_ltI hk hn).mp h, e⟩
theorem rowOk_n {z : Nat} {f n : Int32} (hz : z ≤ 40) (h : rowOk z f n = true) : ∃ f' n', f = nI f' ∧ n = nI n' ∧ f' + n' ≤ z := by
  obtain ⟨h1, h2, h3⟩ := of_decide_eq_true h
  obtain ⟨f', hf', rfl⟩ := nI_of (Int32.not_lt.mpr h1)
  obtain ⟨n', hn', rfl⟩ := nI_of (Int32.not_lt.mpr h2)
  refine ⟨f', n', rfl, rfl, ?_⟩
  rw [Int32.le_iff_toInt_le, Int32.toInt_sub, nI_T hf', nI_T hn', nI_T (by omega)] at h3
  have e : ((z : Int) - (f' : Int)).bmod (2 ^ 32) = (z : Int) - f' := by
    rw [Int.bmod_eq_of_le] <;> omega
  rw [e] at h3
  omega
theorem rowOk_f1 {z : Nat} {f n : Int32} (h : f < 0) : rowOk z f n = false := decide_eq_false (fun q => Int32.not_le.mpr h q.1)
theorem rowOk_f2 {z : Nat} {f n : Int32} (h : n < 0) : rowOk z f n = false := decide_eq_false (fun q => Int32.not_le.mpr h q.2.1)
theorem rowOk_f3 {z : Nat} {f n : Int32} (h : nI z - f < n) : rowOk z f n = false := decide_eq_false (fun q => Int32.not_le.mpr h q.2.2)
theorem rowOk_t {z : Nat} {f n : Int32} (h1 : ¬ f < 0) (h2 : ¬ n < 0) (h3 : ¬ nI z - f < n) : rowOk z f n = true := decide_eq_true ⟨Int32.not_lt.mp h1, Int32.not_lt.mp h2, Int32.not_lt.mp h3⟩
theorem cpy_row {s t : Nat → Int32} {μ ν : Nat → Int32} {f d n : Nat} (h1 : ∀ j, j < 40 → μ j = s j) (h2 : ∀ j, j < 40 → ν j = t j) (hf : f + n ≤ 40) : ∀ j, j < 40 → va_cpy μ ν f d n j = va_cpy s t f d n j := by
  intro j hj
  show (if d ≤ j ∧ j < d + n then μ (f + (j - d)) else ν j) = (if d ≤ j ∧ j < d + n then s (f + (j - d)) else t j)
  split
  · exact h1 _ (by omega)
  · exact h2 j hj
theorem app_b {t n k : Nat} {v : Int32} {μ μ' : x_Mem} (hA : ∀ k1, k1 < k → μ 29 (t + k1) = (byteU v (n - 1 - k1)).toInt8.toInt32.toInt8.toInt32) (e : μ' = upd2 μ 29 (t + k) (byteU v (n - 1 - k)).toInt8.toInt32.toInt8.toInt32) : ∀ k1, k1 < k + 1 → μ' 29 (t + k1) = (byteU v (n - 1 - k1)).toInt8.toInt32.toInt8.toInt32 := by
  subst e
  intro k1 h
  rw [upd2_at]
  by_cases q : k1 = k
  · subst q; rw [upd_s]
  · rw [upd_n _ _ (by omega)]; exact hA k1 (by omega)
theorem feed_all {g : x_SG} {v : Int32} {n : Nat} {μ μ' : x_Mem} (hn : n ≤ 4) (h2 : ∀ k, k < n → μ' 29 (gT g + k) = (byteU v (n - 1 - k)).toInt8.toInt32.toInt8.toInt32) (h3 : ∀ j, j < gT g → μ' 29 j = μ 29 j) (h4 : ∀ j, j < gT g → μ 29 j = (gB g j).toInt8.toInt32) : ∀ j, j < gT g + n → μ' 29 j = (feedTo g v n n j).toInt8.toInt32 := by
  intro j hj
  by_cases q : j < gT g
  · rw [feed_out q, h3 j q, h4 j q]
  · obtain ⟨k, rfl⟩ : ∃ k, j = gT g + k := ⟨j - gT g, by omega⟩
    rw [h2 k (by omega), feed_in hn (by omega)]
theorem fw_1 {a : x_St} {z : Nat → Int32} {any : Bool} {k : Nat} (c : z k = hoursF a k 1) : (!fitB a z any k) = false := by unfold fitB; rw [decide_eq_true c]; rfl
theorem fw_2 {a : x_St} {z : Nat → Int32} {any : Bool} {k : Nat} (c : any = true) (c2 : z k = -1) : (!fitB a z any k) = false := by unfold fitB; rw [c, decide_eq_true c2]; simp
theorem fw_3 {a : x_St} {z : Nat → Int32} {any : Bool} {k : Nat} (c : ¬ z k = hoursF a k 1) (c2 : any = false) : (!fitB a z any k) = true := by unfold fitB; rw [decide_eq_false c, c2]; rfl
theorem fw_4 {a : x_St} {z : Nat → Int32} {any : Bool} {k : Nat} (c : ¬ z k = hoursF a k 1) (c2 : ¬ z k = -1) : (!fitB a z any k) = true := by unfold fitB; rw [decide_eq_false c, decide_eq_false c2]; simp
