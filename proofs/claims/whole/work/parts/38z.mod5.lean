/-! THE REFERENCE: pure rows, third part: sheets, bytes -/
def whyF (g : x_SG) (s : Int32) : Int32 := if isSh s = true then (if gSb g s.toNatClampNeg = 0 then -1000006 else 0) else -1000001
theorem why_cases (g : x_SG) (s : Int32) : (isSh s = false ∧ whyF g s = -1000001) ∨ (∃ y, y < 4 ∧ s = nI y ∧ isSh (nI y) = true ∧ gSb g y = 0 ∧ whyF g s = -1000006) ∨ (∃ y, y < 4 ∧ s = nI y ∧ isSh (nI y) = true ∧ ¬ gSb g y = 0 ∧ whyF g s = 0) := by
  by_cases h : isSh s = true
  · obtain ⟨y, hy, e⟩ := inR_nat (n := 3) (by decide) h
    subst e
    by_cases h2 : gSb g y = 0
    · refine Or.inr (Or.inl ⟨y, by omega, rfl, h, h2, ?_⟩)
      unfold whyF
      rw [if_pos h, nI_clamp (by omega), if_pos h2]
    · refine Or.inr (Or.inr ⟨y, by omega, rfl, h, h2, ?_⟩)
      unfold whyF
      rw [if_pos h, nI_clamp (by omega), if_neg h2]
  · exact Or.inl ⟨Bool.eq_false_iff.mpr h, by unfold whyF; rw [if_neg h]⟩
def askF (g : x_SG) (s p : Int32) : Int32 := if whyF g s = 0 then (if isP (gA g) p = true then 0 else -1000001) else whyF g s
theorem ask_cases {g : x_SG} (hW : WF (gA g)) (s p : Int32) : (isSh s = false ∧ askF g s p = -1000001) ∨ (∃ y, y < 4 ∧ s = nI y ∧ isSh (nI y) = true ∧ gSb g y = 0 ∧ askF g s p = -1000006) ∨
    (∃ y, y < 4 ∧ s = nI y ∧ isSh (nI y) = true ∧ ¬ gSb g y = 0 ∧ isP (gA g) p = false ∧ askF g s p = -1000001) ∨
    (∃ y, y < 4 ∧ s = nI y ∧ isSh (nI y) = true ∧ ¬ gSb g y = 0 ∧ ∃ q, q < pn (gA g) ∧ p = nI q ∧ isP (gA g) (nI q) = true ∧ askF g s p = 0) := by
  rcases why_cases g s with ⟨h1, e⟩ | ⟨y, hy, rfl, h1, h2, e⟩ | ⟨y, hy, rfl, h1, h2, e⟩
  · exact Or.inl ⟨h1, by unfold askF; rw [e]; rfl⟩
  · exact Or.inr (Or.inl ⟨y, hy, rfl, h1, h2, by unfold askF; rw [e]; rfl⟩)
  · by_cases hp : isP (gA g) p = true
    · obtain ⟨q, hq, rfl⟩ := isP_nat hW hp
      exact Or.inr (Or.inr (Or.inr ⟨y, hy, rfl, h1, h2, q, hq, rfl, hp, by unfold askF; rw [e, if_pos rfl, if_pos hp]⟩))
    · exact Or.inr (Or.inr (Or.inl ⟨y, hy, rfl, h1, h2, Bool.eq_false_iff.mpr hp, by unfold askF; rw [e, if_pos rfl, if_neg hp]⟩))
-- where a sheet first is wrong
def wrongF (a : x_St) (z : Nat → Int32) (any : Bool) (n : Nat) : Int32 := if firstN (fun j => !fitB a z any j) 0 n < n then nI (firstN (fun j => !fitB a z any j) 0 n) else -1
def wrS (a : x_St) (z : Nat → Int32) (any : Bool) (n k : Nat) (v : Int32) : Prop := (v = -1 ∧ ∀ j, j < k → (!fitB a z any j) = false) ∨ ∃ j, j < n ∧ v = nI j ∧ (!fitB a z any j) = true ∧ ∀ i, i < j → (!fitB a z any i) = false
theorem wr_in {a : x_St} {z : Nat → Int32} {any : Bool} {n k : Nat} {v : Int32} (h : wrS a z any n k v) (hn : n ≤ 40) (c : ¬ 0 ≤ v) : v = -1 ∧ ∀ j, j < k → (!fitB a z any j) = false := by
  rcases h with h | ⟨j, hj, e, -⟩
  · exact h
  · exact absurd (by rw [e]; exact nI_pos' (by omega)) c
theorem wr_0 (a : x_St) (z : Nat → Int32) (any : Bool) (n : Nat) : wrS a z any n 0 (-1) := Or.inl ⟨rfl, fun _ h => absurd h (Nat.not_lt_zero _)⟩
theorem wr_t {a : x_St} {z : Nat → Int32} {any : Bool} {n k : Nat} (h : ∀ j, j < k → (!fitB a z any j) = false) (c : (!fitB a z any k) = false) : wrS a z any n (k + 1) (-1) := Or.inl ⟨rfl, lt_s h c⟩
theorem wr_f {a : x_St} {z : Nat → Int32} {any : Bool} {n k : Nat} (hk : k < n) (h : ∀ j, j < k → (!fitB a z any j) = false) (c : (!fitB a z any k) = true) : wrS a z any n (k + 1) (nI k) := Or.inr ⟨k, hk, rfl, c, h⟩
theorem wr_end {a : x_St} {z : Nat → Int32} {any : Bool} {n k : Nat} {v : Int32} (hn : n ≤ 40) (hk : k ≤ n) (h : wrS a z any n k v) (c : n ≤ k ∨ 0 ≤ v) : v = wrongF a z any n := by
  unfold wrongF
  rcases h with ⟨e, h⟩ | ⟨j, hj, e, h1, h2⟩
  · subst e
    have hkn : k = n := by
      rcases c with c | c
      · omega
      · exact absurd c (by decide)
    subst hkn
    rw [firstN_none h, if_neg (Nat.lt_irrefl _)]
  · rw [firstN_some hj h1 h2, if_pos hj]; exact e
theorem wr_fit {a : x_St} {z : Nat → Int32} {any : Bool} {n : Nat} (hn : n ≤ 40) (c : ¬ 0 ≤ wrongF a z any n) : fitsB a z any n = true := by
  have h1 := firstN_le (fun j => !fitB a z any j) n 0
  unfold fitsB
  apply decide_eq_true
  rcases Nat.lt_or_ge (firstN (fun j => !fitB a z any j) 0 n) n with q | q
  · unfold wrongF at c
    rw [if_pos q] at c
    exact absurd (nI_pos' (by omega)) c
  · omega
theorem wr_not {a : x_St} {z : Nat → Int32} {any : Bool} {n : Nat} (c : 0 ≤ wrongF a z any n) : fitsB a z any n = false := by
  unfold fitsB
  apply decide_eq_false
  intro q
  unfold wrongF at c
  rw [q, if_neg (Nat.lt_irrefl _)] at c
  exact absurd c (by decide)
theorem judge_r {a : x_St} {z : Nat → Int32} {any : Bool} {n : Nat} : 1 + wrongF a z any n = if firstN (fun j => !fitB a z any j) 0 n < n then nI (firstN (fun j => !fitB a z any j) 0 n) + 1 else 0 := by
  unfold wrongF
  split
  · exact Int32.add_comm _ _
  · rfl
theorem in_sz {z : Nat} (hz : z ≤ 40) (i : Int32) : inR i 0 (nI z - 1) = decide (0 ≤ i ∧ i < nI z) := by
  unfold inR
  congr 1
  apply propext
  have e : (nI z - 1).toInt = (z : Int) - 1 := i32_sub (nI_T (by omega)) rfl (by omega) (by omega)
  rw [Int32.le_iff_toInt_le (x := i), e, Int32.lt_iff_toInt_lt, nI_T (by omega)]
  constructor
  · rintro ⟨h1, h2⟩; exact ⟨h1, by omega⟩
  · rintro ⟨h1, h2⟩; exact ⟨h1, by omega⟩
theorem in_sz_n {z : Nat} (hz : z ≤ 40) {i : Int32} (h : decide (0 ≤ i ∧ i < nI z) = true) : ∃ m, m < z ∧ i = nI m := by
  obtain ⟨h1, h2⟩ := of_decide_eq_true h
  exact inR_p (by omega) (Int32.not_lt.mpr h1) h2
-- how the reference holds its sheets
theorem MX.sb {g : x_SG} {μ μ' : x_Mem} {y : Nat} {b : Int32} (h : MX g μ) (e : μ' = upd2 μ 48 y b) : MX (sS g (upd (gSb g) y b) (gSz g) (gSn g)) μ' := by
  subst e
  obtain ⟨g1, g2, g3, g4, g5, g6, g7⟩ := h
  refine ⟨?_, ?_, ?_, ?_, fun s hs => ?_, ?_, ?_⟩
  · rw [upd2_ne _ _ _ (by omega)]; exact g1
  · rw [upd2_ne _ _ _ (by omega)]; exact g2
  · rw [upd2_ne _ _ _ (by omega)]; exact g3
  · rw [upd2_ne _ _ _ (by omega)]; exact g4
  · rw [upd2_at]
    show upd (μ 48) y b s = upd (gSb g) y b s
    unfold upd
    split
    · rfl
    · exact g5 s hs
  · rw [upd2_ne _ _ _ (by omega)]; exact g6
  · rw [upd2_ne _ _ _ (by omega)]; exact g7
theorem MX.sz {g : x_SG} {μ μ' : x_Mem} {y z : Nat} {x : Int32} (h : MX g μ) (e : μ' = upd2 μ 49 y x) (hx : x = nI z) : MX (sS g (gSb g) (upn (gSz g) y z) (gSn g)) μ' := by
  subst e hx
  obtain ⟨g1, g2, g3, g4, g5, g6, g7⟩ := h
  refine ⟨?_, ?_, ?_, ?_, ?_, fun s hs => ?_, ?_⟩
  · rw [upd2_ne _ _ _ (by omega)]; exact g1
  · rw [upd2_ne _ _ _ (by omega)]; exact g2
  · rw [upd2_ne _ _ _ (by omega)]; exact g3
  · rw [upd2_ne _ _ _ (by omega)]; exact g4
  · rw [upd2_ne _ _ _ (by omega)]; exact g5
  · rw [upd2_at]
    show upd (μ 49) y (nI z) s = nI (upn (gSz g) y z s)
    unfold upd upn
    split
    · rfl
    · exact g6 s hs
  · rw [upd2_ne _ _ _ (by omega)]; exact g7
theorem MX.sn {g : x_SG} {μ μ' : x_Mem} {y j : Nat} {x : Int32} {N : Nat → Nat → Int32} (h : MX g μ) (hj : j < 40) (e : μ' = upd2 μ 50 (40 * y + j) x) (hN : ∀ s, s < 4 → ∀ i, i < 40 → N s i = if s = y ∧ i = j then x else gSn g s i) : MX (sS g (gSb g) (gSz g) N) μ' := by
  subst e
  obtain ⟨g1, g2, g3, g4, g5, g6, g7⟩ := h
  refine ⟨?_, ?_, ?_, ?_, ?_, ?_, fun s hs i hi => ?_⟩
  · rw [upd2_ne _ _ _ (by omega)]; exact g1
  · rw [upd2_ne _ _ _ (by omega)]; exact g2
  · rw [upd2_ne _ _ _ (by omega)]; exact g3
  · rw [upd2_ne _ _ _ (by omega)]; exact g4
  · rw [upd2_ne _ _ _ (by omega)]; exact g5
  · rw [upd2_ne _ _ _ (by omega)]; exact g6
  · rw [upd2_at]
    show upd (μ 50) (40 * y + j) x (40 * s + i) = N s i
    rw [hN s hs i hi]
    unfold upd
    by_cases q : s = y ∧ i = j
    · rw [if_pos q, if_pos (by omega)]
    · rw [if_neg q, if_neg (by omega)]; exact g7 s hs i hi
/-- the same sheets as far as they reach -/
theorem MX.nm {g : x_SG} {μ : x_Mem} {N : Nat → Nat → Int32} (h : MX g μ) (hN : ∀ s, s < 4 → ∀ i, i < 40 → N s i = gSn g s i) : MX (sS g (gSb g) (gSz g) N) μ := by
  obtain ⟨g1, g2, g3, g4, g5, g6, g7⟩ := h
  exact ⟨g1, g2, g3, g4, g5, g6, fun s hs i hi => (g7 s hs i hi).trans (hN s hs i hi).symm⟩
/-- the first k of a sheet are 0 -/
def clrN (N : Nat → Nat → Int32) (y k : Nat) : Nat → Nat → Int32 := fun s j => if s = y ∧ j < k then 0 else N s j
theorem clr_s {N : Nat → Nat → Int32} {y k : Nat} (s : Nat) (i : Nat) : clrN N y (k + 1) s i = if s = y ∧ i = k then 0 else clrN N y k s i := by
  unfold clrN
  by_cases q : s = y ∧ i = k
  · rw [if_pos q, if_pos (by omega)]
  · rw [if_neg q]
    by_cases q2 : s = y ∧ i < k
    · rw [if_pos q2, if_pos (by omega)]
    · rw [if_neg q2, if_neg (by omega)]
theorem clr_0 {N : Nat → Nat → Int32} {y : Nat} (s i : Nat) : clrN N y 0 s i = N s i := by
  unfold clrN
  rw [if_neg (by omega)]
theorem clr_e {N : Nat → Nat → Int32} {y : Nat} (s i : Nat) (hi : i < 40) : upr N y (fun _ => 0) s i = clrN N y 40 s i := by
  unfold upr clrN
  by_cases q : s = y
  · rw [if_pos q, if_pos (by omega)]
  · rw [if_neg q, if_neg (by omega)]
theorem upr_w {N : Nat → Nat → Int32} {y j : Nat} {x : Int32} (s i : Nat) : upr N y (upd (N y) j x) s i = if s = y ∧ i = j then x else N s i := by
  unfold upr upd
  by_cases q : s = y
  · subst q
    rw [if_pos rfl]
    by_cases q2 : i = j
    · rw [if_pos q2, if_pos ⟨rfl, q2⟩]
    · rw [if_neg q2, if_neg (fun z => q2 z.2)]
  · rw [if_neg q, if_neg (fun z => q z.1)]
-- copies
def copF (g : x_SG) (s f t d n : Int32) : Int32 :=
  if isSh s = true ∧ isSh t = true then
    (if gSb g s.toNatClampNeg = 0 ∨ gSb g t.toNatClampNeg = 0 then -1000006
     else if gSb g s.toNatClampNeg = gSb g t.toNatClampNeg then (if rowOk (gSz g s.toNatClampNeg) f n = true ∧ rowOk (gSz g t.toNatClampNeg) d n = true then 0 else -1000001) else -1000003)
  else -1000001
theorem cop_cases {g : x_SG} (hz : ∀ s, s < 4 → gSz g s ≤ 40) (s f t d n : Int32) :
    (copF g s f t d n = -1000001 ∧ F_copy g s f t d n = fin g 0) ∨ (copF g s f t d n = -1000006 ∧ F_copy g s f t d n = fin g 5) ∨ (copF g s f t d n = -1000003 ∧ F_copy g s f t d n = fin g 2) ∨
    (∃ y u f' d' n', y < 4 ∧ u < 4 ∧ s = nI y ∧ t = nI u ∧ f = nI f' ∧ d = nI d' ∧ n = nI n' ∧ f' + n' ≤ 40 ∧ d' + n' ≤ 40 ∧ f' < 2 ^ 31 ∧ d' < 2 ^ 31 ∧ copF g s f t d n = 0 ∧
      F_copy g s f t d n = (nI n', sS g (gSb g) (gSz g) (upr (gSn g) u (va_cpy (gSn g y) (gSn g u) f' d' n')))) := by
  by_cases h1 : isSh s = true ∧ isSh t = true
  · by_cases h2 : gSb g s.toNatClampNeg = 0 ∨ gSb g t.toNatClampNeg = 0
    · exact Or.inr (Or.inl ⟨by unfold copF; rw [if_pos h1, if_pos h2], by unfold F_copy; rw [if_pos h1, if_pos h2]⟩)
    · by_cases h3 : gSb g s.toNatClampNeg = gSb g t.toNatClampNeg
      · by_cases h4 : rowOk (gSz g s.toNatClampNeg) f n = true ∧ rowOk (gSz g t.toNatClampNeg) d n = true
        · obtain ⟨y, hy, e1⟩ := inR_nat (n := 3) (by decide) h1.1
          obtain ⟨u, hu, e2⟩ := inR_nat (n := 3) (by decide) h1.2
          have c1 : s.toNatClampNeg = y := by rw [e1, nI_clamp (by omega)]
          have c2 : t.toNatClampNeg = u := by rw [e2, nI_clamp (by omega)]
          have hzy := hz y (by omega)
          have hzu := hz u (by omega)
          obtain ⟨f', n', e3, e4, h5⟩ := rowOk_n (z := gSz g s.toNatClampNeg) (by rw [c1]; exact hzy) h4.1
          obtain ⟨d', n2, e5, e6, h6⟩ := rowOk_n (z := gSz g t.toNatClampNeg) (by rw [c2]; exact hzu) h4.2
          rw [c1] at h5
          rw [c2] at h6
          have hn : n2 = n' := by
            rw [e4] at e6
            exact ((nI_eq (by omega) (by omega)).mp e6).symm
          subst hn
          refine Or.inr (Or.inr (Or.inr ⟨y, u, f', d', n2, by omega, by omega, e1, e2, e3, e5, e4, by omega, by omega, by omega, by omega, ?_, ?_⟩))
          · unfold copF; rw [if_pos h1, if_neg h2, if_pos h3, if_pos h4]
          · unfold F_copy; rw [if_pos h1, if_neg h2, if_pos h3, if_pos h4, c1, c2, e3, e4, e5, nI_clamp (by omega), nI_clamp (by omega), nI_clamp (by omega)]
        · exact Or.inl ⟨by unfold copF; rw [if_pos h1, if_neg h2, if_pos h3, if_neg h4], by unfold F_copy; rw [if_pos h1, if_neg h2, if_pos h3, if_neg h4]⟩
      · exact Or.inr (Or.inr (Or.inl ⟨by unfold copF; rw [if_pos h1, if_neg h2, if_neg h3], by unfold F_copy; rw [if_pos h1, if_neg h2, if_neg h3]⟩))
  · exact Or.inl ⟨by unfold copF; rw [if_neg h1], by unfold F_copy; rw [if_neg h1]⟩
/-- k of n numbers are copied: the last ones, or the first ones -/
def cpN (N : Nat → Nat → Int32) (y u f d n : Nat) (up : Bool) (k : Nat) : Nat → Nat → Int32 := fun s j =>
  if s = u ∧ d ≤ j ∧ j < d + n ∧ (if up = true then n ≤ j - d + k else j - d < k) then N y (f + (j - d)) else N s j
theorem cp_0 {N : Nat → Nat → Int32} {y u f d n : Nat} {up : Bool} (s i : Nat) : cpN N y u f d n up 0 s i = N s i := by
  unfold cpN
  rw [if_neg]
  rintro ⟨h1, h2, h3, h4⟩
  split at h4 <;> omega
theorem cp_e {N : Nat → Nat → Int32} {y u f d n : Nat} {up : Bool} (s i : Nat) : upr N u (va_cpy (N y) (N u) f d n) s i = cpN N y u f d n up n s i := by
  unfold upr cpN
  by_cases q : s = u
  · subst q
    rw [if_pos rfl]
    show (if d ≤ i ∧ i < d + n then N y (f + (i - d)) else N s i) = _
    by_cases q2 : d ≤ i ∧ i < d + n
    · rw [if_pos q2, if_pos ⟨rfl, q2.1, q2.2, by split <;> omega⟩]
    · rw [if_neg q2, if_neg (fun z => q2 ⟨z.2.1, z.2.2.1⟩)]
  · rw [if_neg q, if_neg (fun z => q z.1)]
theorem cp_u {N : Nat → Nat → Int32} {y u f d n k : Nat} (hk : k < n) (s i : Nat) : cpN N y u f d n true (k + 1) s i = if s = u ∧ i = d + (n - 1 - k) then N y (f + (n - 1 - k)) else cpN N y u f d n true k s i := by
  unfold cpN
  by_cases q : s = u ∧ i = d + (n - 1 - k)
  · rw [if_pos q, if_pos ⟨q.1, by omega, by omega, by rw [if_pos rfl]; omega⟩, q.2, show d + (n - 1 - k) - d = n - 1 - k by omega]
  · rw [if_neg q]
    by_cases q2 : s = u ∧ d ≤ i ∧ i < d + n ∧ (if true = true then n ≤ i - d + k else i - d < k)
    · rw [if_pos q2, if_pos ⟨q2.1, q2.2.1, q2.2.2.1, by have := q2.2.2.2; rw [if_pos rfl] at this ⊢; omega⟩]
    · rw [if_neg q2, if_neg]
      rintro ⟨h1, h2, h3, h4⟩
      rw [if_pos rfl] at h4
      rcases Nat.lt_or_ge (i - d + k) n with z | z
      · exact q ⟨h1, by omega⟩
      · exact q2 ⟨h1, h2, h3, by rw [if_pos rfl]; omega⟩
theorem cp_d {N : Nat → Nat → Int32} {y u f d n k : Nat} (hk : k < n) (s i : Nat) : cpN N y u f d n false (k + 1) s i = if s = u ∧ i = d + k then N y (f + k) else cpN N y u f d n false k s i := by
  unfold cpN
  by_cases q : s = u ∧ i = d + k
  · rw [if_pos q, if_pos ⟨q.1, by omega, by omega, by rw [if_neg Bool.false_ne_true]; omega⟩, q.2, show d + k - d = k by omega]
  · rw [if_neg q]
    by_cases q2 : s = u ∧ d ≤ i ∧ i < d + n ∧ (if false = true then n ≤ i - d + k else i - d < k)
    · rw [if_pos q2, if_pos ⟨q2.1, q2.2.1, q2.2.2.1, by have := q2.2.2.2; rw [if_neg Bool.false_ne_true] at this ⊢; omega⟩]
    · rw [if_neg q2, if_neg]
      rintro ⟨h1, h2, h3, h4⟩
      rw [if_neg Bool.false_ne_true] at h4
      rcases Nat.lt_or_ge (i - d) k with z | z
      · exact q2 ⟨h1, h2, h3, by rw [if_neg Bool.false_ne_true]; omega⟩
      · exact q ⟨h1, by omega⟩
theorem cp_ru {N : Nat → Nat → Int32} {y u f d n k : Nat} (hk : k < n) (hfd : f < d) : cpN N y u f d n true k y (f + (n - 1 - k)) = N y (f + (n - 1 - k)) := by
  unfold cpN
  rw [if_neg]
  rintro ⟨h1, h2, h3, h4⟩
  rw [if_pos rfl] at h4
  omega
theorem cp_rd {N : Nat → Nat → Int32} {y u f d n k : Nat} (hk : k < n) (hfd : d ≤ f) : cpN N y u f d n false k y (f + k) = N y (f + k) := by
  unfold cpN
  rw [if_neg]
  rintro ⟨h1, h2, h3, h4⟩
  rw [if_neg Bool.false_ne_true] at h4
  omega
theorem cp_i {n k : Nat} (hk : k < n) : nI n - 1 - nI k = nI (n - 1 - k) := by
  rw [show (1 : Int32) = nI 1 from rfl, pk_sub (by omega), pk_sub (by omega)]
-- bytes that are fed
theorem fd_0 (g : x_SG) (v : Int32) (n : Nat) : feedTo g v n 0 = gB g := by
  funext j
  unfold feedTo
  rw [if_neg (by omega)]
theorem fd_s {g : x_SG} {v : Int32} {n k : Nat} (j : Nat) (hj : j < gT g + (k + 1)) : feedTo g v n (k + 1) j = if j = gT g + k then ((v >>> (nI (8 * (n - 1 - k)) &&& 31)) &&& 255) else feedTo g v n k j := by
  unfold feedTo
  by_cases q : j = gT g + k
  · rw [if_pos q, if_pos (by omega), q, show gT g + k - gT g = k by omega]
  · rw [if_neg q]
    by_cases q2 : gT g ≤ j ∧ j < gT g + k
    · rw [if_pos q2, if_pos (by omega)]
    · rw [if_neg q2, if_neg (by omega)]
theorem MX.fed {g : x_SG} {v : Int32} {n k : Nat} {μ μ1 μ2 : x_Mem} {x : Int32} (h : MX (sT g (gT g + k) (feedTo g v n k)) μ) (e1 : μ1 = upd2 μ 51 (gT g + k) ((v >>> (nI (8 * (n - 1 - k)) &&& 31)) &&& 255)) (e2 : μ2 = upd2 μ1 41 11 x) (hx : x = nI (gT g + (k + 1))) : MX (sT g (gT g + (k + 1)) (feedTo g v n (k + 1))) μ2 := by
  have h4 : ∀ j, j < gT g + k → μ 51 j = feedTo g v n k j := h.2.2.2.1
  subst e1 e2 hx
  refine MX.tape (g := sT g (gT g + k) (feedTo g v n k)) h ?_ ?_ (fun j hj => ?_) (fun id hid => ?_)
  · rw [upd2_at, upd_n _ _ (by decide), upd2_ne _ _ _ (by decide)]
  · rw [upd2_at, upd_s]
  · rw [upd2_ne _ _ _ (by decide), upd2_at, fd_s j hj]
    unfold upd
    by_cases q : j = gT g + k
    · rw [if_pos q, if_pos q]
    · rw [if_neg q, if_neg q]; exact h4 j (by omega)
  · rw [upd2_ne _ _ _ (by omega), upd2_ne _ _ _ (by omega)]
theorem load_e1 {f : Nat → Bool} {n k : Nat} (hk : k ≤ n) (hn : n ≤ k) (h : ∀ j, j < k → f j = false) : firstN f 0 n = k := by
  have e : k = n := by omega
  subst e
  exact firstN_none h
