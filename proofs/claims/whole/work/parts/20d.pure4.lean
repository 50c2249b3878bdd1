/-! PURE 4: sets as naturals, spots, kinds under kinds, gold -/
theorem isSet_f1 {a : x_St} {s : Int32} (h : s < 0) : isSet a s = false := decide_eq_false (fun z => Int32.not_le.mpr h z.1)
theorem isSet_f2 {a : x_St} {s : Int32} (h : nI (2 ^ pn a) ≤ s) : isSet a s = false := decide_eq_false (fun z => Int32.not_le.mpr z.2 h)
theorem isSet_t {a : x_St} {s : Int32} (h0 : ¬ s < 0) (h : ¬ nI (2 ^ pn a) ≤ s) : isSet a s = true := decide_eq_true ⟨Int32.not_lt.mp h0, Int32.not_le.mp h⟩
theorem isSet_nat {a : x_St} {s : Int32} (h8 : pn a ≤ 8) (h0 : ¬ s < 0) (h : ¬ nI (2 ^ pn a) ≤ s) : ∃ j, j < 2 ^ pn a ∧ s = nI j := by
  obtain ⟨k, hk, e⟩ := nI_of h0
  have h2 := pow8 h8
  rw [e] at h
  refine ⟨k, ?_, e⟩
  rcases Nat.lt_or_ge k (2 ^ pn a) with q | q
  · exact q
  · exact absurd (nI_le q hk) h
theorem pop_eq {s z : Nat} (hs : s < 256) (hz : z < 1000) (c : nI (popN 16 s) = nI z) : popN 8 s = z := by
  have h := popN_up s 16
  rw [← popN_16 hs]
  exact (nI_eq (by omega) (by omega)).mp c
theorem fewest_step {P : Nat → Bool} {z j : Nat} (hj : j < 256) (h : ∀ s, s < j → popN 8 s = z → P s = false) (c : ¬ nI (popN 16 j) = nI z ∨ P j = false) : ∀ s, s < j + 1 → popN 8 s = z → P s = false := by
  intro s hs hp
  rcases Nat.lt_or_ge s j with q | q
  · exact h s q hp
  · have e : s = j := by omega
    subst e
    rcases c with c | c
    · exact absurd (by rw [popN_16 hj, hp]) c
    · exact c
theorem fewest_out {P : Nat → Bool} {z n j : Nat} (ho : ∀ s, s < n → popN 8 s < z → P s = false) (hi : ∀ s, s < j → popN 8 s = z → P s = false) (hj : n ≤ j) : ∀ s, s < n → popN 8 s < z + 1 → P s = false := by
  intro s hs hp
  rcases Nat.lt_or_ge (popN 8 s) z with q | q
  · exact ho s hs q
  · exact hi s (by omega) (by omega)
theorem fewest_end {P : Nat → Bool} {z k : Nat} (hk : k ≤ 8) (hz : k < z) (ho : ∀ s, s < 2 ^ k → popN 8 s < z → P s = false) : ∀ s, s < 2 ^ k → P s = false := fun s hs => ho s hs (by have := popN_le hk hs; omega)
-- sets
def setN (f : Nat → Bool) : Nat → Nat
  | 0 => 0
  | n + 1 => if f n = true then setN f n ||| 2 ^ n else setN f n
theorem nI_or (a b : Nat) : nI a ||| nI b = nI (a ||| b) := by
  unfold nI
  apply Int32.toBitVec_inj.mp
  rw [Int32.toBitVec_or]
  simp [Int32.toBitVec_ofNat]
theorem setN_lt (f : Nat → Bool) : ∀ n, setN f n < 2 ^ n
  | 0 => Nat.one_pos
  | n + 1 => by
    have ih := setN_lt f n
    have h2 : 2 ^ n < 2 ^ (n + 1) := Nat.pow_lt_pow_right (by decide) (by omega)
    unfold setN
    split
    · exact Nat.or_lt_two_pow (by omega) h2
    · omega
theorem setN_bit (f : Nat → Bool) : ∀ n k, (setN f n).testBit k = (decide (k < n) && f k)
  | 0, k => by simp [setN]
  | n + 1, k => by
    have ih := setN_bit f n k
    unfold setN
    by_cases h : f n = true
    · rw [if_pos h, Nat.testBit_or, ih, Nat.testBit_two_pow]
      by_cases e : n = k
      · subst e; simp [h]
      · by_cases q : k < n
        · simp [q, e, show k < n + 1 by omega]
        · simp [q, e, show ¬ k < n + 1 by omega]
    · rw [if_neg h, ih]
      by_cases e : k = n
      · subst e; simp [h]
      · by_cases q : k < n
        · simp [q, show k < n + 1 by omega]
        · simp [q, show ¬ k < n + 1 by omega]
theorem setTo_N (f : Nat → Bool) : ∀ n, n ≤ 30 → setTo f n = nI (setN f n)
  | 0, _ => rfl
  | n + 1, h => by
    unfold setTo setN
    rw [setTo_N f n (by omega)]
    split
    · rw [shl1 (by omega), nI_or]
    · rfl
theorem pop_setN (f : Nat → Bool) (n : Nat) : ∀ k, k ≤ n → ∃ c, c ≤ k ∧ popN k (setN f n) = c ∧ cntTo 0 f k = nI c
  | 0, _ => ⟨0, Nat.le_refl 0, rfl, rfl⟩
  | k + 1, h => by
    obtain ⟨c, h1, h2, h3⟩ := pop_setN f n k (by omega)
    unfold popN cntTo
    rw [setN_bit f n k, h2, h3]
    by_cases q : f k = true
    · rw [if_pos q, if_pos (by simp [q, show k < n by omega])]
      exact ⟨c + 1, by omega, rfl, nI_1 c⟩
    · rw [if_neg q, if_neg (by simp [q])]
      exact ⟨c, by omega, rfl, rfl⟩
theorem pop_set {f : Nat → Bool} {n : Nat} (h : n ≤ 16) : nI (popN 16 (setN f n)) = cntTo 0 f n := by
  obtain ⟨c, h1, h2, h3⟩ := pop_setN f n n (Nat.le_refl n)
  have e := popN_cut (setN_lt f n) (16 - n)
  rw [show n + (16 - n) = 16 by omega] at e
  rw [e, h2, h3]
theorem thereN (a : x_St) : thereF a = nI (setN (thereB a) 16) := setTo_N _ 16 (by decide)
theorem aboardN {a : x_St} (h : pn a ≤ 8) : aboardF a = nI (setN (fun p => decide (a (24 + 3 * p + 1) = -1)) (pn a)) := setTo_N _ _ (by omega)
theorem setN_64 (f : Nat → Bool) {n : Nat} (h : n ≤ 16) : setN f n < 65536 := Nat.lt_of_lt_of_le (setN_lt f n) (Nat.le_trans (Nat.pow_le_pow_right (by decide) h) (by decide))
theorem nI_ne_m1 {n : Nat} (h : n < 2 ^ 31) : ¬ nI n = -1 := fun e => nI_pos h (by rw [e]; decide)
-- spots
theorem spot_f {a : x_St} (hI : LI a) {j : Nat} (hj : j < 10) (c : isP a (a (48 + j)) = false) : a (48 + j) = -1 := by
  rcases hI.2.2.1 j hj with e | ⟨p, hp, e⟩
  · exact e
  · exfalso
    have h8 := hI.1.1
    have : isP a (a (48 + j)) = true := decide_eq_true ⟨by rw [e]; exact nI_pos' (by omega), by rw [e, hI.1.2.1]; exact nI_lt hp (by omega)⟩
    rw [this] at c
    cases c
-- kinds
def upK (k : Int32) : Nat → Int32
  | 0 => k
  | i + 1 => x_above.getD (upK k i).toNatClampNeg 0
theorem under_ok : ∀ k, k < 7 → ∀ t, t < 7 → underB (nI k) (nI t) = anyTo (fun i => decide (upK (nI k) i = nI t) && decide (i = 0 ∨ inR (upK (nI k) (i - 1)) 0 6 = true)) 5 := by decide +kernel
theorem upK_in : ∀ k, k < 7 → ∀ i, i < 8 → upK (nI k) i = -1 ∨ ∃ j, j < 7 ∧ upK (nI k) i = nI j := by decide +kernel
theorem under_f : ∀ k, k < 7 → ∀ t, t < 7 → ∀ i, i < 8 → inR (upK (nI k) i) 0 6 = false → (∀ j, j < i → decide (upK (nI k) j = nI t) = false) → underB (nI k) (nI t) = false := by decide +kernel
theorem under_t : ∀ k, k < 7 → ∀ t, t < 7 → ∀ i, i < 8 → (∀ j, j < i → inR (upK (nI k) j) 0 6 = true) → upK (nI k) i = nI t → underB (nI k) (nI t) = true := by decide +kernel
theorem under_7 : ∀ k, k < 7 → ¬ ∀ j, j < 7 → inR (upK (nI k) j) 0 6 = true := by decide +kernel
-- gold
theorem drawV_nat (a : x_St) : ∃ d, d < 2 ^ 24 ∧ drawV a = nI d := by
  have h : (zF a).toBitVec.toNat < 2 ^ 32 := (zF a).toBitVec.isLt
  refine ⟨(zF a).toBitVec.toNat / 2 ^ 8, by omega, ?_⟩
  unfold drawV
  have e := pk_ushr (zF a) 8 8 (by decide)
  apply Int32.toBitVec_inj.mp
  apply BitVec.eq_of_toNat_eq
  rw [e, pk_tn (by omega)]
def dr (a : x_St) : Nat := (drawV a).toNatClampNeg % 16
theorem dr_lt (a : x_St) : dr a < 16 := Nat.mod_lt _ (by decide)
theorem rem16 (a : x_St) : drawV a - drawV a / 16 * 16 = nI (dr a) := by
  obtain ⟨d, hd, e⟩ := drawV_nat a
  unfold dr
  rw [e, nI_clamp (by omega)]
  exact pk_rem (d := 16) (by omega) (by decide) (by decide)
theorem goldF_s (a : x_St) (i : Nat) : goldF a (i + 1) = hourF (upd (upd (goldF a i) 6 (zF (goldF a i))) (8 + dr (goldF a i)) (maxI 0 (goldF a i (8 + dr (goldF a i)) - 10))) := rfl
theorem WF.gold {a : x_St} (h : WF a) : ∀ n, WF (goldF a n)
  | 0 => h
  | n + 1 => by
    rw [goldF_s]
    have := dr_lt (goldF a n)
    exact (((WF.gold h n).upN (Or.inr (Or.inl rfl)) _).upN (Or.inr (Or.inr (Or.inl (by omega)))) _).hour
theorem gold_clock {a : x_St} {h0 n : Nat} (e : a 0 = nI h0) (h : h0 + n ≤ 99999) : ∀ i, i ≤ n → goldF a i 0 = nI (h0 + i)
  | 0, _ => e
  | i + 1, hi => by
    rw [goldF_s, hourF_0, upd_n _ _ (by omega), upd_n _ _ (by omega), gold_clock e h i (by omega), nI_1]
    rfl
theorem gold_min {a : x_St} {h0 n : Nat} (e : a 0 = nI h0) (h : h0 + n ≤ 99999) {i : Nat} (hi : i < n) : minI (goldF a i 0 + 1) 99999 = goldF a (i + 1) 0 := by
  rw [gold_clock e h i (by omega), gold_clock e h (i + 1) (by omega), nI_1]
  refine i32_of ?_ (by omega)
  rw [minI_T, nI_T (by omega), if_neg]
  · rfl
  · show ¬ ((99999 : Int32).toInt < _)
    rw [show (99999 : Int32).toInt = 99999 by decide]
    omega
theorem hour_le {a : x_St} {h0 n : Nat} (e : a 0 = nI h0) (hh : h0 < 100000) (hn : n ≤ 60) (c : a 0 + nI n ≤ 99999) : h0 + n ≤ 99999 := by
  rw [e, nI_add] at c
  exact (nI_leI (b := 99999) (by omega) (by decide)).mp c
-- without all none is there
theorem restF_full {a : x_St} (h8 : pn a ≤ 8) (k : Nat) : restF a (2 ^ pn a - 1) k = 0 := by
  have : ∀ m, m ≤ pn a → sumTo (fun p => if (2 ^ pn a - 1).testBit p = true then 0 else bringsF a p (nI k)) m = 0 := by
    intro m
    induction m with
    | zero => intro _; rfl
    | succ m ih =>
      intro hm
      unfold sumTo
      rw [ih (by omega), if_pos (by rw [Nat.testBit_two_pow_sub_one]; simp; omega)]
      rfl
  exact this _ (Nat.le_refl _)
theorem endsB_full {a : x_St} (h8 : pn a ≤ 8) : endsB a (2 ^ pn a - 1) = true := by
  unfold endsB
  rw [anyTo_f]
  · rfl
  · intro k hk
    rw [restF_full h8]
    by_cases c : (0 : Int32) < a (8 + k)
    · rw [decide_eq_false (Int32.not_le.mpr c)]; simp
    · rw [decide_eq_false c]; simp
-- notes of what is brought
theorem note_up {a : x_St} {k p : Nat} {μ μ' : x_Mem} (hB : ∀ k1 p1, k1 < k → p1 < pn a → μ 31 (k1 * 8 + p1) = bringsF a p1 (nI k1)) (hC : ∀ p1, p1 < p → μ 31 (k * 8 + p1) = bringsF a p1 (nI k)) (h8 : pn a ≤ 8 ∧ p < pn a) (e : μ' = upd2 μ 31 (k * 8 + p) (bringsF a p (nI k))) :
    (∀ k1 p1, k1 < k → p1 < pn a → μ' 31 (k1 * 8 + p1) = bringsF a p1 (nI k1)) ∧ ∀ p1, p1 < p + 1 → μ' 31 (k * 8 + p1) = bringsF a p1 (nI k) := by
  subst e
  refine ⟨fun k1 p1 h1 h2 => ?_, fun p1 h1 => ?_⟩
  · rw [upd2_at, upd_n _ _ (by omega)]; exact hB k1 p1 h1 h2
  · rw [upd2_at]
    by_cases q : p1 = p
    · subst q; rw [upd_s]
    · rw [upd_n _ _ (by omega)]; exact hC p1 (by omega)
theorem note_row {a : x_St} {k p : Nat} {μ : x_Mem} (hB : ∀ k1 p1, k1 < k → p1 < pn a → μ 31 (k1 * 8 + p1) = bringsF a p1 (nI k1)) (hC : ∀ p1, p1 < p → μ 31 (k * 8 + p1) = bringsF a p1 (nI k)) (hp : pn a ≤ p) : ∀ k1 p1, k1 < k + 1 → p1 < pn a → μ 31 (k1 * 8 + p1) = bringsF a p1 (nI k1) := by
  intro k1 p1 h1 h2
  by_cases q : k1 = k
  · subst q; exact hC p1 (by omega)
  · exact hB k1 p1 (by omega) h2
-- status
theorem status_all (g : x_SG) : F_status g (-1) = (sumTo (gF g) 7, g) := by
  unfold F_status
  rw [if_pos (by decide)]
  have e : (fun k => if ((-1 : Int32) < 0 ∨ (-1 : Int32) = nI k) then gF g k else 0) = gF g := by
    funext k
    rw [if_pos (Or.inl (by decide))]
  rw [e]
theorem status_one (g : x_SG) {i : Nat} (h : i < 7) : F_status g (nI i) = (gF g i, g) := by
  unfold F_status
  have h0 : inR (nI i) (-1) 6 = true := decide_eq_true ⟨by rw [Int32.le_iff_toInt_le, nI_T (by omega)]; rw [show (-1 : Int32).toInt = -1 by decide]; omega, nI_le (a := i) (b := 6) (by omega) (by decide)⟩
  rw [if_pos h0]
  have e : ∀ k, k < 7 → ((nI i < 0 ∨ nI i = nI k) ↔ k = i) := fun k hk => ⟨fun z => z.elim (fun z => absurd z (nI_pos (by omega))) (fun z => ((nI_eq (by omega) (by omega)).mp z).symm), fun z => Or.inr (by rw [z])⟩
  have e2 : ∀ n, n ≤ 7 → sumTo (fun k => if (nI i < 0 ∨ nI i = nI k) then gF g k else 0) n = if i < n then gF g i else 0 := by
    intro n
    induction n with
    | zero => intro _; rfl
    | succ n ih =>
      intro hn
      unfold sumTo
      rw [ih (by omega)]
      by_cases q : n = i
      · subst q
        rw [if_neg (by omega), if_pos ((e n (by omega)).mpr rfl), if_pos (by omega)]
        simp
      · rw [if_neg (fun z => q ((e n (by omega)).mp z))]
        by_cases q2 : i < n
        · rw [if_pos q2, if_pos (by omega)]; simp
        · rw [if_neg q2, if_neg (by omega)]; simp
  rw [e2 7 (by decide), if_pos h]
theorem status_hi (g : x_SG) {w : Int32} (h : 7 ≤ w) : F_status g w = fin g 0 := by
  unfold F_status
  rw [if_neg]
  intro z
  obtain ⟨h1, h2⟩ := of_decide_eq_true z
  rw [Int32.le_iff_toInt_le] at h h2
  rw [show (7 : Int32).toInt = 7 by decide] at h
  rw [show (6 : Int32).toInt = 6 by decide] at h2
  omega
theorem status_lo (g : x_SG) {w : Int32} (h1 : ¬ w = -1) (h2 : w < 0) : F_status g w = fin g 0 := by
  unfold F_status
  rw [if_neg]
  intro z
  obtain ⟨h3, h4⟩ := of_decide_eq_true z
  rw [Int32.le_iff_toInt_le, show (-1 : Int32).toInt = -1 by decide] at h3
  rw [Int32.lt_iff_toInt_lt, show (0 : Int32).toInt = 0 by decide] at h2
  exact h1 (Int32.toInt_inj.mp (by rw [show (-1 : Int32).toInt = -1 by decide]; omega))
