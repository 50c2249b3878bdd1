/-! PURE 3: single numbers changed keep the bounds; firsts, bests, fewest; sets as bits -/
theorem WF.upG {a : x_St} (h : WF a) {j : Nat} {x : Int32} (h7 : j ≠ 7) (hk : ∀ p, p < 8 → j = 24 + 3 * p → ∃ k, k < 7 ∧ x = nI k) (hw : ∀ p, p < 8 → j = 24 + 3 * p + 1 → x = -1 ∨ ∃ w, w < 17 ∧ x = nI w) (hb : ∀ p, p < 8 → j = 24 + 3 * p + 2 → ∃ b, b < 100 ∧ x = nI b)
    (h1 : j = 1 → ∃ t, t < 17 ∧ x = nI t) (h2 : j = 2 → x = 0 ∨ x = 1) (h3 : j = 3 → ∃ t, t < 21 ∧ x = nI t) (h4 : j = 4 → ∃ t, t < 21 ∧ x = nI t) (h5 : j = 5 → ∃ t, t < 100000 ∧ x = nI t) : WF (upd a j x) := by
  obtain ⟨g1, g2, g3, g4, g5, g6, g7, g8, g9, g10⟩ := h
  have e : pn (upd a j x) = pn a := by unfold pn; rw [upd_n _ _ (fun q => h7 q.symm)]
  refine ⟨by rw [e]; exact g1, by rw [upd_n _ _ (fun q => h7 q.symm), e]; exact g2, fun p hp => ?_, fun p hp => ?_, fun p hp => ?_, ?_, ?_, ?_, ?_, ?_⟩
  · by_cases q : 24 + 3 * p = j
    · rw [q, upd_s]; exact hk p hp q.symm
    · rw [upd_n _ _ q]; exact g3 p hp
  · by_cases q : 24 + 3 * p + 1 = j
    · rw [q, upd_s]; exact hw p hp q.symm
    · rw [upd_n _ _ q]; exact g4 p hp
  · by_cases q : 24 + 3 * p + 2 = j
    · rw [q, upd_s]; exact hb p hp q.symm
    · rw [upd_n _ _ q]; exact g5 p hp
  · by_cases q : 1 = j
    · rw [q, upd_s]; exact h1 q.symm
    · rw [upd_n _ _ q]; exact g6
  · by_cases q : 2 = j
    · rw [q, upd_s]; exact h2 q.symm
    · rw [upd_n _ _ q]; exact g7
  · by_cases q : 3 = j
    · rw [q, upd_s]; exact h3 q.symm
    · rw [upd_n _ _ q]; exact g8
  · by_cases q : 4 = j
    · rw [q, upd_s]; exact h4 q.symm
    · rw [upd_n _ _ q]; exact g9
  · by_cases q : 5 = j
    · rw [q, upd_s]; exact h5 q.symm
    · rw [upd_n _ _ q]; exact g10
theorem WF.upK {a : x_St} (h : WF a) {p k : Nat} (hp : p < 8) (hk : k < 7) : WF (upd a (24 + 3 * p) (nI k)) := h.upG (by omega) (fun _ _ _ => ⟨k, hk, rfl⟩) (fun _ _ _ => by omega) (fun _ _ _ => by omega) (fun _ => by omega) (fun _ => by omega) (fun _ => by omega) (fun _ => by omega) (fun _ => by omega)
theorem WF.upW {a : x_St} (h : WF a) {p : Nat} (hp : p < 8) {x : Int32} (hx : x = -1 ∨ ∃ w, w < 17 ∧ x = nI w) : WF (upd a (24 + 3 * p + 1) x) := h.upG (by omega) (fun _ _ _ => by omega) (fun _ _ _ => hx) (fun _ _ _ => by omega) (fun _ => by omega) (fun _ => by omega) (fun _ => by omega) (fun _ => by omega) (fun _ => by omega)
theorem WF.upB {a : x_St} (h : WF a) {p k : Nat} (hp : p < 8) (hk : k < 100) : WF (upd a (24 + 3 * p + 2) (nI k)) := h.upG (by omega) (fun _ _ _ => by omega) (fun _ _ _ => by omega) (fun _ _ _ => ⟨k, hk, rfl⟩) (fun _ => by omega) (fun _ => by omega) (fun _ => by omega) (fun _ => by omega) (fun _ => by omega)
theorem WF.upN {a : x_St} (h : WF a) {j : Nat} (hj : j = 0 ∨ j = 6 ∨ (8 ≤ j ∧ j < 24) ∨ 48 ≤ j) (x : Int32) : WF (upd a j x) := h.upG (by omega) (fun _ _ _ => by omega) (fun _ _ _ => by omega) (fun _ _ _ => by omega) (fun _ => by omega) (fun _ => by omega) (fun _ => by omega) (fun _ => by omega) (fun _ => by omega)
theorem WF.tr {a : x_St} (h : WF a) : a 1 = -1 ∨ ∃ w, w < 17 ∧ a 1 = nI w := Or.inr h.2.2.2.2.2.1
theorem rideTo_S (a : x_St) (f : Nat → Bool) (n : Nat) : rideTo a f (n + 1) = upd (rideTo a f n) (24 + 3 * n + 1) (if f n = true then -1 else a 1) := rfl
theorem WF.rideTo {a : x_St} (h : WF a) (f : Nat → Bool) : ∀ n, n ≤ 8 → WF (rideTo a f n)
  | 0, _ => h
  | n + 1, h8 => by
    have ih := WF.rideTo h f n (by omega)
    rw [rideTo_S]
    refine ih.upW (by omega) ?_
    split
    · exact Or.inl rfl
    · exact h.tr
theorem rideTo_pn (a : x_St) (f : Nat → Bool) {n : Nat} (h : n ≤ 8) : pn (rideTo a f n) = pn a := by unfold pn; rw [rideTo_same a f n 7 (by omega) h]
-- firsts
theorem firstN_gen (f : Nat → Bool) (i : Nat) : ∀ n s, s ≤ i → i < s + n → f i = true → (∀ j, s ≤ j → j < i → f j = false) → firstN f s n = i
  | 0, s, h1, h2, _, _ => by omega
  | n + 1, s, h1, h2, hf, h => by
    unfold firstN
    by_cases q : s = i
    · subst q; rw [if_pos hf]
    · rw [if_neg (by rw [h s (Nat.le_refl s) (by omega)]; decide)]
      exact firstN_gen f i n (s + 1) (by omega) (by omega) hf (fun j h3 h4 => h j (by omega) h4)
theorem firstN_some {f : Nat → Bool} {i n : Nat} (hi : i < n) (hf : f i = true) (h : ∀ j, j < i → f j = false) : firstN f 0 n = i := firstN_gen f i n 0 (Nat.zero_le i) (by omega) hf (fun j _ => h j)
theorem firstN_ngen (f : Nat → Bool) : ∀ n s, (∀ j, s ≤ j → j < s + n → f j = false) → firstN f s n = s + n
  | 0, s, _ => rfl
  | n + 1, s, h => by
    unfold firstN
    rw [if_neg (by rw [h s (Nat.le_refl s) (by omega)]; decide), firstN_ngen f n (s + 1) (fun j h3 h4 => h j (by omega) (by omega))]
    omega
theorem firstN_none {f : Nat → Bool} {n : Nat} (h : ∀ j, j < n → f j = false) : firstN f 0 n = n := by
  have := firstN_ngen f n 0 (fun j _ h2 => h j (by omega))
  rwa [Nat.zero_add] at this
theorem bestTo_t {f : Nat → Int32} {i : Nat} (c : ¬ f i ≤ (bestTo f i).2) : bestTo f (i + 1) = (nI i, f i) := by
  show (if (bestTo f i).2 < f i then (nI i, f i) else bestTo f i) = _
  rw [if_pos (Int32.not_le.mp c)]
theorem bestTo_f {f : Nat → Int32} {i : Nat} (c : f i ≤ (bestTo f i).2) : bestTo f (i + 1) = bestTo f i := by
  show (if (bestTo f i).2 < f i then (nI i, f i) else bestTo f i) = _
  rw [if_neg (Int32.not_lt.mpr c)]
-- powers and bits
theorem pow8 {n : Nat} (h : n ≤ 8) : 2 ^ n ≤ 256 := Nat.le_trans (Nat.pow_le_pow_right (by decide) h) (by decide)
theorem shl1 {n : Nat} (h : n < 31) : (1 : Int32) <<< (nI n &&& 31) = nI (2 ^ n) := by
  have := pk_shlN (n := 1) (nI n &&& 31) n (bit_s n (by omega)) (by
    have := Nat.pow_lt_pow_right (a := 2) (by decide) h
    omega)
  rw [Nat.one_mul] at this
  exact this
theorem popN_up (s : Nat) : ∀ k, popN k s ≤ k
  | 0 => Nat.le_refl 0
  | k + 1 => by
    have := popN_up s k
    unfold popN
    split <;> omega
theorem popN_cut {s k : Nat} (h : s < 2 ^ k) : ∀ n, popN (k + n) s = popN k s
  | 0 => rfl
  | n + 1 => by
    show popN (k + n) s + _ = _
    rw [popN_cut h n, if_neg]
    · rfl
    · show ¬ s.testBit (k + n) = true
      rw [Nat.testBit_lt_two_pow (Nat.lt_of_lt_of_le h (Nat.pow_le_pow_right (by decide) (Nat.le_add_right k n)))]
      decide
theorem popN_le {s k : Nat} (hk : k ≤ 8) (h : s < 2 ^ k) : popN 8 s ≤ k := by
  have := popN_cut h (8 - k)
  rw [show k + (8 - k) = 8 by omega] at this
  rw [this]
  exact popN_up s k
theorem popN_16 {s : Nat} (h : s < 256) : popN 16 s = popN 8 s := popN_cut (k := 8) h 8
/-- the fewest -/
theorem fewTo_in {f : Nat → Bool} {b : Nat} : ∀ {n}, fewTo f n = some b → b < n ∧ f b = true
  | 0, h => by cases h
  | n + 1, h => by
    unfold fewTo at h
    cases e : fewTo f n with
    | none =>
      rw [e] at h
      dsimp only at h
      split at h
      · next c => cases h; exact ⟨by omega, c⟩
      · cases h
    | some c =>
      rw [e] at h
      dsimp only at h
      obtain ⟨h1, h2⟩ := fewTo_in e
      split at h
      · next q => cases h; exact ⟨by omega, q.2⟩
      · cases h; exact ⟨by omega, h2⟩
theorem fewTo_none {f : Nat → Bool} : ∀ {n}, (∀ s, s < n → f s = false) → fewTo f n = none
  | 0, _ => rfl
  | n + 1, h => by
    unfold fewTo
    rw [fewTo_none (fun s hs => h s (by omega))]
    dsimp only
    rw [if_neg (by rw [h n (by omega)]; decide)]
/-- it is the one of least bits, of several the least -/
theorem fewTo_min {f : Nat → Bool} : ∀ {n}, match fewTo f n with
    | none => ∀ s, s < n → f s = false
    | some b => b < n ∧ f b = true ∧ ∀ s, s < n → f s = true → popN 8 b < popN 8 s ∨ (popN 8 b = popN 8 s ∧ b ≤ s)
  | 0 => by intro s hs; omega
  | n + 1 => by
    have ih := fewTo_min (f := f) (n := n)
    unfold fewTo
    cases e : fewTo f n with
    | none =>
      rw [e] at ih
      dsimp only at ih ⊢
      by_cases c : f n = true
      · rw [if_pos c]
        dsimp only
        refine ⟨by omega, c, fun s hs h => ?_⟩
        by_cases q : s = n
        · subst q; exact Or.inr ⟨rfl, Nat.le_refl s⟩
        · rw [ih s (by omega)] at h; cases h
      · rw [if_neg c]
        dsimp only
        intro s hs
        by_cases q : s = n
        · subst q; exact Bool.eq_false_iff.mpr c
        · exact ih s (by omega)
    | some b =>
      rw [e] at ih
      dsimp only at ih ⊢
      obtain ⟨h1, h2, h3⟩ := ih
      by_cases c : popN 8 n < popN 8 b ∧ f n = true
      · rw [if_pos c]
        dsimp only
        refine ⟨by omega, c.2, fun s hs h => ?_⟩
        by_cases q : s = n
        · subst q; exact Or.inr ⟨rfl, Nat.le_refl s⟩
        · have := h3 s (by omega) h; omega
      · rw [if_neg c]
        dsimp only
        refine ⟨by omega, h2, fun s hs h => ?_⟩
        by_cases q : s = n
        · subst q
          have : ¬ popN 8 s < popN 8 b := fun z => c ⟨z, h⟩
          omega
        · exact h3 s (by omega) h
theorem fewTo_some {f : Nat → Bool} {j n : Nat} (hj : j < n) (hf : f j = true) (h : ∀ s, s < n → popN 8 s < popN 8 j → f s = false) (h2 : ∀ s, s < j → popN 8 s = popN 8 j → f s = false) : fewTo f n = some j := by
  have m := fewTo_min (f := f) (n := n)
  cases e : fewTo f n with
  | none => rw [e] at m; rw [m j hj] at hf; cases hf
  | some b =>
    rw [e] at m
    dsimp only at m
    obtain ⟨h3, h4, h5⟩ := m
    have h6 := h5 j hj hf
    by_cases q : b = j
    · rw [q]
    · exfalso
      rcases h6 with h6 | ⟨h6, h7⟩
      · rw [h b h3 h6] at h4; cases h4
      · rw [h2 b (by omega) h6] at h4; cases h4
def optI (k : Option Nat) : Int32 := match k with
  | some p => nI p
  | none => -1
/-- sums met at a stretch that never is there -/
def farA (a : x_St) (k : Nat) : x_St := upd a (8 + k) 1000000
def metTo (a : x_St) (k : Nat) : Nat → Int32
  | 0 => -1
  | i + 1 => if hoursF (farA a k) i 1 = nI k then maxI (metTo a k i) (sumF (hoursF (farA a k) i) (nI k)) else metTo a k i
/-- one left behind -/
theorem outTo_t {a : x_St} {n p : Nat} {m : Int32} (c : a (24 + 3 * p + 1) = -1) (hm : m = (outTo a n p).2) (c2 : ¬ hoursF (upd a (24 + 3 * p + 1) (a 1)) n 1 ≤ m) : outTo a n (p + 1) = (some p, hoursF (upd a (24 + 3 * p + 1) (a 1)) n 1) := by
  subst hm
  show (if _ then _ else _) = _
  rw [if_pos ⟨c, Int32.not_le.mp c2⟩]
theorem outTo_f {a : x_St} {n p : Nat} {m : Int32} (hm : m = (outTo a n p).2) (c : ¬ a (24 + 3 * p + 1) = -1 ∨ hoursF (upd a (24 + 3 * p + 1) (a 1)) n 1 ≤ m) : outTo a n (p + 1) = outTo a n p := by
  subst hm
  show (if _ then _ else _) = _
  rw [if_neg (fun z => c.elim (fun q => q z.1) (fun q => Int32.not_lt.mpr q z.2))]
theorem optI_neg {k : Option Nat} (hk : ∀ p, k = some p → p < 2 ^ 31) : optI k = -1 ↔ k = none := by
  cases k with
  | none => simp [optI]
  | some p =>
    constructor
    · intro h
      have := nI_pos (hk p rfl)
      exact absurd (by show nI p < 0; rw [show nI p = -1 from h]; decide) this
    · intro h; cases h
theorem outTo_lt {a : x_St} {n : Nat} : ∀ {m p}, (outTo a n m).1 = some p → p < m
  | 0, p, h => by cases h
  | m + 1, p, h => by
    have e : outTo a n (m + 1) = if a (24 + 3 * m + 1) = -1 ∧ (outTo a n m).2 < hoursF (upd a (24 + 3 * m + 1) (a 1)) n 1 then (some m, hoursF (upd a (24 + 3 * m + 1) (a 1)) n 1) else outTo a n m := rfl
    rw [e] at h
    split at h
    · cases h; omega
    · have := outTo_lt h; omega
theorem inR_nat2 {v : Int32} {a n : Nat} (hn : n < 2 ^ 31) (ha : a < 2 ^ 31) (h : inR v (nI a) (nI n) = true) : ∃ k, (a ≤ k ∧ k ≤ n) ∧ v = nI k := by
  obtain ⟨h1, h2⟩ := of_decide_eq_true h
  rw [Int32.le_iff_toInt_le] at h1 h2
  rw [nI_T hn] at h2
  rw [nI_T ha] at h1
  exact ⟨v.toInt.toNat, by omega, i32_of (by omega) (by omega)⟩
theorem clock_le {a : x_St} {h0 n : Nat} (e : a 0 = nI h0) (h : h0 + n ≤ 99999) : ∀ i, i ≤ n → clockF (a 0) i = nI (h0 + i) ∧ hoursF a i 0 = nI (h0 + i)
  | 0, _ => ⟨e, e⟩
  | i + 1, hi => by
    obtain ⟨h1, h2⟩ := clock_le e h i (by omega)
    constructor
    · show minI (clockF (a 0) i + 1) 99999 = _
      rw [h1, nI_1]
      refine i32_of ?_ (by omega)
      rw [minI_T, nI_T (by omega), if_neg]
      · rfl
      · show ¬ ((99999 : Int32).toInt < _)
        rw [show (99999 : Int32).toInt = 99999 by decide]
        omega
    · show hourF (hoursF a i) 0 = _
      rw [hourF_0, h2, nI_1]; rfl
theorem clock_go {a : x_St} (hI : LI a) {n : Nat} (h1 : 1 ≤ n) (hn : n ≤ 60) (c : a 0 + nI n ≤ 99999) : clockF (a 0) n = hoursF a n 0 := by
  obtain ⟨h0, hh, e⟩ := hI.2.2.2
  have hs : h0 + n ≤ 99999 := by
    rw [e, nI_add] at c
    exact (nI_leI (b := 99999) (by omega) (by decide)).mp c
  obtain ⟨h2, h3⟩ := clock_le e hs n (Nat.le_refl n)
  rw [h2, h3]
theorem fallB_f1 {a : x_St} {t : Nat} (ht : a 1 = nI t) (h : 16 ≤ t) (h17 : t < 17) : fallB a = false := by
  unfold fallB
  have e : decide (nI t < (16 : Int32)) = false := decide_eq_false (nI_nlt (a := t) (b := 16) h (by omega))
  rw [ht, e]
  rfl
theorem fallB_f2 {a : x_St} {t : Nat} (ht : a 1 = nI t) (h17 : t < 17) (c : thereB a t = true) : fallB a = false := by
  unfold fallB
  rw [ht, nI_clamp (by omega), c]
  simp
theorem fallB_t {a : x_St} {t : Nat} (ht : a 1 = nI t) (h : t < 16) (c : thereB a t = false) : fallB a = true := by
  unfold fallB
  have e : decide (nI t < (16 : Int32)) = true := decide_eq_true (nI_lt (a := t) (b := 16) h (by decide))
  rw [ht, nI_clamp (by omega), c, e]
  rfl
