/-! THE REFERENCE: pure rows for its other calls -/
theorem tc0 : (0 : Int32).toNatClampNeg = 0 := rfl
theorem tc1 : (1 : Int32).toNatClampNeg = 1 := rfl
theorem tc2 : (2 : Int32).toNatClampNeg = 2 := rfl
theorem tc3 : (3 : Int32).toNatClampNeg = 3 := rfl
theorem in3l {w : Int32} (h : inR w 0 3 = true) : w = 0 ∨ w = 1 ∨ w = 2 ∨ w = 3 := by
  obtain ⟨k, hk, rfl⟩ := inR_nat (n := 3) (by decide) h
  have h4 : k = 0 ∨ k = 1 ∨ k = 2 ∨ k = 3 := by omega
  rcases h4 with rfl | rfl | rfl | rfl
  · exact Or.inl rfl
  · exact Or.inr (Or.inl rfl)
  · exact Or.inr (Or.inr (Or.inl rfl))
  · exact Or.inr (Or.inr (Or.inr rfl))
theorem in2l {w : Int32} (h : inR w 0 2 = true) : w = 0 ∨ w = 1 ∨ w = 2 := by
  obtain ⟨k, hk, rfl⟩ := inR_nat (n := 2) (by decide) h
  have h4 : k = 0 ∨ k = 1 ∨ k = 2 := by omega
  rcases h4 with rfl | rfl | rfl
  · exact Or.inl rfl
  · exact Or.inr (Or.inl rfl)
  · exact Or.inr (Or.inr rfl)
theorem F_of_r (g : x_SG) (p w : Int32) : F_of g p w = if isP (gA g) p = true ∧ inR w 0 3 = true then (if w = 3 then (faithF (gA g) p.toNatClampNeg, g) else (gA g (24 + 3 * p.toNatClampNeg + w.toNatClampNeg), g)) else fin g 0 := by
  unfold F_of
  by_cases h : isP (gA g) p = true
  · by_cases h2 : inR w 0 3 = true
    · rcases in3l h2 with rfl | rfl | rfl | rfl <;> simp [h, h2, tc0, tc1, tc2, tc3]
    · have n0 : ¬ w = 0 := fun e => h2 (by rw [e]; decide)
      have n1 : ¬ w = 1 := fun e => h2 (by rw [e]; decide)
      have n2 : ¬ w = 2 := fun e => h2 (by rw [e]; decide)
      have n3 : ¬ w = 3 := fun e => h2 (by rw [e]; decide)
      simp [h, h2, n0, n1, n2, n3]
  · simp [h]
def mayF (w v : Int32) : Bool := if w = 0 then inR v 0 6 else if w = 1 then inR v (-1) 16 else inR v 0 99
theorem F_change_r (g : x_SG) (p w v : Int32) : F_change g p w v = if isP (gA g) p = true ∧ inR w 0 2 = true ∧ mayF w v = true then setL g (24 + 3 * p.toNatClampNeg + w.toNatClampNeg) v else fin g 0 := by
  unfold F_change
  by_cases h : isP (gA g) p = true
  · by_cases h2 : inR w 0 2 = true
    · rcases in2l h2 with rfl | rfl | rfl <;> simp [h, h2, mayF, tc0, tc1, tc2]
    · have n0 : ¬ w = 0 := fun e => h2 (by rw [e]; decide)
      have n1 : ¬ w = 1 := fun e => h2 (by rw [e]; decide)
      have n2 : ¬ w = 2 := fun e => h2 (by rw [e]; decide)
      simp [h, h2, n0, n1, n2]
  · simp [h]
def setHi (w : Int32) : Int32 := if w = 0 then 16 else if w = 1 then 1 else 20
theorem F_set_r (g : x_SG) (w v : Int32) : F_set g w v = if inR w 0 3 = true ∧ inR v 0 (setHi w) = true then setL g (1 + w.toNatClampNeg) v else fin g 0 := by
  unfold F_set
  by_cases h2 : inR w 0 3 = true
  · rcases in3l h2 with rfl | rfl | rfl | rfl <;> simp [h2, setHi, tc0, tc1, tc2, tc3]
  · have n0 : ¬ w = 0 := fun e => h2 (by rw [e]; decide)
    have n1 : ¬ w = 1 := fun e => h2 (by rw [e]; decide)
    have n2 : ¬ w = 2 := fun e => h2 (by rw [e]; decide)
    have n3 : ¬ w = 3 := fun e => h2 (by rw [e]; decide)
    simp [h2, n0, n1, n2, n3]
theorem isSet_in {a : x_St} (h8 : pn a ≤ 8) (s : Int32) : inR s 0 (nI (2 ^ pn a) - 1) = isSet a s := by
  have hp := pow8 h8
  have h1 : 1 ≤ 2 ^ pn a := Nat.one_le_two_pow
  unfold inR isSet
  rw [show (1 : Int32) = nI 1 from rfl, pk_sub (by omega)]
  congr 1
  apply propext
  constructor
  · rintro ⟨h1, h2⟩
    refine ⟨h1, ?_⟩
    rw [Int32.lt_iff_toInt_lt, nI_T (by omega)]
    rw [Int32.le_iff_toInt_le, nI_T (by omega)] at h2
    omega
  · rintro ⟨h1, h2⟩
    refine ⟨h1, ?_⟩
    rw [Int32.lt_iff_toInt_lt, nI_T (by omega)] at h2
    rw [Int32.le_iff_toInt_le, nI_T (by omega)]
    omega
theorem isSet_n {a : x_St} {s : Int32} (h8 : pn a ≤ 8) (h : isSet a s = true) : ∃ j, j < 2 ^ pn a ∧ s = nI j := by
  obtain ⟨h1, h2⟩ := of_decide_eq_true h
  exact isSet_nat h8 (Int32.not_lt.mpr h1) (Int32.not_le.mpr h2)
theorem rideTo_t {a : x_St} {f : Nat → Bool} {i : Nat} (c : f i = true) : rideTo a f (i + 1) = upd (rideTo a f i) (24 + 3 * i + 1) (-1) := by rw [rideTo, if_pos c]
theorem rideTo_f {a : x_St} {f : Nat → Bool} {i : Nat} (c : ¬ f i = true) : rideTo a f (i + 1) = upd (rideTo a f i) (24 + 3 * i + 1) (a 1) := by rw [rideTo, if_neg c]
-- the fewest, step by step
theorem few_n1 {f : Nat → Bool} {i : Nat} (h : fewTo f i = none) (c : f i = false) : fewTo f (i + 1) = none := by
  rw [fewTo, h]; dsimp only; rw [if_neg (by rw [c]; decide)]
theorem few_n2 {f : Nat → Bool} {i : Nat} (h : fewTo f i = none) (c : f i = true) : fewTo f (i + 1) = some i := by
  rw [fewTo, h]; dsimp only; rw [if_pos c]
theorem few_s1 {f : Nat → Bool} {i k : Nat} (h : fewTo f i = some k) (c : ¬ (popN 8 i < popN 8 k ∧ f i = true)) : fewTo f (i + 1) = some k := by
  rw [fewTo, h]; dsimp only; rw [if_neg c]
theorem few_s2 {f : Nat → Bool} {i k : Nat} (h : fewTo f i = some k) (c : popN 8 i < popN 8 k) (c2 : f i = true) : fewTo f (i + 1) = some i := by
  rw [fewTo, h]; dsimp only; rw [if_pos ⟨c, c2⟩]
theorem few_neg {f : Nat → Bool} {i : Nat} {b : Int32} (hb : b = optI (fewTo f i)) (hi : i < 1000) (c : b < 0) : fewTo f i = none := by
  cases e : fewTo f i with
  | none => rfl
  | some k =>
    rw [e] at hb
    have := (fewTo_in e).1
    exact absurd (by rw [← show b = nI k from hb]; exact c) (nI_pos (n := k) (by omega))
theorem few_pos {f : Nat → Bool} {i : Nat} {b : Int32} (hb : b = optI (fewTo f i)) (c : ¬ b < 0) : ∃ k, k < i ∧ fewTo f i = some k ∧ b = nI k := by
  cases e : fewTo f i with
  | none => rw [e] at hb; exact absurd (by rw [hb]; decide) c
  | some k => rw [e] at hb; exact ⟨k, (fewTo_in e).1, rfl, hb⟩
theorem pop_lt {i k : Nat} (hi : i < 256) (hk : k < 256) (c : ¬ nI (popN 16 k) ≤ nI (popN 16 i)) : popN 8 i < popN 8 k := by
  have h1 := popN_up i 16
  have h2 := popN_up k 16
  rw [← popN_16 hi, ← popN_16 hk]
  exact Nat.not_le.mp (fun z => c (nI_le z (by omega)))
theorem pop_ge {i k : Nat} (hi : i < 256) (hk : k < 256) (c : nI (popN 16 k) ≤ nI (popN 16 i)) : ¬ popN 8 i < popN 8 k := by
  have h1 := popN_up i 16
  have h2 := popN_up k 16
  rw [← popN_16 hi, ← popN_16 hk]
  exact Nat.not_lt.mpr ((nI_leI (by omega) (by omega)).mp c)
-- the greatest of those below
theorem last_some {f : Nat → Bool} {v : Nat} : ∀ {n}, v < n → f v = true → (∀ w, v < w → w < n → f w = false) → lastTo f n = some v
  | 0, h, _, _ => by omega
  | n + 1, h, hf, ha => by
    unfold lastTo
    by_cases q : v = n
    · subst q; rw [if_pos hf]
    · rw [if_neg (by rw [ha n (by omega) (by omega)]; decide)]
      exact last_some (by omega) hf (fun w h1 h2 => ha w h1 (by omega))
theorem last_none {f : Nat → Bool} : ∀ {n}, (∀ w, w < n → f w = false) → lastTo f n = none
  | 0, _ => rfl
  | n + 1, h => by
    unfold lastTo
    rw [if_neg (by rw [h n (by omega)]; decide)]
    exact last_none (fun w hw => h w (by omega))
theorem dn_up {n k : Nat} (h : k < n) : nI (n - k) - 1 = nI (n - 1 - k) := by
  rw [show n - k = (n - 1 - k) + 1 by omega, ← nI_1]
  exact Int32.add_sub_cancel _ _
theorem orO_lt {k n : Nat} {f : Nat → Bool} (h : lastTo f n = some k) : k < n := by
  have key : ∀ n, lastTo f n = some k → k < n := by
    intro n
    induction n with
    | zero => intro h; cases h
    | succ n ih =>
      intro h
      unfold lastTo at h
      split at h
      · cases h; omega
      · have := ih h; omega
  exact key n h
-- settled
def stB (a : x_St) (i : Nat) : Bool := !(decide (¬ hourF a 1 = a 1) || anyTo (fun p => decide (¬ hourF a (24 + 3 * p + 2) = a (24 + 3 * p + 2))) i)
theorem st_0 {a : x_St} (c : hourF a 1 = a 1) : (1 : Int32) = x_b (stB a 0) := by unfold stB; rw [decide_eq_false (fun z => z c)]; rfl
theorem st_0f {a : x_St} (c : ¬ hourF a 1 = a 1) : (0 : Int32) = x_b (stB a 0) := by unfold stB; rw [decide_eq_true c]; rfl
theorem st_s (a : x_St) (i : Nat) : stB a (i + 1) = (stB a i && decide (hourF a (24 + 3 * i + 2) = a (24 + 3 * i + 2))) := by
  unfold stB
  rw [show anyTo (fun p => decide (¬ hourF a (24 + 3 * p + 2) = a (24 + 3 * p + 2))) (i + 1) = (anyTo (fun p => decide (¬ hourF a (24 + 3 * p + 2) = a (24 + 3 * p + 2))) i || decide (¬ hourF a (24 + 3 * i + 2) = a (24 + 3 * i + 2))) from rfl]
  by_cases q : hourF a (24 + 3 * i + 2) = a (24 + 3 * i + 2)
  · simp [q]
  · simp [q]
theorem st_1 {a : x_St} {i : Nat} {r : Int32} (hr : r = x_b (stB a i)) (c : r = 0) : (0 : Int32) = x_b (stB a (i + 1)) := by
  rw [st_s]
  cases e : stB a i with
  | false => rfl
  | true => rw [e] at hr; exact absurd (hr.symm.trans c) (by decide)
theorem st_2 {a : x_St} {i : Nat} (c : ¬ hourF a (24 + 3 * i + 2) = a (24 + 3 * i + 2)) : (0 : Int32) = x_b (stB a (i + 1)) := by
  rw [st_s, decide_eq_false c, Bool.and_false]; rfl
theorem st_3 {a : x_St} {i : Nat} {r : Int32} (hr : r = x_b (stB a i)) (c0 : ¬ r = 0) (c : hourF a (24 + 3 * i + 2) = a (24 + 3 * i + 2)) : (1 : Int32) = x_b (stB a (i + 1)) := by
  rw [st_s, decide_eq_true c]
  cases e : stB a i with
  | false => rw [e] at hr; exact absurd hr c0
  | true => rfl
theorem st_end (a : x_St) : stB a (pn a) = !movedB a := rfl
-- spots held
theorem spot_neg {a : x_St} (hI : LI a) {j : Nat} (hj : j < 10) : a (48 + j) < 0 ↔ a (48 + j) = -1 := by
  have h8 := hI.1.1
  rcases hI.2.2.1 j hj with e | ⟨p, hp, e⟩
  · rw [e]; exact ⟨fun _ => rfl, fun _ => by decide⟩
  · rw [e]; exact ⟨fun z => absurd z (nI_pos (by omega)), fun z => absurd z (nI_ne_m1 (by omega))⟩
theorem hour_7 {a : x_St} (h : WF a) : hourF a 7 = a 7 := by
  have e := hourF_pn h
  rw [h.hour.2.1, h.2.1, e]
theorem down_s {P : Nat → Bool} {m : Nat} (hm : m < 1000) (h : ∀ w, 1000 - m ≤ w → w < 1000 → P w = false) (c : P (1000 - 1 - m) = false) : ∀ w, 1000 - (m + 1) ≤ w → w < 1000 → P w = false := by
  intro w h1 h2
  rcases Nat.lt_or_ge w (1000 - m) with q | q
  · rw [show w = 1000 - 1 - m by omega]; exact c
  · exact h w q h2
