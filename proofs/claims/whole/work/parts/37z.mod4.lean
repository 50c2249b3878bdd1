/-! THE REFERENCE: pure rows, second part -/
theorem man_1 {a : x_St} {i : Nat} {r : Int32} (hI : LI a) (h1 : 48 ≤ i) (h2 : i < 58) (hr : r = cntTo 0 (fun j => decide (¬ a (48 + j) = -1)) (i - 48)) (c : ¬ a i < 0) : r + 1 = cntTo 0 (fun j => decide (¬ a (48 + j) = -1)) (i + 1 - 48) := by
  obtain ⟨j, rfl⟩ : ∃ j, i = 48 + j := ⟨i - 48, by omega⟩
  rw [show 48 + j - 48 = j by omega] at hr
  rw [show 48 + j + 1 - 48 = j + 1 by omega, cntTo, if_pos (decide_eq_true (show ¬ a (48 + j) = -1 from fun z => c ((spot_neg hI (by omega)).mpr z))), hr]
theorem man_0 {a : x_St} {i : Nat} {r : Int32} (hI : LI a) (h1 : 48 ≤ i) (h2 : i < 58) (hr : r = cntTo 0 (fun j => decide (¬ a (48 + j) = -1)) (i - 48)) (c : a i < 0) : r + 0 = cntTo 0 (fun j => decide (¬ a (48 + j) = -1)) (i + 1 - 48) := by
  obtain ⟨j, rfl⟩ : ∃ j, i = 48 + j := ⟨i - 48, by omega⟩
  rw [show 48 + j - 48 = j by omega] at hr
  rw [show 48 + j + 1 - 48 = j + 1 by omega, cntTo, if_neg (by rw [decide_eq_false (fun z => z ((spot_neg hI (by omega)).mp c))]; decide), hr, Int32.add_zero]
theorem spot_pos {a : x_St} (hI : LI a) {j : Nat} (hj : j < 10) (c : 0 ≤ a (48 + j)) : ∃ q, q < pn a ∧ a (48 + j) = nI q := by
  rcases hI.2.2.1 j hj with e | h
  · rw [e] at c; exact absurd c (by decide)
  · exact h
-- gold keeps needs in their bounds
theorem ride_need {a : x_St} {k : Nat} (hk : k < 16) (h8 : pn a ≤ 8) : rideF a (8 + k) = a (8 + k) := by
  unfold rideF
  split
  · split
    · rw [move_lo _ _ (by omega), upd_n _ _ (by omega)]
    · rw [move_lo _ _ (by omega), upd_n _ _ (by omega)]
  · rfl
theorem hour_need {a : x_St} (hI : WF a) {k : Nat} (hk : k < 16) : hourF a (8 + k) = a (8 + k) := by
  rw [hourF_n (by omega)]
  unfold swayF
  rw [swayTo_same _ _ hI.ride.1.1 _ (by omega), ride_need hk hI.1]
theorem max_need {n : Nat} (hn : n < 1000) : ∃ m, m < 1000 ∧ maxI 0 (nI n - 10) = nI m := by
  refine ⟨n - 10, by omega, i32_of ?_ (by omega)⟩
  have hs : (nI n - 10).toInt = (n : Int) - 10 := i32_sub (nI_T (by omega)) rfl (by omega) (by omega)
  rw [maxI_T, hs, show (0 : Int32).toInt = 0 by decide]
  split <;> omega
theorem held_gold {x : Int32} {n : Nat} (hn : n < 1000) (e : x = nI n) : heldF (x - 10) 0 999 = maxI 0 (x - 10) := by
  have hs : (nI n - 10).toInt = (n : Int) - 10 := i32_sub (nI_T (by omega)) rfl (by omega) (by omega)
  subst e
  unfold heldF maxI
  by_cases c : nI n - 10 < 0
  · rw [if_pos c, if_neg (Int32.not_lt.mpr (Int32.le_of_lt c))]
  · rw [if_neg c, if_neg (by rw [Int32.lt_iff_toInt_lt, hs, show (999 : Int32).toInt = 999 by decide]; omega)]
    by_cases c2 : 0 < nI n - 10
    · rw [if_pos c2]
    · rw [if_neg c2]
      exact Int32.le_antisymm (Int32.not_lt.mp c2) (Int32.not_lt.mp c)
theorem gold_need {a : x_St} (hI : LI a) : ∀ i, ∀ k, k < 16 → ∃ n, n < 1000 ∧ goldF a i (8 + k) = nI n
  | 0, k, hk => hI.2.1 k hk
  | i + 1, k, hk => by
    have hd := dr_lt (goldF a i)
    obtain ⟨n, hn, e⟩ := gold_need hI i k hk
    have hw : WF (upd (upd (goldF a i) 6 (zF (goldF a i))) (8 + dr (goldF a i)) (maxI 0 (goldF a i (8 + dr (goldF a i)) - 10))) := ((WF.gold hI.1 i).upN (Or.inr (Or.inl rfl)) _).upN (Or.inr (Or.inr (Or.inl (by omega)))) _
    rw [goldF_s, hour_need hw hk]
    by_cases q : 8 + k = 8 + dr (goldF a i)
    · rw [← q, upd_s, e]; exact max_need hn
    · rw [upd_n _ _ q, upd_n _ _ (by omega)]; exact ⟨n, hn, e⟩
-- odds
theorem odds_r3 : ∀ c, c < 17 → ∀ j, j < 5 → (lg_cmp (nL (c / 2 ^ j) - nL (c / 2 ^ j) / 2 * 2) 0 = 0 ↔ c / 2 ^ j % 2 = 0) := by decide +kernel
-- what is left without some
def restR (a : x_St) (s k i : Nat) : Int32 := sumF a (nI k) - sumTo (fun p => if s.testBit p = true then bringsF a p (nI k) else 0) i
theorem i32_cut (x y u v : Int32) : (x + u) - (y + v) = (x - y) + (u - v) := by
  simp only [Int32.sub_eq_add_neg, Int32.neg_add]
  rw [Int32.add_assoc, Int32.add_assoc, ← Int32.add_assoc u, Int32.add_comm u (-y), Int32.add_assoc (-y) u]
theorem rest_sum (f : Nat → Int32) (b : Nat → Bool) : ∀ n, sumTo f n - sumTo (fun p => if b p = true then f p else 0) n = sumTo (fun p => if b p = true then 0 else f p) n
  | 0 => by show (0 : Int32) - 0 = 0; rfl
  | n + 1 => by
    show (sumTo f n + f n) - (sumTo (fun p => if b p = true then f p else 0) n + (if b n = true then f n else 0)) = sumTo (fun p => if b p = true then 0 else f p) n + (if b n = true then 0 else f n)
    rw [i32_cut, rest_sum f b n]
    split
    · rw [Int32.sub_self]
    · rw [Int32.sub_zero]
theorem rest_end (a : x_St) (s k : Nat) : restR a s k (pn a) = restF a s k := rest_sum _ _ _
theorem rest_0 (a : x_St) (s k : Nat) : sumF a (nI k) = restR a s k 0 := by
  show _ = sumF a (nI k) - 0
  rw [Int32.sub_zero]
theorem rest_t {a : x_St} {s k i : Nat} {r : Int32} (hr : r = restR a s k i) (c : s.testBit i = true) : r - bringsF a i (nI k) = restR a s k (i + 1) := by
  rw [hr]
  unfold restR
  show _ = sumF a (nI k) - (sumTo _ i + (if s.testBit i = true then bringsF a i (nI k) else 0))
  rw [if_pos c]
  simp only [Int32.sub_eq_add_neg, Int32.neg_add]
  rw [Int32.add_assoc]
theorem rest_f {a : x_St} {s k i : Nat} {r : Int32} (hr : r = restR a s k i) (c : ¬ s.testBit i = true) : r - 0 = restR a s k (i + 1) := by
  rw [hr, Int32.sub_zero]
  unfold restR
  show _ = sumF a (nI k) - (sumTo _ i + (if s.testBit i = true then bringsF a i (nI k) else 0))
  rw [if_neg c, Int32.add_zero]
theorem run_opt (g : x_SG) : F_run g = (optI (fewTo (endsB (gA g)) (2 ^ pn (gA g))), g) := by
  unfold F_run
  cases fewTo (endsB (gA g)) (2 ^ pn (gA g)) <;> rfl
def runE (a : x_St) (j : Nat) : Nat → Bool := fun k => thereB a k && decide (0 < a (8 + k)) && decide (a (8 + k) ≤ restF a j k)
theorem run_1 {a : x_St} {j k : Nat} (c : a (8 + k) ≤ 0) : runE a j k = false := by unfold runE; rw [decide_eq_false (Int32.not_lt.mpr c)]; simp
theorem run_2 {a : x_St} {j k : Nat} (c : sumF a (nI k) < a (8 + k)) : runE a j k = false := by unfold runE thereB; rw [decide_eq_false (Int32.not_le.mpr c)]; simp
theorem run_3 {a : x_St} {j k i : Nat} {r : Int32} (hr : r = restR a j k i) (hi : i = pn a) (c : r < a (8 + k)) : runE a j k = false := by
  subst hi
  rw [hr, rest_end] at c
  unfold runE
  rw [decide_eq_false (Int32.not_le.mpr c)]; simp
theorem run_4 {a : x_St} {j k i : Nat} {r : Int32} (hr : r = restR a j k i) (hi : i = pn a) (hk : k < 16) (c1 : ¬ a (8 + k) ≤ 0) (c2 : ¬ sumF a (nI k) < a (8 + k)) (c : ¬ r < a (8 + k)) : endsB a j = false := by
  subst hi
  rw [hr, rest_end] at c
  unfold endsB
  rw [anyTo_t (f := fun k => thereB a k && decide (0 < a (8 + k)) && decide (a (8 + k) ≤ restF a j k)) (p := k) hk (by
    unfold thereB
    rw [decide_eq_true (Int32.not_lt.mp c2), decide_eq_true (Int32.not_le.mp c1), decide_eq_true (Int32.not_lt.mp c)]; rfl)]
  rfl
theorem run_5 {a : x_St} {j : Nat} (h : ∀ k, k < 16 → runE a j k = false) : endsB a j = true := by
  unfold endsB
  rw [anyTo_f (f := fun k => thereB a k && decide (0 < a (8 + k)) && decide (a (8 + k) ≤ restF a j k)) h]
  rfl
