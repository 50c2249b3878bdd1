/-! PURE 6: odds -/
def nL (n : Nat) : Int64 := Int64.ofNat n
def oddsP (c : Nat) : Nat × Nat := (c / Nat.gcd c 16, 16 / Nat.gcd c 16)
def powL (p : Int64) : Nat → Int64
  | 0 => 1
  | n + 1 => powL p n * p
def oddsC (g : x_SG) : Nat := popN 16 (setN (thereB (gA g)) 16)
def F_odds (g : x_SG) (n w : Int32) : Int64 × x_SG :=
  if inR n 0 14 = true ∧ inR w 0 1 = true then (powL (if w = 0 then nL (oddsP (oddsC g)).1 else nL (oddsP (oddsC g)).2) n.toNatClampNeg, g) else ((-1000001 : Int32).toInt64, fnd g 0)
theorem odds_d1 : ∀ c, c < 17 → (nI c).toInt64 = nL (c / 2 ^ 0) := by decide +kernel
theorem odds_d2 : ∀ j, j < 5 → (lg_cmp (nL (16 / 2 ^ j)) 1 ≤ 0 ↔ j = 4) := by decide +kernel
theorem odds_d3 : ∀ c, c < 17 → ∀ j, j < 5 → (lg_cmp (nL (c / 2 ^ j) &&& 1) 0 = 0 ↔ c / 2 ^ j % 2 = 0) := by decide +kernel
theorem odds_d4 : ∀ c, c < 17 → ∀ j, j < 5 → nL (c / 2 ^ j) / 2 = nL (c / 2 ^ (j + 1)) := by decide +kernel
theorem odds_d5 : ∀ j, j < 5 → nL (16 / 2 ^ j) / 2 = nL (16 / 2 ^ (j + 1)) := by decide +kernel
theorem odds_end : ∀ c, c < 17 → ∀ j, j < 5 → (∀ i, i < j → c / 2 ^ i % 2 = 0) → (j = 4 ∨ ¬ c / 2 ^ j % 2 = 0) → c / 2 ^ j = (oddsP c).1 ∧ 16 / 2 ^ j = (oddsP c).2 := by decide +kernel
theorem lt_p {P : Nat → Prop} {n : Nat} (h : ∀ j, j < n → P j) (hn : P n) : ∀ j, j < n + 1 → P j := fun j hj => by
  rcases Nat.lt_or_ge j n with q | q
  · exact h j q
  · rw [show j = n by omega]; exact hn
theorem popN_top (s : Nat) : ∀ n, popN n s ≤ n
  | 0 => Nat.le_refl 0
  | n + 1 => by
    have := popN_top s n
    unfold popN
    split <;> omega
