/-! PURE 2: rows for the walks of an hour and of what is copied -/
theorem rideF_stay {a : x_St} {t : Nat} (ht : a 1 = nI t) (c : 16 ≤ nI t) : rideF a = a := by
  unfold rideF
  rw [ht, if_neg (Int32.not_lt.mpr c)]
theorem rideF_fall {a : x_St} {t : Nat} (ht : a 1 = nI t) (h17 : t < 17) (c : ¬ 16 ≤ nI t) (c2 : sumF a (nI t) < a (8 + t)) : rideF a = moveTo (upd a 5 (minI (a 5 + 1) 99999)) (-a 4) (pn a) := by
  unfold rideF
  have e : thereB a (a 1).toNatClampNeg = false := by
    rw [ht, nI_clamp (by omega), thereB]
    exact decide_eq_false (Int32.not_le.mpr c2)
  rw [if_pos (by rw [ht]; exact Int32.not_le.mp c), e]
  rfl
theorem rideF_go {a : x_St} {t : Nat} (ht : a 1 = nI t) (h17 : t < 17) (c : ¬ 16 ≤ nI t) (c2 : ¬ sumF a (nI t) < a (8 + t)) : rideF a = moveTo (upd a 1 (nI t + 1)) (a 3) (pn a) := by
  unfold rideF
  have e : thereB a (a 1).toNatClampNeg = true := by
    rw [ht, nI_clamp (by omega), thereB]
    exact decide_eq_true (Int32.not_lt.mp c2)
  rw [if_pos (by rw [ht]; exact Int32.not_le.mp c), e, if_pos rfl, ht]
theorem WF.up1s {a : x_St} (h : WF a) {t : Nat} (ht : t < 16) : WF (upd a 1 (nI t + 1)) := by rw [nI_1]; exact h.up1 (by omega)
theorem WF.up5s {a : x_St} (h : WF a) : WF (upd a 5 (minI (a 5 + 1) 99999)) := by
  obtain ⟨f, hf, e⟩ := fall_in h
  rw [e]; exact h.up5 hf
theorem hourF_n {a : x_St} {j : Nat} (h : j ≠ 0) : hourF a j = swayF (rideF a) j := upd_n _ _ h
theorem hourF_0 (a : x_St) : hourF a 0 = a 0 + 1 := upd_s _ _ _
theorem movedB_1 {a : x_St} {t : Nat} (ht : a 1 = nI t) (c : ¬ swayF (rideF a) 1 = nI t) : movedB a = true := by
  unfold movedB
  rw [hourF_n (by decide), ht, decide_eq_true c]
  rfl
theorem movedB_2 {a : x_St} {t : Nat} (hI : WF a) (ht : a 1 = nI t) (c : swayF (rideF a) 1 = nI t) : movedB a = anyTo (fun p => decide (¬ swayF (rideF a) (24 + 3 * p + 2) = a (24 + 3 * p + 2))) (pn (swayF (rideF a))) := by
  unfold movedB
  have e : pn (swayF (rideF a)) = pn a := by unfold swayF; rw [sameB_pn (swayTo_same _ _ hI.ride.1.1), hI.ride.2]
  rw [hourF_n (by decide), ht, e, c]
  simp only [not_true, decide_false, Bool.false_or]
  congr 1
theorem sway_z {a : x_St} {o i : Nat} {μ μ1 μ2 : x_Mem} (h : ∀ q, q < i → μ (o + 7) (plc a q) = 0 ∧ μ (o + 8) (plc a q) = 0) (e1 : μ1 = upd2 μ (o + 7) (plc a i) 0) (e2 : μ2 = upd2 μ1 (o + 8) (plc a i) 0) : ∀ q, q < i + 1 → μ2 (o + 7) (plc a q) = 0 ∧ μ2 (o + 8) (plc a q) = 0 := by
  intro q hq
  subst e1 e2
  rw [upd2_ne _ _ _ (by omega), upd2_at, upd2_at, upd2_ne _ _ _ (by omega)]
  by_cases e : plc a q = plc a i
  · rw [e, upd_s, upd_s]; exact ⟨rfl, rfl⟩
  · rw [upd_n _ _ e, upd_n _ _ e]
    exact h q (by rcases Nat.lt_or_ge q i with z | z
                  · exact z
                  · exact absurd (by rw [show q = i by omega]) e)
theorem sway_s {a : x_St} (hI : WF a) {o i : Nat} (hi : i < pn a) {μ μ1 μ2 : x_Mem} (h : ∀ q, q < pn a → μ (o + 7) (plc a q) = sumTo (fun r => if withB a q r = true then a (24 + 3 * r + 2) else 0) i ∧ μ (o + 8) (plc a q) = cntTo 0 (withB a q) i)
    (e1 : μ1 = upd2 μ (o + 7) (plc a i) (μ (o + 7) (plc a i) + a (24 + 3 * i + 2))) (e2 : μ2 = upd2 μ1 (o + 8) (plc a i) (μ1 (o + 8) (plc a i) + 1)) :
    ∀ q, q < pn a → μ2 (o + 7) (plc a q) = sumTo (fun r => if withB a q r = true then a (24 + 3 * r + 2) else 0) (i + 1) ∧ μ2 (o + 8) (plc a q) = cntTo 0 (withB a q) (i + 1) := by
  intro q hq
  have h8 := hI.1
  subst e1 e2
  have hw : withB a q i = decide (plc a i = plc a q) := by
    unfold withB
    rw [decide_eq_decide]
    exact (plc_iff hI (by omega) (by omega)).symm
  rw [upd2_ne _ _ _ (by omega), upd2_at, upd2_at, upd2_ne _ _ _ (by omega)]
  unfold sumTo cntTo
  by_cases e : plc a q = plc a i
  · rw [e, upd_s, upd_s]
    have hw1 : withB a q i = true := by rw [hw, e]; simp
    rw [if_pos hw1, if_pos hw1]
    obtain ⟨h1, h2⟩ := h q hq
    rw [e] at h1 h2
    rw [h1, h2]
    exact ⟨rfl, rfl⟩
  · rw [upd_n _ _ e, upd_n _ _ e]
    have hw1 : ¬ withB a q i = true := by rw [hw]; simp only [decide_eq_true_eq]; exact fun z => e z.symm
    rw [if_neg hw1, if_neg hw1]
    obtain ⟨h1, h2⟩ := h q hq
    exact ⟨by rw [h1]; simp, h2⟩
theorem sway_0 {a : x_St} {o : Nat} {μ : x_Mem} {i : Nat} (hi : pn a ≤ i) (h : ∀ q, q < i → μ (o + 7) (plc a q) = 0 ∧ μ (o + 8) (plc a q) = 0) : ∀ q, q < pn a → μ (o + 7) (plc a q) = sumTo (fun r => if withB a q r = true then a (24 + 3 * r + 2) else 0) 0 ∧ μ (o + 8) (plc a q) = cntTo 0 (withB a q) 0 := fun q hq => h q (by omega)
theorem numWith_nle {a : x_St} (hI : WF a) {p : Nat} (hp : p < pn a) : ¬ numWith a p ≤ 0 := by
  obtain ⟨c, h0, h8, e⟩ := numWith_pos hp hI.1
  rw [e]; exact nI_nle h0 (by omega)
theorem numWith_ne {a : x_St} (hI : WF a) {p : Nat} (hp : p < pn a) : ¬ numWith a p = 0 := by
  obtain ⟨c, h0, h8, e⟩ := numWith_pos hp hI.1
  rw [e]; exact nI_ne0 h0 (by omega)
theorem swayTo_up {a : x_St} {i : Nat} (c : ¬ sumWith a i / numWith a i ≤ a (24 + 3 * i + 2)) : swayTo a (i + 1) = upd (swayTo a i) (24 + 3 * i + 2) (a (24 + 3 * i + 2) + 1) := by
  rw [swayTo, swayV, meanF, if_pos (Int32.not_le.mp c)]
theorem swayTo_dn {a : x_St} {i : Nat} (c : sumWith a i / numWith a i ≤ a (24 + 3 * i + 2)) (c2 : ¬ a (24 + 3 * i + 2) ≤ sumWith a i / numWith a i) : swayTo a (i + 1) = upd (swayTo a i) (24 + 3 * i + 2) (a (24 + 3 * i + 2) - 1) := by
  rw [swayTo, swayV, meanF, if_neg (Int32.not_lt.mpr c), if_pos (Int32.not_le.mp c2)]
theorem upd_same (f : x_St) (k : Nat) : upd f k (f k) = f := by
  funext j
  by_cases h : j = k
  · subst h; rw [upd_s]
  · rw [upd_n _ _ h]
theorem swayTo_eq {a : x_St} {i : Nat} (c : sumWith a i / numWith a i ≤ a (24 + 3 * i + 2)) (c2 : a (24 + 3 * i + 2) ≤ sumWith a i / numWith a i) : swayTo a (i + 1) = swayTo a i := by
  rw [swayTo, swayV, meanF, if_neg (Int32.not_lt.mpr c), if_neg (Int32.not_lt.mpr c2)]
  have := upd_same (swayTo a i) (24 + 3 * i + 2)
  rwa [swayTo_hi a i i (Nat.le_refl i)] at this
theorem moveTo_t {a : x_St} {b : Int32} {i : Nat} (c : a (24 + 3 * i + 1) = -1) : moveTo a b (i + 1) = upd (moveTo a b i) (24 + 3 * i + 2) (maxI 0 (minI 99 (a (24 + 3 * i + 2) + b))) := by
  rw [moveTo, if_pos c]; rfl
theorem moveTo_f {a : x_St} {b : Int32} {i : Nat} (c : ¬ a (24 + 3 * i + 1) = -1) : moveTo a b (i + 1) = moveTo a b i := by
  rw [moveTo, if_neg c]
theorem rideTo_same (a : x_St) (f : Nat → Bool) : ∀ n, ∀ j, (j < 24 ∨ 48 ≤ j ∨ j % 3 ≠ 1) → n ≤ 8 → rideTo a f n j = a j
  | 0, _, _, _ => rfl
  | n + 1, j, h, h8 => by
    unfold rideTo
    rw [upd_n _ _ (by omega)]
    exact rideTo_same a f n j h (by omega)
theorem bit_u : ∀ n, n < 32 → (((nI n).toUInt32 &&& Int32.toUInt32 31).toBitVec % 32).toNat = n := by decide +kernel
theorem bit_s : ∀ n, n < 32 → ((nI n &&& 31).toBitVec.smod 32).toNat = n := by decide +kernel
theorem bit_and1 {n : Nat} (h : n < 2 ^ 32) : nI n &&& 1 = nI (n % 2) := pk_andN h (m := 1) 1 (by decide)
theorem testBit_dm (n p : Nat) : n.testBit p = decide (n / 2 ^ p % 2 = 1) := Nat.testBit_eq_decide_div_mod_eq
theorem hasN {n p : Nat} (hn : n < 65536) (hp : p < 32) : (((nI n).toUInt32 >>> ((nI p).toUInt32 &&& Int32.toUInt32 31)).toInt32 &&& 1) = 1 ↔ n.testBit p = true := by
  have hlt : n / 2 ^ p ≤ n := Nat.div_le_self n (2 ^ p)
  rw [pk_ushrN (by omega) (nI p) p (bit_u p hp), bit_and1 (by omega), testBit_dm, decide_eq_true_eq]
  exact nI_eq (a := n / 2 ^ p % 2) (b := 1) (by omega) (by decide)
theorem hasS {n p : Nat} (hn : n < 65536) (hp : p < 32) : (nI n >>> (nI p &&& 31) &&& 1) = 1 ↔ n.testBit p = true := by
  have hlt : n / 2 ^ p ≤ n := Nat.div_le_self n (2 ^ p)
  rw [pk_shrN (by omega) (nI p &&& 31) p (bit_s p hp), bit_and1 (by omega), testBit_dm, decide_eq_true_eq]
  exact nI_eq (a := n / 2 ^ p % 2) (b := 1) (by omega) (by decide)
/-- one more of the people -/
def comeF (a : x_St) (k w b : Int32) : x_St := upd (upd (upd (upd a (24 + 3 * pn a) k) (24 + 3 * pn a + 1) w) (24 + 3 * pn a + 2) b) 7 (nI (pn a) + 1)
def zF (a : x_St) : Int32 := a 6 * 1103515245 + 12345
def drawV (a : x_St) : Int32 := ((zF a).toUInt32 >>> ((8 : Int32).toUInt32 &&& Int32.toUInt32 31)).toInt32
def spotsF (a : x_St) : Int32 := cntTo 0 (fun j => decide (¬ a (48 + j) = -1)) 10
theorem PR.mk5 {a : x_St} {o : Nat} {μ : x_Mem} (h1 : ∀ j, j < 16 → μ (o + 1) j = a (8 + j)) (h2 : ∀ p, p < 8 → μ (o + 2) p = a (24 + 3 * p)) (h3 : ∀ p, p < 8 → μ (o + 3) p = a (24 + 3 * p + 1)) (h4 : ∀ p, p < 8 → μ (o + 4) p = a (24 + 3 * p + 2)) (h5 : ∀ j, j < 10 → μ (o + 5) j = a (48 + j))
    (g5 : μ o 5 = a 7) (g6 : μ o 6 = a 1) (g7 : μ o 7 = a 2) (g8 : μ o 8 = a 3) (g9 : μ o 9 = a 4) (g10 : μ o 10 = a 5) (g12 : μ o 12 = a 6) : PR a o μ := ⟨h1, h2, h3, h4, h5, g5, g6, g7, g8, g9, g10, g12⟩
theorem anyTo_t {f : Nat → Bool} {p : Nat} : ∀ {n}, p < n → f p = true → anyTo f n = true
  | 0, h, _ => by omega
  | n + 1, h, e => by
    unfold anyTo
    by_cases q : p = n
    · subst q; rw [e]; simp
    · rw [anyTo_t (p := p) (by omega) e]; rfl
theorem anyTo_f {f : Nat → Bool} : ∀ {n}, (∀ p, p < n → f p = false) → anyTo f n = false
  | 0, _ => rfl
  | n + 1, h => by
    unfold anyTo
    rw [anyTo_f (fun p hp => h p (by omega)), h n (by omega)]
    rfl
/-- a clock that stops at 99999 -/
def clockF (h : Int32) : Nat → Int32
  | 0 => h
  | n + 1 => minI (clockF h n + 1) 99999
theorem last_hour {a : x_St} (h : 16 ≤ a 1) (hI : WF a) : hourF a 1 = a 1 := by
  rw [hourF_n (by decide)]
  have e : rideF a = a := by unfold rideF; rw [if_neg (Int32.not_lt.mpr h)]
  rw [e]
  exact swayTo_same a _ hI.1 1 (by omega)
theorem last_hours {a : x_St} (h : 16 ≤ a 1) (hI : WF a) : ∀ n, hoursF a n 1 = a 1
  | 0 => rfl
  | n + 1 => by
    have ih := last_hours h hI n
    show hourF (hoursF a n) 1 = a 1
    rw [last_hour (by rw [ih]; exact h) (hI.hours n), ih]
theorem hoursF_add (a : x_St) (i : Nat) : ∀ n, hoursF a (i + n) = hoursF (hoursF a i) n
  | 0 => rfl
  | n + 1 => by
    show hourF (hoursF a (i + n)) = hourF (hoursF (hoursF a i) n)
    rw [hoursF_add a i n]
theorem last_yard {a : x_St} (hI : WF a) {i n : Nat} (c : 16 ≤ hoursF a i 1) (hi : i ≤ n) : hoursF a i 1 = hoursF a n 1 := by
  have e : n = i + (n - i) := by omega
  rw [e, hoursF_add, last_hours c (hI.hours i)]
theorem pn_sr {a : x_St} (hI : WF a) : pn (swayF (rideF a)) = pn a := by unfold swayF; rw [sameB_pn (swayTo_same _ _ hI.ride.1.1), hI.ride.2]
