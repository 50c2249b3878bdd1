/-! PURE 1: hours keep their bounds; who moves what -/
/-- beliefs alone may differ -/
def sameB (a b : x_St) : Prop := ∀ j, (j < 24 ∨ 48 ≤ j ∨ j % 3 ≠ 2) → b j = a j
theorem sameB.rf (a : x_St) : sameB a a := fun _ _ => rfl
theorem sameB.up {a b : x_St} (h : sameB a b) {p : Nat} (hp : p < 8) (x : Int32) : sameB a (upd b (24 + 3 * p + 2) x) := fun j hj => by rw [upd_n _ _ (by omega)]; exact h j hj
theorem sameB_pn {a b : x_St} (h : sameB a b) : pn b = pn a := by unfold pn; rw [h 7 (by omega)]
theorem moveTo_same (a : x_St) (b : Int32) : ∀ n, n ≤ 8 → sameB a (moveTo a b n)
  | 0, _ => sameB.rf a
  | n + 1, h => by
    unfold moveTo
    split
    · exact (moveTo_same a b n (by omega)).up (by omega) _
    · exact moveTo_same a b n (by omega)
theorem moveTo_hi (a : x_St) (b : Int32) (p : Nat) : ∀ n, n ≤ p → moveTo a b n (24 + 3 * p + 2) = a (24 + 3 * p + 2)
  | 0, _ => rfl
  | n + 1, h => by
    unfold moveTo
    split
    · rw [upd_n _ _ (by omega)]; exact moveTo_hi a b p n (by omega)
    · exact moveTo_hi a b p n (by omega)
theorem moveTo_lo (a : x_St) (b : Int32) (p : Nat) : ∀ n, p < n → moveTo a b n (24 + 3 * p + 2) = if a (24 + 3 * p + 1) = -1 then clampF (a (24 + 3 * p + 2) + b) else a (24 + 3 * p + 2)
  | 0, h => by omega
  | n + 1, h => by
    unfold moveTo
    by_cases e : p = n
    · subst e
      split
      · rw [upd_s]
      · exact moveTo_hi a b p p (Nat.le_refl p)
    · split
      · rw [upd_n _ _ (by omega)]; exact moveTo_lo a b p n (by omega)
      · exact moveTo_lo a b p n (by omega)
theorem swayTo_same (a : x_St) : ∀ n, n ≤ 8 → sameB a (swayTo a n)
  | 0, _ => sameB.rf a
  | n + 1, h => by unfold swayTo; exact (swayTo_same a n (by omega)).up (by omega) _
theorem swayTo_hi (a : x_St) (p : Nat) : ∀ n, n ≤ p → swayTo a n (24 + 3 * p + 2) = a (24 + 3 * p + 2)
  | 0, _ => rfl
  | n + 1, h => by unfold swayTo; rw [upd_n _ _ (by omega)]; exact swayTo_hi a p n (by omega)
theorem swayTo_lo (a : x_St) (p : Nat) : ∀ n, p < n → swayTo a n (24 + 3 * p + 2) = swayV a p
  | 0, h => by omega
  | n + 1, h => by
    unfold swayTo
    by_cases e : p = n
    · subst e; rw [upd_s]
    · rw [upd_n _ _ (by omega)]; exact swayTo_lo a p n (by omega)
-- numbers
theorem nI_T {n : Nat} (h : n < 2 ^ 31) : (nI n).toInt = (n : Int) := nI_toInt h
theorem i32_add {x y : Int32} {a b : Int} (hx : x.toInt = a) (hy : y.toInt = b) (h1 : -2147483648 ≤ a + b) (h2 : a + b < 2147483648) : (x + y).toInt = a + b := by
  rw [Int32.toInt_add, hx, hy]
  exact Int.bmod_eq_of_le (by omega) (by omega)
theorem i32_sub {x y : Int32} {a b : Int} (hx : x.toInt = a) (hy : y.toInt = b) (h1 : -2147483648 ≤ a - b) (h2 : a - b < 2147483648) : (x - y).toInt = a - b := by
  rw [Int32.toInt_sub, hx, hy]
  exact Int.bmod_eq_of_le (by omega) (by omega)
theorem i32_mul {x y : Int32} {a b : Int} (hx : x.toInt = a) (hy : y.toInt = b) (h1 : -2147483648 ≤ a * b) (h2 : a * b < 2147483648) : (x * y).toInt = a * b := by
  rw [Int32.toInt_mul, hx, hy]
  exact Int.bmod_eq_of_le (by omega) (by omega)
theorem i32_of {x : Int32} {n : Nat} (h : x.toInt = (n : Int)) (hn : n < 2 ^ 31) : x = nI n := Int32.toInt_inj.mp (by rw [h, nI_T hn])
theorem maxI_T (x y : Int32) : (maxI x y).toInt = if x.toInt < y.toInt then y.toInt else x.toInt := by
  unfold maxI
  by_cases h : x < y
  · rw [if_pos h, if_pos (Int32.lt_iff_toInt_lt.mp h)]
  · rw [if_neg h, if_neg (fun q => h (Int32.lt_iff_toInt_lt.mpr q))]
theorem minI_T (x y : Int32) : (minI x y).toInt = if y.toInt < x.toInt then y.toInt else x.toInt := by
  unfold minI
  by_cases h : y < x
  · rw [if_pos h, if_pos (Int32.lt_iff_toInt_lt.mp h)]
  · rw [if_neg h, if_neg (fun q => h (Int32.lt_iff_toInt_lt.mpr q))]
theorem clampF_in (x : Int32) : ∃ b, b < 100 ∧ clampF x = nI b := by
  have h : (clampF x).toInt = if (0 : Int) < (if x.toInt < 99 then x.toInt else 99) then (if x.toInt < 99 then x.toInt else 99) else 0 := by
    unfold clampF
    rw [maxI_T, minI_T]
    rfl
  refine ⟨(clampF x).toInt.toNat, ?_, i32_of ?_ ?_⟩ <;> (rw [h]; split <;> split <;> omega)
theorem cntTo_nat (f : Nat → Bool) : ∀ n, ∃ c, c ≤ n ∧ cntTo 0 f n = nI c
  | 0 => ⟨0, Nat.le_refl 0, rfl⟩
  | n + 1 => by
    obtain ⟨c, h1, h2⟩ := cntTo_nat f n
    unfold cntTo
    split
    · exact ⟨c + 1, by omega, by rw [h2, nI_1]⟩
    · exact ⟨c, by omega, h2⟩
theorem cntTo_pos (f : Nat → Bool) {p : Nat} (hp : f p = true) : ∀ n, p < n → n ≤ 8 → ∃ c, 0 < c ∧ c ≤ n ∧ cntTo 0 f n = nI c
  | 0, h, _ => by omega
  | n + 1, h, h8 => by
    unfold cntTo
    by_cases e : p = n
    · subst e
      obtain ⟨c, h1, h2⟩ := cntTo_nat f p
      rw [if_pos hp]
      exact ⟨c + 1, by omega, by omega, by rw [h2, nI_1]⟩
    · obtain ⟨c, h0, h1, h2⟩ := cntTo_pos f hp n (by omega) (by omega)
      split
      · exact ⟨c + 1, by omega, by omega, by rw [h2, nI_1]⟩
      · exact ⟨c, h0, by omega, h2⟩
theorem withB_self (a : x_St) (p : Nat) : withB a p p = true := by simp [withB]
theorem numWith_pos {a : x_St} {p : Nat} (hp : p < pn a) (h8 : pn a ≤ 8) : ∃ c, 0 < c ∧ c ≤ 8 ∧ numWith a p = nI c := by
  obtain ⟨c, h0, h1, h2⟩ := cntTo_pos (withB a p) (withB_self a p) (pn a) hp h8
  exact ⟨c, h0, by omega, h2⟩
/-- where one is, as a place from 0 on -/
def plc (a : x_St) (p : Nat) : Nat := (a (24 + 3 * p + 1) + 1).toNatClampNeg
theorem plc_eq {a : x_St} (h : WF a) {p : Nat} (hp : p < 8) : a (24 + 3 * p + 1) + 1 = nI (plc a p) := by
  unfold plc
  rcases h.2.2.2.1 p hp with e | ⟨w, hw, e⟩
  · rw [e]; rfl
  · rw [e, nI_1, nI_clamp (by omega)]
theorem plc_lt {a : x_St} (h : WF a) {p : Nat} (hp : p < 8) : plc a p < 18 := by
  unfold plc
  rcases h.2.2.2.1 p hp with e | ⟨w, hw, e⟩
  · rw [e]; decide
  · rw [e, nI_1, nI_clamp (by omega)]; omega
theorem plc_iff {a : x_St} (h : WF a) {p q : Nat} (hp : p < 8) (hq : q < 8) : plc a p = plc a q ↔ a (24 + 3 * p + 1) = a (24 + 3 * q + 1) := by
  constructor
  · intro e
    have e1 := plc_eq h hp
    have e2 := plc_eq h hq
    rw [e, ← e2] at e1
    have := congrArg (fun z : Int32 => z - 1) e1
    simpa using this
  · intro e
    unfold plc
    rw [e]
-- means and bounds of beliefs
theorem sumTo_nat (f : Nat → Int32) (B : Nat) : ∀ n, n ≤ 8 → (∀ p, p < n → ∃ b, b ≤ B ∧ f p = nI b) → B < 100000 → ∃ s, s ≤ n * B ∧ sumTo f n = nI s
  | 0, _, _, _ => ⟨0, by omega, rfl⟩
  | n + 1, h8, h, hB => by
    obtain ⟨s, h1, h2⟩ := sumTo_nat f B n (by omega) (fun p hp => h p (by omega)) hB
    obtain ⟨b, hb, e⟩ := h n (by omega)
    refine ⟨s + b, ?_, ?_⟩
    · have : (n + 1) * B = n * B + B := by rw [Nat.add_mul, Nat.one_mul]
      omega
    · unfold sumTo; rw [h2, e, nI_add]
/-- a sum over some of n beliefs below 100, and how many they are -/
theorem sumWith_le (a : x_St) (f : Nat → Bool) : ∀ n, n ≤ 8 → (∀ p, p < 8 → ∃ b, b < 100 ∧ a (24 + 3 * p + 2) = nI b) → ∃ s c, sumTo (fun o => if f o = true then a (24 + 3 * o + 2) else 0) n = nI s ∧ cntTo 0 f n = nI c ∧ s ≤ 99 * c ∧ c ≤ n
  | 0, _, _ => ⟨0, 0, rfl, rfl, by omega, by omega⟩
  | n + 1, h8, h => by
    obtain ⟨s, c, h1, h2, h3, h4⟩ := sumWith_le a f n (by omega) h
    obtain ⟨b, hb, e⟩ := h n (by omega)
    unfold sumTo cntTo
    rw [h1, h2]
    by_cases hf : f n = true
    · rw [if_pos hf, if_pos hf, e, nI_add, nI_1]
      exact ⟨s + b, c + 1, rfl, rfl, by omega, by omega⟩
    · rw [if_neg hf, if_neg hf]
      exact ⟨s, c, by simp, rfl, by omega, by omega⟩
theorem meanF_in {a : x_St} (hI : WF a) {p : Nat} (hp : p < pn a) : ∃ m, m < 100 ∧ meanF a p = nI m := by
  obtain ⟨s, c, h1, h2, h3, h4⟩ := sumWith_le a (withB a p) (pn a) hI.1 hI.2.2.2.2.1
  obtain ⟨c', h0, h8, e⟩ := numWith_pos hp hI.1
  have ec : c' = c := by
    have : nI c' = nI c := by rw [← e, ← h2]; rfl
    exact (nI_eq (by omega) (by have := hI.1; omega)).mp this
  have hs : sumWith a p = nI s := h1
  refine ⟨s / c', ?_, ?_⟩
  · rw [Nat.div_lt_iff_lt_mul h0]; omega
  · unfold meanF
    rw [hs, e, pk_div (by have := hI.1; omega) h0 (by omega)]
theorem swayV_in {a : x_St} (hI : WF a) {p : Nat} (hp : p < pn a) : ∃ b, b < 100 ∧ swayV a p = nI b := by
  have h8 := hI.1
  obtain ⟨m, hm, em⟩ := meanF_in hI hp
  obtain ⟨b, hb, eb⟩ := hI.2.2.2.2.1 p (by omega)
  unfold swayV
  rw [em, eb]
  by_cases c1 : nI b < nI m
  · have := (nI_ltI (by omega) (by omega)).mp c1
    rw [if_pos c1]
    exact ⟨b + 1, by omega, nI_1 b⟩
  · rw [if_neg c1]
    by_cases c2 : nI m < nI b
    · have := (nI_ltI (by omega) (by omega)).mp c2
      rw [if_pos c2]
      exact ⟨b - 1, by omega, by have h := pk_sub (a := b) (b := 1) (by omega); rw [← h]; rfl⟩
    · rw [if_neg c2]; exact ⟨b, hb, rfl⟩
/-- the bounds of a line whose beliefs alone changed -/
theorem WF.beliefs {a b : x_St} (h : WF a) (hs : sameB a b) (hb : ∀ p, p < 8 → ∃ x, x < 100 ∧ b (24 + 3 * p + 2) = nI x) : WF b := by
  obtain ⟨h1, h2, h3, h4, h5, h6, h7, h8, h9, h10⟩ := h
  have e := sameB_pn hs
  refine ⟨by omega, by rw [hs 7 (by omega), e]; exact h2, fun p hp => ?_, fun p hp => ?_, hb, ?_, ?_, ?_, ?_, ?_⟩
  · rw [hs _ (by omega)]; exact h3 p hp
  · rw [hs _ (by omega)]; exact h4 p hp
  · rw [hs _ (by omega)]; exact h6
  · rw [hs _ (by omega)]; exact h7
  · rw [hs _ (by omega)]; exact h8
  · rw [hs _ (by omega)]; exact h9
  · rw [hs _ (by omega)]; exact h10
theorem WF.move {a : x_St} (h : WF a) (b : Int32) : WF (moveTo a b (pn a)) := by
  refine h.beliefs (moveTo_same a b _ h.1) (fun p hp => ?_)
  rcases Nat.lt_or_ge p (pn a) with q | q
  · rw [moveTo_lo a b p _ q]
    split
    · exact clampF_in _
    · exact h.2.2.2.2.1 p hp
  · rw [moveTo_hi a b p _ q]; exact h.2.2.2.2.1 p hp
theorem WF.sway {a : x_St} (h : WF a) : WF (swayF a) := by
  refine h.beliefs (swayTo_same a _ h.1) (fun p hp => ?_)
  unfold swayF
  rcases Nat.lt_or_ge p (pn a) with q | q
  · rw [swayTo_lo a p _ q]; exact swayV_in h q
  · rw [swayTo_hi a p _ q]; exact h.2.2.2.2.1 p hp
theorem upd_pn {a : x_St} {j : Nat} (hj : j ≠ 7) (x : Int32) : pn (upd a j x) = pn a := by unfold pn; rw [upd_n _ _ (by omega)]
theorem WF.up1 {a : x_St} (h : WF a) {t : Nat} (ht : t < 17) : WF (upd a 1 (nI t)) := by
  obtain ⟨h1, h2, h3, h4, h5, h6, h7, h8, h9, h10⟩ := h
  have e := upd_pn (a := a) (j := 1) (by decide) (nI t)
  refine ⟨by omega, by rw [upd_n _ _ (by omega), e]; exact h2, fun p hp => ?_, fun p hp => ?_, fun p hp => ?_, ⟨t, ht, upd_s _ _ _⟩, ?_, ?_, ?_, ?_⟩ <;> rw [upd_n _ _ (by omega)]
  · exact h3 p hp
  · exact h4 p hp
  · exact h5 p hp
  · exact h7
  · exact h8
  · exact h9
  · exact h10
theorem WF.up5 {a : x_St} (h : WF a) {f : Nat} (hf : f < 100000) : WF (upd a 5 (nI f)) := by
  obtain ⟨h1, h2, h3, h4, h5, h6, h7, h8, h9, h10⟩ := h
  have e := upd_pn (a := a) (j := 5) (by decide) (nI f)
  refine ⟨by omega, by rw [upd_n _ _ (by omega), e]; exact h2, fun p hp => ?_, fun p hp => ?_, fun p hp => ?_, ?_, ?_, ?_, ?_, ⟨f, hf, upd_s _ _ _⟩⟩ <;> rw [upd_n _ _ (by omega)]
  · exact h3 p hp
  · exact h4 p hp
  · exact h5 p hp
  · exact h6
  · exact h7
  · exact h8
  · exact h9
theorem WF.up0 {a : x_St} (h : WF a) (x : Int32) : WF (upd a 0 x) := by
  obtain ⟨h1, h2, h3, h4, h5, h6, h7, h8, h9, h10⟩ := h
  have e := upd_pn (a := a) (j := 0) (by decide) x
  refine ⟨by omega, by rw [upd_n _ _ (by omega), e]; exact h2, fun p hp => ?_, fun p hp => ?_, fun p hp => ?_, ?_, ?_, ?_, ?_, ?_⟩ <;> rw [upd_n _ _ (by omega)]
  · exact h3 p hp
  · exact h4 p hp
  · exact h5 p hp
  · exact h6
  · exact h7
  · exact h8
  · exact h9
  · exact h10
theorem fall_in {a : x_St} (h : WF a) : ∃ f, f < 100000 ∧ minI (a 5 + 1) 99999 = nI f := by
  obtain ⟨f, hf, e⟩ := h.2.2.2.2.2.2.2.2.2
  rw [e, nI_1]
  have ht : (minI (nI (f + 1)) 99999).toInt = if (99999 : Int) < ((f + 1 : Nat) : Int) then 99999 else ((f + 1 : Nat) : Int) := by
    rw [minI_T, nI_T (by omega)]; rfl
  rcases Nat.lt_or_ge 99999 (f + 1) with q | q
  · rw [if_pos (by omega)] at ht
    exact ⟨99999, by omega, i32_of ht (by omega)⟩
  · rw [if_neg (by omega)] at ht
    exact ⟨f + 1, by omega, i32_of ht (by omega)⟩
theorem WF.ride {a : x_St} (h : WF a) : WF (rideF a) ∧ pn (rideF a) = pn a := by
  unfold rideF
  split
  · next c =>
    split
    · obtain ⟨t, ht, e⟩ := h.2.2.2.2.2.1
      have ht' : t < 16 := by
        rw [e] at c
        exact (nI_ltI (b := 16) (by omega) (by decide)).mp c
      have h1 : WF (upd a 1 (a 1 + 1)) := by rw [e, nI_1]; exact h.up1 (by omega)
      have ep : pn (upd a 1 (a 1 + 1)) = pn a := upd_pn (by decide) _
      have := h1.move (a 3)
      rw [ep] at this
      exact ⟨this, (sameB_pn (moveTo_same _ (a 3) (pn a) h.1)).trans ep⟩
    · obtain ⟨f, hf, e⟩ := fall_in h
      have h1 : WF (upd a 5 (minI (a 5 + 1) 99999)) := by rw [e]; exact h.up5 hf
      have ep : pn (upd a 5 (minI (a 5 + 1) 99999)) = pn a := upd_pn (by decide) _
      have := h1.move (-a 4)
      rw [ep] at this
      exact ⟨this, (sameB_pn (moveTo_same _ (-a 4) (pn a) h.1)).trans ep⟩
  · exact ⟨h, rfl⟩
theorem WF.hour {a : x_St} (h : WF a) : WF (hourF a) := (h.ride.1.sway).up0 _
theorem hourF_pn {a : x_St} (h : WF a) : pn (hourF a) = pn a := by
  unfold hourF swayF
  rw [upd_pn (by decide), sameB_pn (swayTo_same _ _ h.ride.1.1), h.ride.2]
theorem WF.hours {a : x_St} (h : WF a) : ∀ n, WF (hoursF a n)
  | 0 => h
  | n + 1 => (WF.hours h n).hour
theorem hoursF_pn {a : x_St} (h : WF a) : ∀ n, pn (hoursF a n) = pn a
  | 0 => rfl
  | n + 1 => by
    show pn (hourF (hoursF a n)) = pn a
    rw [hourF_pn (h.hours n), hoursF_pn h n]
theorem PR.h0 {a : x_St} {o : Nat} {μ : x_Mem} (h : PR a o μ) (x : Int32) : PR (upd a 0 x) o μ := by
  obtain ⟨h1, h2, h3, h4, h5, g5, g6, g7, g8, g9, g10, g12⟩ := h
  refine ⟨fun k hk => ?_, fun k hk => ?_, fun k hk => ?_, fun k hk => ?_, fun k hk => ?_, ?_, ?_, ?_, ?_, ?_, ?_, ?_⟩ <;> rw [upd_n _ _ (by omega)]
  · exact h1 k hk
  · exact h2 k hk
  · exact h3 k hk
  · exact h4 k hk
  · exact h5 k hk
  · exact g5
  · exact g6
  · exact g7
  · exact g8
  · exact g9
  · exact g10
  · exact g12
