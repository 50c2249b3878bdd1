/-! THE REFERENCE: how it holds the state -/
theorem nI_mulN (a b : Nat) : nI a * nI b = nI (a * b) := pk_mul a b
def MR (a : x_St) (μ : x_Mem) : Prop := ∀ j, j < 58 → μ 42 j = a j
def MD (f : Nat → Int32) (μ : x_Mem) : Prop := ∀ j, j < 7 → μ 45 j = f j
def MX (g : x_SG) (μ : x_Mem) : Prop := (gP g = true → ∀ j, j < 58 → μ 43 j = gK g j) ∧ μ 41 3 = x_b (gP g) ∧ μ 41 11 = nI (gT g) ∧ (∀ j, j < gT g → μ 51 j = gB g j) ∧ (∀ s, s < 4 → μ 48 s = gSb g s) ∧ (∀ s, s < 4 → μ 49 s = nI (gSz g s)) ∧ ∀ s, s < 4 → ∀ j, j < 40 → μ 50 (40 * s + j) = gSn g s j
def MS (g : x_SG) (μ : x_Mem) : Prop := MR (gA g) μ ∧ MX g μ ∧ MD (gF g) μ
theorem MR.cg {a : x_St} {μ μ' : x_Mem} (h : MR a μ) (e : ∀ id, id = 42 → μ' id = μ id) : MR a μ' := fun j hj => by rw [e 42 rfl]; exact h j hj
theorem MD.cg {f : Nat → Int32} {μ μ' : x_Mem} (h : MD f μ) (e : ∀ id, id = 45 → μ' id = μ id) : MD f μ' := fun j hj => by rw [e 45 rfl]; exact h j hj
theorem MX.cg {g : x_SG} {μ μ' : x_Mem} (h : MX g μ) (e : ∀ id, (id = 41 ∨ id = 43 ∨ (48 ≤ id ∧ id < 52)) → μ' id = μ id) : MX g μ' := by
  unfold MX
  rw [e 41 (by omega), e 43 (by omega), e 48 (by omega), e 49 (by omega), e 50 (by omega), e 51 (by omega)]
  exact h
theorem MR.w {a : x_St} {μ μ' : x_Mem} {i : Nat} {x : Int32} (h : MR a μ) (e : μ' = upd2 μ 42 i x) : MR (upd a i x) μ' := by
  subst e
  intro j hj
  rw [upd2_at]
  by_cases q : j = i
  · subst q; rw [upd_s, upd_s]
  · rw [upd_n _ _ q, upd_n _ _ q]; exact h j hj
theorem MD.w {f : Nat → Int32} {μ μ' : x_Mem} {i : Nat} {x : Int32} (h : MD f μ) (e : μ' = upd2 μ 45 i x) : MD (upd f i x) μ' := by
  subst e
  intro j hj
  rw [upd2_at]
  by_cases q : j = i
  · subst q; rw [upd_s, upd_s]
  · rw [upd_n _ _ q, upd_n _ _ q]; exact h j hj
theorem MS.fin {g : x_SG} {μ' : x_Mem} {i : Nat} (h1 : MR (gA g) μ') (h3 : MX g μ') (h4 : MD (upd (gF g) i (gF g i + 1)) μ') : MS (fnd g i) μ' := ⟨h1, h3, h4⟩
theorem MS.line {g : x_SG} {μ' : x_Mem} {a : x_St} (h1 : MR a μ') (h3 : MX g μ') (h4 : MD (gF g) μ') : MS (sA g a) μ' := ⟨h1, h3, h4⟩
theorem MR.eq {a b : x_St} {μ : x_Mem} (h : MR a μ) (e : ∀ j, j < 58 → a j = b j) : MR b μ := fun j hj => (h j hj).trans (e j hj)
/-- held between two bounds -/
def heldF (v lo hi : Int32) : Int32 := if v < lo then lo else if hi < v then hi else v
theorem held_0 {v lo hi : Int32} (h : v < lo) : heldF v lo hi = lo := if_pos h
theorem held_1 {v lo hi : Int32} (h : ¬ v < lo) (h2 : hi < v) : heldF v lo hi = hi := by unfold heldF; rw [if_neg h, if_pos h2]
theorem held_2 {v lo hi : Int32} (h : ¬ v < lo) (h2 : ¬ hi < v) : heldF v lo hi = v := by unfold heldF; rw [if_neg h, if_neg h2]
theorem held_clamp (x : Int32) : heldF x 0 99 = clampF x := by
  unfold heldF clampF maxI minI
  by_cases h1 : x < 0
  · have h2 : x < 99 := Int32.lt_of_lt_of_le h1 (by decide)
    rw [if_pos h1, if_pos h2]
    split
    · next q => exact absurd q (Int32.not_lt.mpr (Int32.le_of_lt h1))
    · rfl
  · rw [if_neg h1]
    by_cases h2 : 99 < x
    · rw [if_pos h2, if_neg (Int32.not_lt.mpr (Int32.le_of_lt h2))]
      rfl
    · rw [if_neg h2]
      by_cases h3 : x < 99
      · rw [if_pos h3]
        by_cases h4 : 0 < x
        · rw [if_pos h4]
        · rw [if_neg h4]
          exact Int32.le_antisymm (Int32.not_lt.mp h4) (Int32.not_lt.mp h1)
      · have e : x = 99 := Int32.le_antisymm (Int32.not_lt.mp h2) (Int32.not_lt.mp h3)
        subst e
        decide
theorem held_falls {a : x_St} (h : WF a) : heldF (a 5) 0 30 = minI (a 5) 30 := by
  obtain ⟨f, hf, e⟩ := h.2.2.2.2.2.2.2.2.2
  rw [e]
  unfold heldF minI
  rw [if_neg (nI_pos (by omega))]
theorem isP_in {a : x_St} (h : WF a) (p : Int32) : inR p 0 (nI (pn a) - 1) = isP a p := by
  have hp := h.1
  unfold inR isP
  rw [h.2.1]
  congr 1
  apply propext
  constructor
  · rintro ⟨h1, h2⟩
    refine ⟨h1, ?_⟩
    rw [Int32.lt_iff_toInt_lt, nI_T (by omega)]
    rw [Int32.le_iff_toInt_le, Int32.toInt_sub, nI_T (by omega), show (1 : Int32).toInt = 1 by decide, Int.bmod_eq_of_le (by omega) (by omega)] at h2
    omega
  · rintro ⟨h1, h2⟩
    refine ⟨h1, ?_⟩
    rw [Int32.lt_iff_toInt_lt, nI_T (by omega)] at h2
    rw [Int32.le_iff_toInt_le, Int32.toInt_sub, nI_T (by omega), show (1 : Int32).toInt = 1 by decide, Int.bmod_eq_of_le (by omega) (by omega)]
    omega
-- the lowest bit taken off
theorem low_odd (q : Nat) : (2 * q + 1) &&& (2 * q + 1 - 1) = 2 * q := by
  apply Nat.eq_of_testBit_eq
  intro j
  rw [Nat.testBit_and, Nat.add_sub_cancel]
  cases j with
  | zero => simp
  | succ j =>
    rw [Nat.testBit_succ, Nat.testBit_succ, show (2 * q + 1) / 2 = q by omega, show 2 * q / 2 = q by omega, Bool.and_self]
theorem low_even {q : Nat} (hq : 0 < q) : (2 * q) &&& (2 * q - 1) = 2 * (q &&& (q - 1)) := by
  apply Nat.eq_of_testBit_eq
  intro j
  rw [Nat.testBit_and]
  cases j with
  | zero => simp
  | succ j =>
    rw [Nat.testBit_succ, Nat.testBit_succ, Nat.testBit_succ, show 2 * q / 2 = q by omega, show (2 * q - 1) / 2 = q - 1 by omega, show 2 * (q &&& (q - 1)) / 2 = q &&& (q - 1) by omega, Nat.testBit_and]
theorem popN_sh (s : Nat) : ∀ n, popN (n + 1) s = s % 2 + popN n (s / 2)
  | 0 => by
    show popN 0 s + (if s.testBit 0 = true then 1 else 0) = s % 2 + 0
    rw [show popN 0 s = 0 from rfl, Nat.testBit_zero]
    by_cases h : s % 2 = 1
    · simp [h]
    · have : s % 2 = 0 := by omega
      simp [this]
  | n + 1 => by
    have ih := popN_sh s n
    show popN (n + 1) s + (if s.testBit (n + 1) = true then 1 else 0) = s % 2 + (popN n (s / 2) + (if (s / 2).testBit n = true then 1 else 0))
    rw [ih, Nat.testBit_succ]
    omega
theorem popN_off : ∀ n s, 0 < s → s < 2 ^ n → popN n (s &&& (s - 1)) + 1 = popN n s
  | 0, s, h1, h2 => by simp at h2; omega
  | n + 1, s, h1, h2 => by
    have h2' : s / 2 < 2 ^ n := by rw [Nat.pow_succ] at h2; omega
    rw [popN_sh s n]
    by_cases h : s % 2 = 1
    · have e : s = 2 * (s / 2) + 1 := by omega
      have e2 : s &&& (s - 1) = 2 * (s / 2) := by
        have := low_odd (s / 2)
        rw [← e] at this
        exact this
      rw [e2, popN_sh, show 2 * (s / 2) % 2 = 0 by omega, show 2 * (s / 2) / 2 = s / 2 by omega, h]
      omega
    · have e : s = 2 * (s / 2) := by omega
      have hq : 0 < s / 2 := by omega
      have e2 : s &&& (s - 1) = 2 * ((s / 2) &&& (s / 2 - 1)) := by
        have := low_even hq
        rw [← e] at this
        exact this
      have ih := popN_off n (s / 2) hq h2'
      rw [e2, popN_sh, show 2 * ((s / 2) &&& (s / 2 - 1)) % 2 = 0 by omega, show 2 * ((s / 2) &&& (s / 2 - 1)) / 2 = (s / 2) &&& (s / 2 - 1) by omega]
      omega
theorem day_1 {a : x_St} (h : WF a) (c : a 2 = 1) : dayF a = 0 := by unfold dayF; rw [c]; rfl
theorem day_0 {a : x_St} (h : WF a) (c : ¬ a 2 = 1) : dayF a = 20 := by
  rcases h.2.2.2.2.2.2.1 with e | e
  · unfold dayF; rw [e]; rfl
  · exact absurd e c
theorem night_1 {a : x_St} (h : WF a) (c : a 2 = 1) : ¬ a 2 = 0 := by rw [c]; decide
theorem night_0 {a : x_St} (h : WF a) (c : ¬ a 2 = 1) : a 2 = 0 := by
  rcases h.2.2.2.2.2.2.1 with e | e
  · exact e
  · exact absurd e c
theorem held_brings {a : x_St} {p k : Nat} (h : WF a) (hp : p < pn a) (hk : k < 16) : heldF (faithF a p - 10 * farF (a (24 + 3 * p + 1)) (nI k)) 0 99999 = maxI 0 (faithF a p - 10 * farF (a (24 + 3 * p + 1)) (nI k)) := by
  have h8 := h.1
  have f := faith_bd h (p := p) (by omega)
  have r := far_T h (p := p) (k := k) (by omega) (by omega)
  have e := less_T h (p := p) (k := k) (by omega) (by omega)
  generalize faithF a p - 10 * farF (a (24 + 3 * p + 1)) (nI k) = x at e ⊢
  apply Int32.toInt_inj.mp
  rw [maxI_T]
  have e0 : (0 : Int32).toInt = 0 := by decide
  have e9 : (99999 : Int32).toInt = 99999 := by decide
  unfold heldF
  rw [e0]
  split
  · next c =>
    rw [Int32.lt_iff_toInt_lt, e0] at c
    rw [e0, if_neg (by omega)]
  · next c =>
    rw [Int32.lt_iff_toInt_lt, e0] at c
    split
    · next d =>
      rw [Int32.lt_iff_toInt_lt, e9] at d
      omega
    · split <;> omega
theorem or_0 (x : Int32) : x ||| 0 = x := by simp
theorem come_eq {a : x_St} {k w b : Int32} (h7 : a 7 = nI (pn a)) (j : Nat) : upd (upd (upd (upd a 7 (nI (pn a + 1))) (24 + 3 * pn a) k) (24 + 3 * pn a + 1) w) (24 + 3 * pn a + 2) b j = comeF a k w b j := by
  unfold comeF
  rw [nI_1]
  by_cases q : j = 7
  · subst q
    rw [upd_s]
    repeat rw [upd_n _ _ (by omega)]
    rw [upd_s]
  · rw [upd_n (k := 7) _ _ q]
    by_cases q2 : j = 24 + 3 * pn a + 2
    · subst q2; rw [upd_s, upd_s]
    · rw [upd_n _ _ q2, upd_n _ _ q2]
      by_cases q3 : j = 24 + 3 * pn a + 1
      · subst q3; rw [upd_s, upd_s]
      · rw [upd_n _ _ q3, upd_n _ _ q3]
        by_cases q4 : j = 24 + 3 * pn a
        · subst q4; rw [upd_s, upd_s]
        · rw [upd_n _ _ q4, upd_n _ _ q4, upd_n _ _ q]
theorem sv_1 {a : x_St} {p : Nat} (c : a (24 + 3 * p + 2) < meanF a p) : swayV a p = a (24 + 3 * p + 2) + 1 := by unfold swayV; rw [if_pos c]
theorem sv_2 {a : x_St} {p : Nat} (c : meanF a p ≤ a (24 + 3 * p + 2)) (c2 : ¬ a (24 + 3 * p + 2) ≤ meanF a p) : swayV a p = a (24 + 3 * p + 2) - 1 := by unfold swayV; rw [if_neg (Int32.not_lt.mpr c), if_pos (Int32.not_le.mp c2)]
theorem sv_3 {a : x_St} {p : Nat} (c : meanF a p ≤ a (24 + 3 * p + 2)) (c2 : a (24 + 3 * p + 2) ≤ meanF a p) : swayV a p = a (24 + 3 * p + 2) := by unfold swayV; rw [if_neg (Int32.not_lt.mpr c), if_neg (Int32.not_lt.mpr c2)]
theorem sway_7 (a : x_St) : ∀ n, swayTo a n 7 = a 7
  | 0 => rfl
  | n + 1 => by
    show upd (swayTo a n) (24 + 3 * n + 2) (swayV a n) 7 = a 7
    rw [upd_n _ _ (by omega)]
    exact sway_7 a n
def T46 (a : x_St) (μ : x_Mem) : Prop := ∀ j, j < pn a → μ 46 j = swayV a j
theorem T46.cg {a : x_St} {μ μ' : x_Mem} (h : ∀ j, j < pn a → μ 46 j = swayV a j) (e : ∀ id, id = 46 → μ' id = μ id) : ∀ j, j < pn a → μ' 46 j = swayV a j := fun j hj => by rw [e 46 rfl]; exact h j hj
theorem num_ne {a : x_St} {p i : Nat} {r : Int32} (h : WF a) (hp : p < pn a) (hr : r = cntTo 0 (withB a p) i) (hi : pn a ≤ i ∧ i ≤ pn a) : ¬ r = 0 := by
  obtain ⟨c, h1, h2, e⟩ := cntTo_pos (withB a p) (p := p) (by unfold withB; simp) i (by omega) (by have := h.1; omega)
  rw [hr, e]
  intro q
  have := (nI_eq (b := 0) (by have := h.1; omega) (by decide)).mp q
  omega
-- an hour of the reference
theorem upd_id {a : x_St} {k : Nat} {x : Int32} (e : x = a k) (j : Nat) : upd a k x j = a j := by
  by_cases q : j = k
  · subst q; rw [upd_s, e]
  · rw [upd_n _ _ q]
theorem held_n {f : Nat} (hf : f < 100000) : heldF (nI f) 0 99999 = nI f := held_2 (nI_pos (by omega)) (fun q => by have := (nI_ltI (a := 99999) (b := f) (by decide) (by omega)).mp q; omega)
theorem held_s {f : Nat} (hf : f < 100000) : heldF (nI f + 1) 0 99999 = minI (nI f + 1) 99999 := by
  rw [nI_1]
  unfold heldF minI
  rw [if_neg (nI_pos (by omega))]
theorem hr_A {a : x_St} (h : WF a) (j : Nat) : upd (upd a 1 (a 1 + 0)) 5 (heldF (upd a 1 (a 1 + 0) 5 + 0) 0 99999) j = a j := by
  obtain ⟨f, hf, e⟩ := h.2.2.2.2.2.2.2.2.2
  rw [upd_n (k := 1) (j := 5) _ _ (by decide), Int32.add_zero, Int32.add_zero, e, held_n hf]
  by_cases q : j = 5
  · subst q; rw [upd_s, e]
  · rw [upd_n _ _ q, upd_id rfl]
theorem hr_B {a : x_St} (h : WF a) (j : Nat) : upd (upd a 1 (a 1 + 0)) 5 (heldF (upd a 1 (a 1 + 0) 5 + 1) 0 99999) j = upd a 5 (minI (a 5 + 1) 99999) j := by
  obtain ⟨f, hf, e⟩ := h.2.2.2.2.2.2.2.2.2
  rw [upd_n (k := 1) (j := 5) _ _ (by decide), Int32.add_zero, e, held_s hf]
  by_cases q : j = 5
  · subst q; rw [upd_s, upd_s]
  · rw [upd_n _ _ q, upd_n _ _ q, upd_id rfl]
theorem hr_C {a : x_St} (h : WF a) (j : Nat) : upd (upd a 1 (a 1 + 1)) 5 (heldF (upd a 1 (a 1 + 1) 5 + 0) 0 99999) j = upd a 1 (a 1 + 1) j := by
  obtain ⟨f, hf, e⟩ := h.2.2.2.2.2.2.2.2.2
  rw [upd_n (k := 1) (j := 5) _ _ (by decide), Int32.add_zero, e, held_n hf]
  by_cases q : j = 5
  · subst q; rw [upd_s, upd_n _ _ (by decide), e]
  · rw [upd_n _ _ q]
theorem clamp_id {b : Nat} (hb : b < 100) : clampF (nI b + 0) = nI b := by
  rw [Int32.add_zero, ← held_clamp]
  exact held_2 (nI_pos (by omega)) (fun q => by have := (nI_ltI (a := 99) (b := b) (by decide) (by omega)).mp q; omega)
theorem move_0 {a : x_St} (h : WF a) : ∀ n, n ≤ 8 → ∀ j, moveTo a 0 n j = a j
  | 0, _, _ => rfl
  | n + 1, hn, j => by
    have ih := move_0 h n (by omega) j
    obtain ⟨b, hb, e⟩ := h.2.2.2.2.1 n (by omega)
    unfold moveTo
    split
    · rw [e, clamp_id hb]
      by_cases q : j = 24 + 3 * n + 2
      · subst q; rw [upd_s, e]
      · rw [upd_n _ _ q]; exact ih
    · exact ih
theorem hr_eA {a : x_St} (h : WF a) (c : a 1 = 16) (j : Nat) : moveTo a 0 (pn a) j = rideF a j := by
  rw [move_0 h _ h.1 j]
  unfold rideF
  rw [if_neg (by rw [c]; decide)]
theorem fallB_16 {a : x_St} (c : a 1 = 16) : fallB a = false := by unfold fallB; rw [c]; rfl
theorem hr_eB {a : x_St} (c : fallB a = true) : moveTo (upd a 5 (minI (a 5 + 1) 99999)) (-a 4) (pn a) = rideF a := by
  unfold fallB at c
  rw [Bool.and_eq_true] at c
  have c1 := of_decide_eq_true c.1
  have c2 : thereB a (a 1).toNatClampNeg = false := by simpa using c.2
  unfold rideF
  rw [if_pos c1, if_neg (by rw [c2]; decide)]
theorem hr_eC {a : x_St} (h : WF a) (c0 : ¬ a 1 = 16) (c : fallB a = false) : moveTo (upd a 1 (a 1 + 1)) (a 3) (pn a) = rideF a := by
  obtain ⟨t, ht, e⟩ := h.2.2.2.2.2.1
  have t16 : t < 16 := by
    rcases Nat.lt_or_ge t 16 with q | q
    · exact q
    · exact absurd (by rw [e, show t = 16 by omega]; rfl) c0
  have c1 : a 1 < 16 := by rw [e]; exact nI_lt (a := t) (b := 16) t16 (by decide)
  have c2 : thereB a (a 1).toNatClampNeg = true := by
    unfold fallB at c
    rw [decide_eq_true c1] at c
    simpa using c
  unfold rideF
  rw [if_pos c1, if_pos c2]
theorem ride_0 {a : x_St} (h : WF a) : rideF a 0 = a 0 := by
  have h0 : ∀ (b : x_St) (y : Int32) n, moveTo b y n 0 = b 0 := by
    intro b y n
    induction n with
    | zero => rfl
    | succ n ih =>
      unfold moveTo
      split
      · rw [upd_n _ _ (by omega)]; exact ih
      · exact ih
  unfold rideF
  split
  · split
    · rw [h0, upd_n _ _ (by decide)]
    · rw [h0, upd_n _ _ (by decide)]
  · rfl
theorem swayTo_0 (a : x_St) : ∀ n, swayTo a n 0 = a 0
  | 0 => rfl
  | n + 1 => by
    show upd (swayTo a n) (24 + 3 * n + 2) (swayV a n) 0 = a 0
    rw [upd_n _ _ (by omega)]
    exact swayTo_0 a n
theorem hour_end {a : x_St} (h : WF a) : upd (swayF (rideF a)) 0 (swayF (rideF a) 0 + 1) = hourF a := by
  unfold hourF
  rw [show swayF (rideF a) 0 = a 0 from (swayTo_0 _ _).trans (ride_0 h)]
theorem ride_wf {a : x_St} (h : WF a) (c0 : ¬ a 1 = 16) (c : fallB a = false) : WF (upd a 1 (a 1 + 1)) := by
  obtain ⟨t, ht, e⟩ := h.2.2.2.2.2.1
  have t16 : t < 16 := by
    rcases Nat.lt_or_ge t 16 with q | q
    · exact q
    · exact absurd (by rw [e, show t = 16 by omega]; rfl) c0
  rw [e]
  exact h.up1s t16
theorem move_lo (b : x_St) (y : Int32) {j : Nat} (hj : j < 24) : ∀ n, moveTo b y n j = b j
  | 0 => rfl
  | n + 1 => by
    unfold moveTo
    split
    · rw [upd_n _ _ (by omega)]; exact move_lo b y hj n
    · exact move_lo b y hj n
theorem move_w {b : x_St} {y : Int32} {p : Nat} : ∀ {n}, moveTo b y n (24 + 3 * p + 1) = b (24 + 3 * p + 1)
  | 0 => rfl
  | n + 1 => by
    unfold moveTo
    split
    · rw [upd_n _ _ (by omega)]; exact move_w
    · exact move_w
