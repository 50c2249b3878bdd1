/-! THE REFERENCE: how it reads texts -/
def rT (c : Nat) : Nat := if c = 15 then 23 else c
/-- the tape as it lies: unsigned bytes; S: their values with a sign -/
def RW (S : Nat → Int32) (n : Nat) (μ : x_Mem) : Prop := μ 41 11 = nI n ∧ ∀ j, j < n → ∃ b, b < 256 ∧ μ 51 j = nI b ∧ S j = (nI b).toInt8.toInt32
def RK (t : x_Tk) (μ : x_Mem) : Prop := μ 41 13 = nI (tkB t) ∧ μ 41 14 = nI (tkE t) ∧ μ 41 12 = nI (rT (tkC t)) ∧ ∃ v, v ≤ 9999 ∧ μ 41 15 = nI v ∧ tkV t = nI (min v 1000)
theorem RW.cg {S : Nat → Int32} {n : Nat} {μ μ' : x_Mem} (h : RW S n μ) (e : ∀ id, id = 41 ∨ id = 51 → μ' id = μ id) : RW S n μ' := by
  unfold RW
  rw [e 41 (Or.inl rfl), e 51 (Or.inr rfl)]
  exact h
theorem RW.cw {S : Nat → Int32} {n : Nat} {μ μ' : x_Mem} {j : Nat} {x : Int32} (h : RW S n μ) (e : μ' = upd2 μ 41 j x) (hj : j ≠ 11) : RW S n μ' := by
  subst e
  obtain ⟨h1, h2⟩ := h
  refine ⟨?_, ?_⟩
  · rw [upd2_at, upd_n _ _ (fun q => hj q.symm)]; exact h1
  · rw [upd2_ne _ _ _ (by decide)]; exact h2
theorem RK.cg {t : x_Tk} {μ μ' : x_Mem} (h : RK t μ) (e : ∀ id, id = 41 → μ' id = μ id) : RK t μ' := by
  unfold RK
  rw [e 41 rfl]
  exact h
theorem RK.cw {t : x_Tk} {μ μ' : x_Mem} {j : Nat} {x : Int32} (h : RK t μ) (e : μ' = upd2 μ 41 j x) (hj : j = 16 ∨ j = 11) : RK t μ' := by
  subst e
  obtain ⟨h1, h2, h3, h4⟩ := h
  unfold RK
  rw [upd2_at, upd_n _ _ (by omega), upd_n _ _ (by omega), upd_n _ _ (by omega), upd_n _ _ (by omega)]
  exact ⟨h1, h2, h3, h4⟩
/-- a field of the object -/
theorem FLD.cg {j : Nat} {x : Int32} {μ μ' : x_Mem} (h : μ 41 j = x) (e : ∀ id, id = 41 → μ' id = μ id) : μ' 41 j = x := by rw [e 41 rfl]; exact h
theorem FMM.cg {m0 μ μ' : x_Mem} (h : ∀ j, (j < 12 ∨ j = 16) → μ 41 j = m0 41 j) (e : ∀ id, id = 41 → μ' id = μ id) : ∀ j, (j < 12 ∨ j = 16) → μ' 41 j = m0 41 j := fun j hj => by rw [e 41 rfl]; exact h j hj
theorem FMM.cw {m0 μ μ' : x_Mem} {k : Nat} {x : Int32} (h : ∀ j, (j < 12 ∨ j = 16) → μ 41 j = m0 41 j) (e : μ' = upd2 μ 41 k x) (hk : 12 ≤ k ∧ k < 16) : ∀ j, (j < 12 ∨ j = 16) → μ' 41 j = m0 41 j := fun j hj => by rw [e, upd2_at, upd_n _ _ (by omega)]; exact h j hj
-- bytes with and without a sign
theorem by_lo : ∀ b, b < 128 → (nI b).toInt8.toInt32 = nI b := by decide +kernel
theorem by_hi : ∀ b, b < 128 → (nI (128 + b)).toInt8.toInt32 < 0 := by decide +kernel
theorem by_in {b lo hi : Nat} (hb : b < 256) (hl : lo < 128) (hh : hi < 128) : inR (nI b) (nI lo) (nI hi) = inR (nI b).toInt8.toInt32 (nI lo) (nI hi) := by
  rcases Nat.lt_or_ge b 128 with q | q
  · rw [by_lo b q]
  · have h1 : inR (nI b) (nI lo) (nI hi) = false := decide_eq_false (fun z => by have := (nI_leI (a := b) (b := hi) (by omega) (by omega)).mp z.2; omega)
    have h2 := by_hi (b - 128) (by omega)
    rw [show 128 + (b - 128) = b by omega] at h2
    have h3 : inR (nI b).toInt8.toInt32 (nI lo) (nI hi) = false := decide_eq_false (fun z => Int32.not_le.mpr h2 (Int32.le_trans (nI_pos' (n := lo) (by omega)) z.1))
    rw [h1, h3]
theorem by_eq {b c : Nat} (hb : b < 256) (hc : c < 128) : nI c = nI b ↔ nI c = (nI b).toInt8.toInt32 := by
  rcases Nat.lt_or_ge b 128 with q | q
  · rw [by_lo b q]
  · have h2 := by_hi (b - 128) (by omega)
    rw [show 128 + (b - 128) = b by omega] at h2
    constructor
    · intro e
      have := (nI_eq (by omega) (by omega)).mp e
      omega
    · intro e
      rw [← e] at h2
      exact absurd h2 (nI_pos (by omega))
-- names
theorem nm_c : ∀ i, i < 120 → x_names.getD i 0 = nI (x_names.getD i 0).toNatClampNeg ∧ (x_names.getD i 0).toNatClampNeg < 128 := by decide +kernel
theorem nm_cmp {i : Nat} (hi : i < 120) {u s : Int32} (h : ∃ b, b < 256 ∧ u = nI b ∧ s = (nI b).toInt8.toInt32) : x_names.getD i 0 = u ↔ x_names.getD i 0 = s := by
  obtain ⟨b, hb, rfl, rfl⟩ := h
  obtain ⟨e, hc⟩ := nm_c i hi
  rw [e]
  exact by_eq hb hc
theorem nm_s1 : ∀ w, w < 15 → ∀ k, k < x_slen.getD w 0 → x_names.getD (8 * w + k) 0 = sC w k := by decide +kernel
theorem nm_s2 : ∀ w, w < 15 → ∀ k, k < 8 → x_slen.getD w 0 ≤ k → x_names.getD (8 * w + k) 0 = 0 := by decide +kernel
theorem nm_s3 : ∀ w, w < 15 → ∀ k, k < 8 → k < x_slen.getD w 0 → ¬ x_names.getD (8 * w + k) 0 = 0 := by decide +kernel
def nmP (w z : Nat) : Bool := decide (z ≤ 8) && (decide (z = 8) || decide (x_names.getD (8 * w + z) 0 = 0))
def nmS (S : Nat → Int32) (b w z k : Nat) : Bool := nmP w z && !anyTo (fun i => !decide (x_names.getD (8 * w + i) 0 = S (b + i))) k
theorem nmS_0 (S : Nat → Int32) (b w z : Nat) : nmS S b w z 0 = nmP w z := by unfold nmS; simp [anyTo]
theorem nmS_s (S : Nat → Int32) (b w z k : Nat) : nmS S b w z (k + 1) = (nmS S b w z k && decide (x_names.getD (8 * w + k) 0 = S (b + k))) := by
  unfold nmS
  rw [show anyTo (fun i => !decide (x_names.getD (8 * w + i) 0 = S (b + i))) (k + 1) = (anyTo (fun i => !decide (x_names.getD (8 * w + i) 0 = S (b + i))) k || !decide (x_names.getD (8 * w + k) 0 = S (b + k))) from rfl]
  by_cases q : x_names.getD (8 * w + k) 0 = S (b + k)
  · rw [decide_eq_true q]; simp
  · rw [decide_eq_false q]; simp
theorem nmS_8 {S : Nat → Int32} {b w z k : Nat} {r : Int32} (hr : r = x_b (nmS S b w z k)) (c : ¬ r = 0) : z ≤ 8 := by
  cases e : nmS S b w z k with
  | false => rw [e] at hr; exact absurd hr c
  | true =>
    unfold nmS nmP at e
    simp only [Bool.and_eq_true, decide_eq_true_eq] at e
    exact e.1.1
theorem nmS_1 {S : Nat → Int32} {b w z k : Nat} {r : Int32} (hr : r = x_b (nmS S b w z k)) (c0 : ¬ r = 0) {u : Int32} (hu : ∃ b1, b1 < 256 ∧ u = nI b1 ∧ S (b + k) = (nI b1).toInt8.toInt32) (hi : 8 * w + k < 120) (c : x_names.getD (8 * w + k) 0 = u) : (1 : Int32) = x_b (nmS S b w z (k + 1)) := by
  cases e : nmS S b w z k with
  | false => rw [e] at hr; exact absurd hr c0
  | true => rw [nmS_s, e, decide_eq_true ((nm_cmp hi hu).mp c)]; rfl
theorem nmS_2 {S : Nat → Int32} {b w z k : Nat} {u : Int32} (hu : ∃ b1, b1 < 256 ∧ u = nI b1 ∧ S (b + k) = (nI b1).toInt8.toInt32) (hi : 8 * w + k < 120) (c : ¬ x_names.getD (8 * w + k) 0 = u) : (0 : Int32) = x_b (nmS S b w z (k + 1)) := by
  rw [nmS_s, decide_eq_false (fun q => c ((nm_cmp hi hu).mpr q)), Bool.and_false]; rfl
theorem nmS_m {S : Nat → Int32} {b w z k : Nat} (h : nmS S b w z k = false) : ∀ d, nmS S b w z (k + d) = false
  | 0 => h
  | d + 1 => by rw [show k + (d + 1) = (k + d) + 1 by omega, nmS_s, nmS_m h d]; rfl
theorem isLe_ne {x : Int32} (h : isLe x = true) : ¬ x = 0 := by
  intro e
  rw [e] at h
  revert h
  decide
theorem slen_8 : ∀ w, w < 15 → x_slen.getD w 0 ≤ 8 := by decide +kernel
theorem nm_end {S : Nat → Int32} {b w z : Nat} (hw : w < 15) (hl : ∀ k, k < z → isLe (S (b + k)) = true) : nmS S b w z z = nmB S b (b + z) w := by
  have h8 := slen_8 w hw
  apply Bool.eq_iff_iff.mpr
  constructor
  · intro h
    have hz : z ≤ 8 := nmS_8 (r := 1) (by rw [h]; rfl) (by decide)
    have hp : nmP w z = true := by unfold nmS at h; exact (Bool.and_eq_true _ _ ▸ h : _ ∧ _).1
    have ha : ∀ k, k < z → x_names.getD (8 * w + k) 0 = S (b + k) := by
      intro k hk
      by_cases q : x_names.getD (8 * w + k) 0 = S (b + k)
      · exact q
      · exfalso
        have h2 : nmS S b w z (k + 1) = false := by rw [nmS_s, decide_eq_false q, Bool.and_false]
        have h3 := nmS_m h2 (z - (k + 1))
        rw [show k + 1 + (z - (k + 1)) = z by omega, h] at h3
        cases h3
    have h1 : z ≤ x_slen.getD w 0 := by
      rcases Nat.lt_or_ge (x_slen.getD w 0) z with q | q
      · exfalso
        have e1 := ha (x_slen.getD w 0) q
        rw [nm_s2 w hw _ (by omega) (Nat.le_refl _)] at e1
        exact isLe_ne (hl _ q) e1.symm
      · exact q
    have h2 : x_slen.getD w 0 ≤ z := by
      rcases Nat.lt_or_ge z (x_slen.getD w 0) with q | q
      · exfalso
        unfold nmP at hp
        simp only [Bool.and_eq_true, Bool.or_eq_true, decide_eq_true_eq] at hp
        rcases hp.2 with e | e
        · omega
        · exact nm_s3 w hw z (by omega) q e
      · exact q
    refine nm_iff.mpr ⟨by omega, fun k hk => ?_⟩
    rw [← ha k (by omega), nm_s1 w hw k hk]
  · intro h
    obtain ⟨h1, h2⟩ := nm_iff.mp h
    have hz : z = x_slen.getD w 0 := by omega
    have hp : nmP w z = true := by
      unfold nmP
      by_cases q : z = 8
      · rw [decide_eq_true (show z ≤ 8 by omega), decide_eq_true q]; rfl
      · rw [decide_eq_true (show z ≤ 8 by omega), decide_eq_true (nm_s2 w hw z (by omega) (by omega))]; simp
    unfold nmS
    rw [hp, anyTo_f (f := fun i => !decide (x_names.getD (8 * w + i) 0 = S (b + i))) (fun k hk => by rw [decide_eq_true (show x_names.getD (8 * w + k) 0 = S (b + k) from by rw [nm_s1 w hw k (by omega), h2 k (by omega)])]; rfl)]
    rfl
theorem nm_fin {S : Nat → Int32} {b w z k : Nat} {r : Int32} (hw : w < 15) (hl : ∀ k, k < z → isLe (S (b + k)) = true) (hr : r = x_b (nmS S b w z k)) (hk : k ≤ z) (c : z ≤ k ∨ r = 0) : r = x_b (nmB S b (b + z) w) := by
  rw [← nm_end hw hl]
  rcases c with c | c
  · rw [show z = k by omega] at hr ⊢; exact hr
  · have e : nmS S b w z k = false := by
      cases e : nmS S b w z k with
      | false => rfl
      | true => rw [e] at hr; exact absurd (hr.symm.trans c) (by decide)
    have h3 := nmS_m e (z - k)
    rw [show k + (z - k) = z by omega] at h3
    rw [c, h3]; rfl
-- the value of a number
theorem vt_up {S : Nat → Int32} {q r v d : Nat} (hq : q ≤ r) (h : valTo S q (r - q) = nI (min v 1000)) (hS : S r = nI d) (hd : 48 ≤ d ∧ d ≤ 57) (hv : ¬ 999 < v) : valTo S q (r + 1 - q) = nI (min (10 * v + d - 48) 1000) := by
  rw [show r + 1 - q = (r - q) + 1 by omega]
  unfold valTo
  rw [show q + (r - q) = r by omega, h, hS, show min v 1000 = v by omega, show (10 : Int32) = nI 10 from rfl, nI_mulN, nI_add, show (48 : Int32) = nI 48 from rfl, pk_sub (by omega)]
  show (if nI 1000 < nI (v * 10 + d - 48) then nI 1000 else nI (v * 10 + d - 48)) = _
  by_cases c : 1000 < v * 10 + d - 48
  · rw [if_pos (nI_lt (a := 1000) c (by omega)), show min (10 * v + d - 48) 1000 = 1000 by omega]
  · rw [if_neg (fun z => c ((nI_ltI (a := 1000) (by decide) (by omega)).mp z)), show min (10 * v + d - 48) 1000 = v * 10 + d - 48 by omega]
theorem vt_st {S : Nat → Int32} {q r v d : Nat} (hq : q ≤ r) (h : valTo S q (r - q) = nI (min v 1000)) (hS : S r = nI d) (hd : 48 ≤ d ∧ d ≤ 57) (hv : 999 < v) : valTo S q (r + 1 - q) = nI (min v 1000) := by
  rw [show r + 1 - q = (r - q) + 1 by omega]
  unfold valTo
  rw [show q + (r - q) = r by omega, h, hS, show min v 1000 = 1000 by omega, show (10 : Int32) = nI 10 from rfl, nI_mulN, nI_add, show (48 : Int32) = nI 48 from rfl, pk_sub (by omega)]
  show (if nI 1000 < nI (1000 * 10 + d - 48) then nI 1000 else nI (1000 * 10 + d - 48)) = _
  rw [if_pos (nI_lt (a := 1000) (by omega) (by omega))]
theorem di_b {b : Nat} (hb : b < 256) {s : Int32} (e : s = (nI b).toInt8.toInt32) (h : isDi s = true) : (48 ≤ b ∧ b ≤ 57) ∧ s = nI b := by
  unfold isDi at h
  rw [e] at h
  have h2 := (by_in (lo := 48) (hi := 57) hb (by decide) (by decide)).trans h
  obtain ⟨k, hk, ek⟩ := inR_nat2 (a := 48) (n := 57) (by decide) (by decide) h2
  have := (nI_eq (a := b) (b := k) (by omega) (by omega)).mp ek
  subst this
  exact ⟨hk, e.trans (by_lo b (by omega))⟩
-- tokens
theorem rT_eq {c w : Nat} (hw : w < 15 ∨ w = 20 ∨ w = 21 ∨ w = 22) (hc : c < 30) : nI (rT c) = nI w ↔ c = w := by
  unfold rT
  constructor
  · intro e
    split at e
    · have := (nI_eq (by omega) (by omega)).mp e; omega
    · exact (nI_eq (by omega) (by omega)).mp e
  · intro e
    rw [if_neg (by omega), e]
theorem code_r {c : Nat} (h : c < 15) : rT c = c := by unfold rT; rw [if_neg (by omega)]
theorem tok_c (S : Nat → Int32) (n p : Nat) : tkC (tokAt S n p) < 30 := by
  unfold tokAt
  split
  · show (22 : Nat) < 30; decide
  · split
    · have := code_le S (spE S n p) (leE S n (spE S n p))
      show codeOf S (spE S n p) (leE S n (spE S n p)) < 30
      omega
    · split
      · show (20 : Nat) < 30; decide
      · show (if S (spE S n p) = 59 then 21 else 23) < 30
        split <;> decide
/-- a token that is none of the end takes a byte at least -/
theorem tok_lt {S : Nat → Int32} {n p : Nat} (hp : p ≤ n) (h : ¬ tkC (tokAt S n p) = 22) : tkB (tokAt S n p) < tkE (tokAt S n p) := by
  have h1 := run_le (fun q => !decide (S q = 32)) hp
  have hq : spE S n p ≤ n := h1.2
  by_cases e : n ≤ spE S n p
  · rw [tok_end rfl e] at h; exact absurd rfl h
  · by_cases hl : isLe (S (spE S n p)) = true
    · rw [tok_word rfl (by omega) hl rfl]
      show spE S n p < leE S n (spE S n p)
      have h2 := run_le (fun q => !isLe (S q)) hq
      rcases Nat.lt_or_ge (spE S n p) (leE S n (spE S n p)) with q | q
      · exact q
      · exfalso
        have e2 : leE S n (spE S n p) = spE S n p := Nat.le_antisymm q h2.1
        unfold leE at e2
        rw [show n - spE S n p = (n - spE S n p - 1) + 1 by omega] at e2
        unfold firstN at e2
        rw [if_neg (by rw [hl]; decide)] at e2
        have h4 : ∀ k s, s ≤ firstN (fun q => !isLe (S q)) s k := by
          intro k
          induction k with
          | zero => intro s; exact Nat.le_refl s
          | succ k ih2 =>
            intro s
            unfold firstN
            split
            · exact Nat.le_refl s
            · have := ih2 (s + 1); omega
        have := h4 (n - spE S n p - 1) (spE S n p + 1)
        omega
    · have hl' := Bool.eq_false_iff.mpr hl
      by_cases hd : isDi (S (spE S n p)) = true
      · rw [tok_num rfl (by omega) hl' hd rfl]
        show spE S n p < diE S n (spE S n p)
        have h2 := run_le (fun q => !isDi (S q)) hq
        rcases Nat.lt_or_ge (spE S n p) (diE S n (spE S n p)) with q | q
        · exact q
        · exfalso
          have e2 : diE S n (spE S n p) = spE S n p := Nat.le_antisymm q h2.1
          unfold diE at e2
          rw [show n - spE S n p = (n - spE S n p - 1) + 1 by omega] at e2
          unfold firstN at e2
          rw [if_neg (by rw [hd]; decide)] at e2
          have h4 : ∀ k s, s ≤ firstN (fun q => !isDi (S q)) s k := by
            intro k
            induction k with
            | zero => intro s; exact Nat.le_refl s
            | succ k ih2 =>
              intro s
              unfold firstN
              split
              · exact Nat.le_refl s
              · have := ih2 (s + 1); omega
          have := h4 (n - spE S n p - 1) (spE S n p + 1)
          omega
      · rw [tok_oth rfl (by omega) hl' (Bool.eq_false_iff.mpr hd)]
        exact Nat.lt_succ_self _
theorem tok_ge {S : Nat → Int32} {n p : Nat} (hp : p ≤ n) : p ≤ tkB (tokAt S n p) := by
  have h1 := run_le (fun q => !decide (S q = 32)) hp
  have h2 : tkB (tokAt S n p) = spE S n p := by
    unfold tokAt
    split
    · rfl
    · split
      · rfl
      · split <;> rfl
  rw [h2]; exact h1.1
/-! items -/
def takB (B : Bool) (t : x_Tk) (w : Nat) : Bool := !B && decide (tkC t = w)
/-- what an item leaves: whether it could be read, the line, the token then -/
def IT (r : Bool × x_St × x_Tk) (μ : x_Mem) : Prop := μ 41 16 = x_b (!r.1) ∧ RK r.2.2 μ ∧ (r.1 = true → MR r.2.1 μ)
theorem num_in {t : x_Tk} {v N : Nat} (h20 : tkC t = 20) (hv : v ≤ 9999) (e : tkV t = nI (min v 1000)) (hN : N ≤ 999) : inR (nI v) 0 (nI N) = numOk t (nI N) := by
  unfold numOk inR
  rw [decide_eq_true h20, Bool.true_and, e]
  congr 1
  apply propext
  constructor
  · rintro ⟨-, h⟩
    have := (nI_leI (a := v) (b := N) (by omega) (by omega)).mp h
    exact nI_le (by omega) (by omega)
  · intro h
    have := (nI_leI (a := min v 1000) (b := N) (by omega) (by omega)).mp h
    exact ⟨nI_pos' (by omega), nI_le (by omega) (by omega)⟩
theorem num_v {t : x_Tk} {v N : Nat} (hv : v ≤ 9999) (e : tkV t = nI (min v 1000)) (hN : N ≤ 999) (h : numOk t (nI N) = true) : nI v = tkV t := by
  unfold numOk at h
  have h2 := of_decide_eq_true ((Bool.and_eq_true _ _ ▸ h : _ ∧ _).2)
  rw [e] at h2 ⊢
  have := (nI_leI (a := min v 1000) (b := N) (by omega) (by omega)).mp h2
  rw [show min v 1000 = v by omega]
theorem num_n20 {t : x_Tk} {m : Int32} (h : ¬ tkC t = 20) : numOk t m = false := by unfold numOk; rw [decide_eq_false h]; rfl
theorem tak_t {t : x_Tk} {w : Nat} (h : tkC t = w) : takB false t w = true := by unfold takB; rw [decide_eq_true h]; rfl
theorem tak_f {B : Bool} {t : x_Tk} {w : Nat} (h : ¬ tkC t = w) : takB B t w = false := by unfold takB; rw [decide_eq_false h, Bool.and_false]
theorem tak_b {t : x_Tk} {w : Nat} : takB true t w = false := rfl
theorem tak_1 {t : x_Tk} {w : Nat} (h : takB false t w = true) : tkC t = w := by
  unfold takB at h
  exact of_decide_eq_true (by simpa using h)
theorem tak_0 {t : x_Tk} {w : Nat} (h : takB false t w = false) : ¬ tkC t = w := by
  intro e
  rw [tak_t e] at h
  cases h
-- all items
def tellR (S : Nat → Int32) (n f i : Nat) (r : Bool × x_St × x_Tk) : Int32 × x_St :=
  if r.1 = true then
    (if tkC r.2.2 = 22 then (nI i, r.2.1) else if tkC r.2.2 = 21 then tellF S n f i r.2.1 (tokAt S n (tkE r.2.2)) else (-1 - nI (tkB r.2.2), r.2.1))
  else (-1 - nI (tkB r.2.2), r.2.1)
theorem tell_R (S : Nat → Int32) (n f i : Nat) (a : x_St) (t : x_Tk) : tellF S n (f + 1) i a t = tellR S n f (i + 1) (itemF S n a t) := rfl
theorem tell_21 {S : Nat → Int32} {n i : Nat} {r : Bool × x_St × x_Tk} (hi : i < 121) (h1 : r.1 = true) (h2 : tkC r.2.2 = 21) : tellR S n (121 - i) i r = tellR S n (121 - (i + 1)) (i + 1) (itemF S n r.2.1 (tokAt S n (tkE r.2.2))) := by
  obtain ⟨f, e⟩ : ∃ f, 121 - i = f + 1 := ⟨120 - i, by omega⟩
  rw [e, show 121 - (i + 1) = f by omega]
  rw [tellR, if_pos h1, if_neg (by omega), if_pos h2, tell_R]
theorem tell_22 {S : Nat → Int32} {n f i : Nat} {r : Bool × x_St × x_Tk} (h1 : r.1 = true) (h2 : tkC r.2.2 = 22) : tellR S n f i r = (nI i, r.2.1) := by rw [tellR, if_pos h1, if_pos h2]
theorem tell_no {S : Nat → Int32} {n f i : Nat} {r : Bool × x_St × x_Tk} (h1 : r.1 = false) : tellR S n f i r = (-1 - nI (tkB r.2.2), r.2.1) := by rw [tellR, if_neg (by rw [h1]; decide)]
theorem tell_ot {S : Nat → Int32} {n f i : Nat} {r : Bool × x_St × x_Tk} (h2 : ¬ tkC r.2.2 = 22) (h3 : ¬ tkC r.2.2 = 21) : tellR S n f i r = (-1 - nI (tkB r.2.2), r.2.1) := by
  unfold tellR
  by_cases h : r.1 = true
  · rw [if_pos h, if_neg h2, if_neg h3]
  · rw [if_neg h]
/-- an item that is read takes a byte at least -/
theorem newB_go {S : Nat → Int32} {n : Nat} {a : x_St} {k : Nat} {w : Int32} {t : x_Tk} (hO : TO S n t) : tkB t ≤ tkB (newB S n a k w t).2.2 := by
  have o1 := tok_TO S hO.2.1
  have g1 := tok_ge (S := S) hO.2.1
  have g2 := tok_ge (S := S) o1.2.1
  have q0 := hO.1
  have q1 := o1.1
  unfold newB
  split
  · split
    · show tkB t ≤ tkB (tokAt S n (tkE (tokAt S n (tkE t)))); omega
    · show tkB t ≤ tkB (tokAt S n (tkE t)); omega
  · exact Nat.le_refl _
theorem item_go {S : Nat → Int32} {n : Nat} {a : x_St} {t : x_Tk} (hO : TO S n t) (hl : tkC t ≤ 14 → tkB t < tkE t) (h : (itemF S n a t).1 = true) : tkB t < tkB (itemF S n a t).2.2 := by
  have o1 := tok_TO S hO.2.1
  have o2 := tok_TO S o1.2.1
  have o3 := tok_TO S o2.2.1
  have g1 := tok_ge (S := S) hO.2.1
  have g2 := tok_ge (S := S) o1.2.1
  have g3 := tok_ge (S := S) o2.2.1
  have q1 := o1.1
  have q2 := o2.1
  have q3 := o3.1
  revert h
  unfold itemF
  have hput : ∀ j m, tkC t ≤ 14 → (putF S n a j m t).1 = true → tkB t < tkB (putF S n a j m t).2.2 := by
    intro j m hc
    have := hl hc
    unfold putF
    split
    · intro _; show tkB t < tkB (tokAt S n (tkE (tokAt S n (tkE t)))); omega
    · intro h; cases h
  split
  · next hc =>
    have := hl (by omega)
    unfold newF
    split
    · split
      · split
        · intro _
          have := newB_go (a := a) (k := tkC t) (w := tkV (tokAt S n (tkE (tokAt S n (tkE t))))) o3
          omega
        · intro h; cases h
      · intro _
        have := newB_go (a := a) (k := tkC t) (w := -1) o1
        omega
    · intro h; cases h
  · split
    · next hc =>
      have := hl (by omega)
      unfold needF
      split
      · split
        · intro _; show tkB t < tkB (tokAt S n (tkE (tokAt S n (tkE (tokAt S n (tkE t)))))); omega
        · intro h; cases h
      · intro h; cases h
    · split
      · next hc => exact hput _ _ (by omega)
      · split
        · next hc => exact hput _ _ (by omega)
        · split
          · next hc => exact hput _ _ (by omega)
          · split
            · next hc => have := hl (by omega); intro _; show tkB t < tkB (tokAt S n (tkE t)); omega
            · split
              · next hc => have := hl (by omega); intro _; show tkB t < tkB (tokAt S n (tkE t)); omega
              · intro h; cases h
theorem neg_ans {b : Nat} (hb : b ≤ 120) : -1 - nI b < 0 := by
  rw [Int32.lt_iff_toInt_lt, i32_sub (x := -1) (y := nI b) (a := -1) (b := b) rfl (nI_T (by omega)) (by omega) (by omega), show (0 : Int32).toInt = 0 by decide]
  omega
theorem MX.cw {g : x_SG} {μ μ' : x_Mem} {j : Nat} {x : Int32} (h : MX g μ) (e : μ' = upd2 μ 41 j x) (hj : 12 ≤ j) : MX g μ' := by
  subst e
  obtain ⟨g1, g2, g3, g4, g5, g6, g7⟩ := h
  refine ⟨?_, ?_, ?_, ?_, ?_, ?_, ?_⟩
  · rw [upd2_ne _ _ _ (by omega)]; exact g1
  · rw [upd2_at, upd_n _ _ (by omega)]; exact g2
  · rw [upd2_at, upd_n _ _ (by omega)]; exact g3
  · rw [upd2_ne _ _ _ (by omega)]; exact g4
  · rw [upd2_ne _ _ _ (by omega)]; exact g5
  · rw [upd2_ne _ _ _ (by omega)]; exact g6
  · rw [upd2_ne _ _ _ (by omega)]; exact g7
theorem MX.of {g : x_SG} {μ μ' : x_Mem} (h : MX g μ) (e1 : ∀ j, j < 12 → μ' 41 j = μ 41 j) (e : ∀ id, (id = 43 ∨ (48 ≤ id ∧ id < 52)) → μ' id = μ id) : MX g μ' := by
  unfold MX
  rw [e1 3 (by omega), e1 11 (by omega), e 43 (by omega), e 48 (by omega), e 49 (by omega), e 50 (by omega), e 51 (by omega)]
  exact h
theorem RW.of {S : Nat → Int32} {n : Nat} {μ μ' : x_Mem} (h : RW S n μ) (e1 : μ' 41 11 = μ 41 11) (e2 : μ' 51 = μ 51) : RW S n μ' := by
  unfold RW
  rw [e1, e2]
  exact h
theorem RW.mx {g : x_SG} {μ : x_Mem} (h : MX g μ) (hb : ∀ j, j < gT g → ∃ b, b < 256 ∧ gB g j = nI b) : RW (tS g) (gT g) μ := by
  refine ⟨h.2.2.1, fun j hj => ?_⟩
  obtain ⟨b, hb1, e⟩ := hb j hj
  exact ⟨b, hb1, (h.2.2.2.1 j hj).trans e, by unfold tS; rw [e]⟩
theorem FM2.cg {m0 μ μ' : x_Mem} (h : ∀ j, j < 12 → μ 41 j = m0 41 j) (e : ∀ id, id = 41 → μ' id = μ id) : ∀ j, j < 12 → μ' 41 j = m0 41 j := fun j hj => by rw [e 41 rfl]; exact h j hj
theorem FM2.cw {m0 μ μ' : x_Mem} {k : Nat} {x : Int32} (h : ∀ j, j < 12 → μ 41 j = m0 41 j) (e : μ' = upd2 μ 41 k x) (hk : 12 ≤ k) : ∀ j, j < 12 → μ' 41 j = m0 41 j := fun j hj => by rw [e, upd2_at, upd_n _ _ (by omega)]; exact h j hj
-- what a byte is
theorem by32 {x : Int32} : inR x (nI 32) (nI 32) = true ↔ x = 32 := by
  unfold inR
  rw [decide_eq_true_iff]
  constructor
  · rintro ⟨h1, h2⟩; exact Int32.le_antisymm h2 h1
  · intro e; rw [e]; exact ⟨Int32.le_refl _, Int32.le_refl _⟩
theorem by59 {x : Int32} : inR x (nI 59) (nI 59) = true ↔ x = 59 := by
  unfold inR
  rw [decide_eq_true_iff]
  constructor
  · rintro ⟨h1, h2⟩; exact Int32.le_antisymm h2 h1
  · intro e; rw [e]; exact ⟨Int32.le_refl _, Int32.le_refl _⟩
theorem and_p {q n : Nat} {b : Bool} (h : (decide (q < n) && b) = true) : q < n ∧ b = true := by
  rw [Bool.and_eq_true] at h
  exact ⟨of_decide_eq_true h.1, h.2⟩
theorem and_q {q n : Nat} {b : Bool} (h : (decide (q < n) && b) = false) (hq : q < n) : b = false := by
  rw [decide_eq_true hq, Bool.true_and] at h; exact h
theorem sp_t {S : Nat → Int32} {n q : Nat} (c : (decide (q < n) && inR (S q) (nI 32) (nI 32)) = true) : q < n ∧ (!decide (S q = 32)) = false := by
  obtain ⟨h1, h2⟩ := and_p c
  exact ⟨h1, by rw [decide_eq_true (by32.mp h2)]; rfl⟩
theorem sp_f {S : Nat → Int32} {n q : Nat} (c : (decide (q < n) && inR (S q) (nI 32) (nI 32)) = false) : n ≤ q ∨ (!decide (S q = 32)) = true := by
  rcases Nat.lt_or_ge q n with h | h
  · have h2 := and_q c h
    exact Or.inr (by rw [decide_eq_false (fun e => by rw [by32.mpr e] at h2; cases h2)]; rfl)
  · exact Or.inl h
theorem le_t {S : Nat → Int32} {n q : Nat} (c : (decide (q < n) && inR (S q) (nI 97) (nI 122)) = true) : q < n ∧ isLe (S q) = true := and_p c
theorem le_f {S : Nat → Int32} {n q : Nat} (c : (decide (q < n) && inR (S q) (nI 97) (nI 122)) = false) (h : q < n) : isLe (S q) = false := and_q c h
theorem le_x {S : Nat → Int32} {n q : Nat} (c : (decide (q < n) && inR (S q) (nI 97) (nI 122)) = false) : n ≤ q ∨ (!isLe (S q)) = true := by
  rcases Nat.lt_or_ge q n with h | h
  · exact Or.inr (by rw [le_f c h]; rfl)
  · exact Or.inl h
theorem di_t {S : Nat → Int32} {n q : Nat} (c : (decide (q < n) && inR (S q) (nI 48) (nI 57)) = true) : q < n ∧ isDi (S q) = true := and_p c
theorem di_f {S : Nat → Int32} {n q : Nat} (c : (decide (q < n) && inR (S q) (nI 48) (nI 57)) = false) (h : q < n) : isDi (S q) = false := and_q c h
theorem di_x {S : Nat → Int32} {n q : Nat} (c : (decide (q < n) && inR (S q) (nI 48) (nI 57)) = false) : n ≤ q ∨ (!isDi (S q)) = true := by
  rcases Nat.lt_or_ge q n with h | h
  · exact Or.inr (by rw [di_f c h]; rfl)
  · exact Or.inl h
theorem le_all {S : Nat → Int32} {q r : Nat} (h : ∀ j, q ≤ j → j < r → (!isLe (S j)) = false) : ∀ k, k < r - q → isLe (S (q + k)) = true := fun k hk => by simpa using h (q + k) (by omega) (by omega)
theorem nm_i0 {S : Nat → Int32} {b w z : Nat} (h : ¬ z ≤ 8) : (0 : Int32) = x_b (nmS S b w z 0) := by rw [nmS_0]; unfold nmP; rw [decide_eq_false h]; rfl
theorem nm_i1 {S : Nat → Int32} {b w z : Nat} (h : z = 8) : (1 : Int32) = x_b (nmS S b w z 0) := by rw [nmS_0]; unfold nmP; rw [decide_eq_true (show z ≤ 8 by omega), decide_eq_true h]; rfl
theorem nm_i2 {S : Nat → Int32} {b w z : Nat} (h8 : ¬ z = 8) (c : ¬ x_names.getD (8 * w + z) 0 = 0) : (0 : Int32) = x_b (nmS S b w z 0) := by rw [nmS_0]; unfold nmP; rw [decide_eq_false h8, decide_eq_false c]; simp [x_b]
theorem nm_i3 {S : Nat → Int32} {b w z : Nat} (h : z ≤ 8) (c : x_names.getD (8 * w + z) 0 = 0) : (1 : Int32) = x_b (nmS S b w z 0) := by rw [nmS_0]; unfold nmP; rw [decide_eq_true h, decide_eq_true c]; simp [x_b]
theorem rT_6 {c : Nat} (hc : c < 30) (h : ¬ nI 6 < nI (rT c)) : c ≤ 6 := by
  unfold rT at h
  split at h
  · exact absurd (nI_lt (a := 6) (b := 23) (by decide) (by decide)) h
  · rcases Nat.lt_or_ge 6 c with q | q
    · exact absurd (nI_lt q (by omega)) h
    · exact q
theorem rT_7 {c : Nat} (hc : c < 30) (h : nI 6 < nI (rT c)) : ¬ c ≤ 6 := by
  intro q
  rw [code_r (by omega)] at h
  have := (nI_ltI (a := 6) (b := c) (by decide) (by omega)).mp h
  omega
