/-! TEXTS: tokens and items -/
/-- where it begins, where it ends, what it is, a number's value -/
abbrev x_Tk : Type := Nat × Nat × Nat × Int32
def tkB (t : x_Tk) : Nat := t.1
def tkE (t : x_Tk) : Nat := t.2.1
def tkC (t : x_Tk) : Nat := t.2.2.1
def tkV (t : x_Tk) : Int32 := t.2.2.2
def isLe (b : Int32) : Bool := inR b 97 122
def isDi (b : Int32) : Bool := inR b 48 57
def spE (S : Nat → Int32) (n p : Nat) : Nat := firstN (fun q => !decide (S q = 32)) p (n - p)
def leE (S : Nat → Int32) (n p : Nat) : Nat := firstN (fun q => !isLe (S q)) p (n - p)
def diE (S : Nat → Int32) (n p : Nat) : Nat := firstN (fun q => !isDi (S q)) p (n - p)
def valTo (S : Nat → Int32) (b : Nat) : Nat → Int32
  | 0 => 0
  | k + 1 => minI (valTo S b k * 10 + S (b + k) - 48) 1000
def nmB (S : Nat → Int32) (b e w : Nat) : Bool := decide (e - b = x_slen.getD w 0) && !anyTo (fun k => !decide (S (b + k) = sC w k)) (x_slen.getD w 0)
def codeOf (S : Nat → Int32) (b e : Nat) : Nat := firstN (fun w => nmB S b e w) 0 15
def tokAt (S : Nat → Int32) (n p : Nat) : x_Tk :=
  if n ≤ spE S n p then (spE S n p, spE S n p, 22, 0)
  else if isLe (S (spE S n p)) = true then (spE S n p, leE S n (spE S n p), codeOf S (spE S n p) (leE S n (spE S n p)), 0)
  else if isDi (S (spE S n p)) = true then (spE S n p, diE S n (spE S n p), 20, valTo S (spE S n p) (diE S n (spE S n p) - spE S n p))
  else (spE S n p, spE S n p + 1, if S (spE S n p) = 59 then 21 else 23, 0)
/-- as the class tells what a token is -/
def pT (c : Nat) : Nat := if c = 22 then 0 else if c ≤ 15 then 1 else if c = 20 then 2 else if c = 21 then 3 else 4
def TO (S : Nat → Int32) (n : Nat) (t : x_Tk) : Prop := tkB t ≤ tkE t ∧ tkE t ≤ n ∧ (tkC t ≤ 15 → tkC t = codeOf S (tkB t) (tkE t))
def TW (S : Nat → Int32) (n : Nat) (μ : x_Mem) : Prop := μ 28 1 = nI n ∧ ∀ j, j < n → μ 29 j = S j
def TK (t : x_Tk) (μ : x_Mem) : Prop := μ 28 3 = nI (tkB t) ∧ μ 28 4 = nI (tkE t) ∧ μ 28 2 = nI (pT (tkC t)) ∧ (tkC t = 20 → μ 28 5 = tkV t)
def numOk (t : x_Tk) (most : Int32) : Bool := decide (tkC t = 20) && decide (tkV t ≤ most)
/-- a newcomer's belief and all that follows -/
def newB (S : Nat → Int32) (n : Nat) (a : x_St) (k : Nat) (w : Int32) (t : x_Tk) : Bool × x_St × x_Tk :=
  if tkC t = 8 then
    (if numOk (tokAt S n (tkE t)) 99 = true then (true, comeF a (nI k) w (tkV (tokAt S n (tkE t))), tokAt S n (tkE (tokAt S n (tkE t)))) else (false, a, tokAt S n (tkE t)))
  else (true, comeF a (nI k) w 50, t)
def newF (S : Nat → Int32) (n : Nat) (a : x_St) (k : Nat) (t : x_Tk) : Bool × x_St × x_Tk :=
  if pn a < 8 then
    (if tkC (tokAt S n (tkE t)) = 7 then
      (if numOk (tokAt S n (tkE (tokAt S n (tkE t)))) 16 = true then newB S n a k (tkV (tokAt S n (tkE (tokAt S n (tkE t))))) (tokAt S n (tkE (tokAt S n (tkE (tokAt S n (tkE t)))))) else (false, a, tokAt S n (tkE (tokAt S n (tkE t)))))
     else newB S n a k (-1) (tokAt S n (tkE t)))
  else (false, a, t)
def needF (S : Nat → Int32) (n : Nat) (a : x_St) (t : x_Tk) : Bool × x_St × x_Tk :=
  if numOk (tokAt S n (tkE t)) 15 = true then
    (if numOk (tokAt S n (tkE (tokAt S n (tkE t)))) 999 = true then (true, upd a (8 + (tkV (tokAt S n (tkE t))).toNatClampNeg) (tkV (tokAt S n (tkE (tokAt S n (tkE t))))), tokAt S n (tkE (tokAt S n (tkE (tokAt S n (tkE t)))))) else (false, a, tokAt S n (tkE (tokAt S n (tkE t)))))
  else (false, a, tokAt S n (tkE t))
def putF (S : Nat → Int32) (n : Nat) (a : x_St) (j : Nat) (most : Int32) (t : x_Tk) : Bool × x_St × x_Tk :=
  if numOk (tokAt S n (tkE t)) most = true then (true, upd a j (tkV (tokAt S n (tkE t))), tokAt S n (tkE (tokAt S n (tkE t)))) else (false, a, tokAt S n (tkE t))
def itemF (S : Nat → Int32) (n : Nat) (a : x_St) (t : x_Tk) : Bool × x_St × x_Tk :=
  if tkC t ≤ 6 then newF S n a (tkC t) t else if tkC t = 9 then needF S n a t else if tkC t = 10 then putF S n a 1 16 t else if tkC t = 11 then putF S n a 3 20 t
  else if tkC t = 12 then putF S n a 4 20 t else if tkC t = 13 then (true, upd a 2 1, tokAt S n (tkE t)) else if tkC t = 14 then (true, upd a 2 0, tokAt S n (tkE t)) else (false, a, t)
/-- all items: what is answered, and the line then -/
def tellF (S : Nat → Int32) (n : Nat) : Nat → Nat → x_St → x_Tk → Int32 × x_St
  | 0, _, a, t => (-1 - nI (tkB t), a)
  | f + 1, i, a, t =>
    if (itemF S n a t).1 = true then
      (if tkC (itemF S n a t).2.2 = 22 then (nI (i + 1), (itemF S n a t).2.1)
       else if tkC (itemF S n a t).2.2 = 21 then tellF S n f (i + 1) (itemF S n a t).2.1 (tokAt S n (tkE (itemF S n a t).2.2))
       else (-1 - nI (tkB (itemF S n a t).2.2), (itemF S n a t).2.1))
    else (-1 - nI (tkB (itemF S n a t).2.2), (itemF S n a t).2.1)
def tS (g : x_SG) (j : Nat) : Int32 := (gB g j).toInt8.toInt32
def toldF (g : x_SG) : Int32 × x_St := tellF (tS g) (gT g) 121 0 (gA g) (tokAt (tS g) (gT g) 0)
def F_text (g : x_SG) : Int32 × x_SG := ((toldF g).1, if (toldF g).1 < 0 then sT g 0 (gB g) else sA (sT g 0 (gB g)) (toldF g).2)
-- pure facts
theorem run_end {f : Nat → Bool} {n p q : Nat} (hp : p ≤ q) (hq : q ≤ n) (h : ∀ j, p ≤ j → j < q → f j = false) (hx : n ≤ q ∨ f q = true) : firstN f p (n - p) = q := by
  by_cases e : q < n
  · exact firstN_gen f q (n - p) p hp (by omega) (hx.elim (fun z => absurd z (by omega)) id) h
  · rw [firstN_ngen f (n - p) p (fun j h1 h2 => h j h1 (by omega))]
    omega
theorem run_le (f : Nat → Bool) {n p : Nat} (hp : p ≤ n) : p ≤ firstN f p (n - p) ∧ firstN f p (n - p) ≤ n := by
  have h1 := firstN_le f (n - p) p
  refine ⟨?_, by omega⟩
  have : ∀ k s, s ≤ firstN f s k := by
    intro k
    induction k with
    | zero => intro s; exact Nat.le_refl s
    | succ k ih =>
      intro s
      unfold firstN
      split
      · exact Nat.le_refl s
      · have := ih (s + 1); omega
  exact this _ _
theorem code_le (S : Nat → Int32) (b e : Nat) : codeOf S b e ≤ 15 := by
  have := firstN_le (fun w => nmB S b e w) 15 0
  unfold codeOf
  omega
theorem pT_0 {c : Nat} : nI (pT c) = 0 ↔ c = 22 := by
  unfold pT
  constructor
  · intro h
    by_cases q : c = 22
    · exact q
    · rw [if_neg q] at h
      split at h <;> (try split at h) <;> (try split at h) <;> exact absurd h (by decide)
  · intro h; rw [if_pos h]; rfl
theorem pT_1 {c : Nat} : nI (pT c) = 1 ↔ c ≤ 15 := by
  unfold pT
  constructor
  · intro h
    by_cases q : c ≤ 15
    · exact q
    · rw [if_neg q] at h
      split at h <;> (try split at h) <;> (try split at h) <;> exact absurd h (by decide)
  · intro h; rw [if_neg (by omega), if_pos h]; rfl
theorem pT_2 {c : Nat} : nI (pT c) = 2 ↔ c = 20 := by
  unfold pT
  constructor
  · intro h
    by_cases q : c = 20
    · exact q
    · rw [if_neg (show ¬ c = 20 from q)] at h
      split at h <;> (try split at h) <;> (try split at h) <;> exact absurd h (by decide)
  · intro h; rw [if_neg (by omega), if_neg (by omega), if_pos h]; rfl
theorem pT_3 {c : Nat} : nI (pT c) = 3 ↔ c = 21 := by
  unfold pT
  constructor
  · intro h
    by_cases q : c = 21
    · exact q
    · rw [if_neg (show ¬ c = 21 from q)] at h
      split at h <;> (try split at h) <;> (try split at h) <;> exact absurd h (by decide)
  · intro h; rw [if_neg (by omega), if_neg (by omega), if_neg (by omega), if_pos h]; rfl
theorem tok_end {S : Nat → Int32} {n p q : Nat} (h : spE S n p = q) (hq : n ≤ q) : tokAt S n p = (q, q, 22, 0) := by
  unfold tokAt
  rw [h, if_pos hq]
theorem tok_word {S : Nat → Int32} {n p q r : Nat} (h : spE S n p = q) (hq : q < n) (hl : isLe (S q) = true) (hr : leE S n q = r) : tokAt S n p = (q, r, codeOf S q r, 0) := by
  unfold tokAt
  rw [h, if_neg (by omega), if_pos hl, hr]
theorem tok_num {S : Nat → Int32} {n p q r : Nat} (h : spE S n p = q) (hq : q < n) (hl : isLe (S q) = false) (hd : isDi (S q) = true) (hr : diE S n q = r) : tokAt S n p = (q, r, 20, valTo S q (r - q)) := by
  unfold tokAt
  rw [h, if_neg (by omega), if_neg (by rw [hl]; decide), if_pos hd, hr]
theorem tok_oth {S : Nat → Int32} {n p q : Nat} (h : spE S n p = q) (hq : q < n) (hl : isLe (S q) = false) (hd : isDi (S q) = false) : tokAt S n p = (q, q + 1, if S q = 59 then 21 else 23, 0) := by
  unfold tokAt
  rw [h, if_neg (by omega), if_neg (by rw [hl]; decide), if_neg (by rw [hd]; decide)]
theorem tok_TO (S : Nat → Int32) {n p : Nat} (hp : p ≤ n) : TO S n (tokAt S n p) := by
  have h1 := run_le (fun q => !decide (S q = 32)) hp
  have hq : spE S n p ≤ n := h1.2
  by_cases e : n ≤ spE S n p
  · rw [tok_end rfl e]; exact ⟨Nat.le_refl _, hq, fun z => absurd z (show ¬ (22 : Nat) ≤ 15 by decide)⟩
  · by_cases hl : isLe (S (spE S n p)) = true
    · have h2 := run_le (fun q => !isLe (S q)) hq
      rw [tok_word rfl (by omega) hl rfl]
      exact ⟨h2.1, h2.2, fun _ => rfl⟩
    · have hl' := Bool.eq_false_iff.mpr hl
      by_cases hd : isDi (S (spE S n p)) = true
      · have h2 := run_le (fun q => !isDi (S q)) hq
        rw [tok_num rfl (by omega) hl' hd rfl]
        exact ⟨h2.1, h2.2, fun z => absurd z (show ¬ (20 : Nat) ≤ 15 by decide)⟩
      · rw [tok_oth rfl (by omega) hl' (Bool.eq_false_iff.mpr hd)]
        refine ⟨Nat.le_succ _, by show spE S n p + 1 ≤ n; omega, fun z => absurd z ?_⟩
        show ¬ (if S (spE S n p) = 59 then 21 else 23) ≤ 15
        split <;> decide
theorem words_ne : ∀ w, w < 15 → ∀ i, i < 15 → x_slen.getD w 0 = x_slen.getD i 0 → (∀ k, k < x_slen.getD i 0 → sC w k = sC i k) → w = i := by decide +kernel
theorem nm_iff {S : Nat → Int32} {b e w : Nat} : nmB S b e w = true ↔ e - b = x_slen.getD w 0 ∧ ∀ k, k < x_slen.getD w 0 → S (b + k) = sC w k := by
  unfold nmB
  constructor
  · intro h
    obtain ⟨h1, h2⟩ := (Bool.and_eq_true _ _).mp h |> (fun z => (⟨z.1, z.2⟩ : _ ∧ _))
    refine ⟨of_decide_eq_true h1, fun k hk => ?_⟩
    by_cases q : S (b + k) = sC w k
    · exact q
    · have := anyTo_t (f := fun k => !decide (S (b + k) = sC w k)) (p := k) hk (by simp [q])
      rw [this] at h2
      cases h2
  · rintro ⟨h1, h2⟩
    rw [decide_eq_true h1, anyTo_f (f := fun k => !decide (S (b + k) = sC w k)) (fun k hk => by simp [h2 k hk])]
    rfl
theorem code_iff {S : Nat → Int32} {b e i : Nat} (hi : i < 15) : codeOf S b e = i ↔ nmB S b e i = true := by
  constructor
  · intro h
    by_cases q : nmB S b e i = true
    · exact q
    · exfalso
      -- the first that fits is i itself
      have hf : ∀ n s, firstN (fun w => nmB S b e w) s n = i → s ≤ i → i < s + n → nmB S b e i = true := by
        intro n
        induction n with
        | zero => intro s _ h1 h2; omega
        | succ n ih =>
          intro s h1 h2 h3
          unfold firstN at h1
          by_cases z : nmB S b e s = true
          · rw [if_pos z] at h1; rw [← h1]; exact z
          · rw [if_neg z] at h1
            have := firstN_le (fun w => nmB S b e w) n (s + 1)
            by_cases z2 : s = i
            · have h4 : ∀ k s, s ≤ firstN (fun w => nmB S b e w) s k := by
                intro k
                induction k with
                | zero => intro s; exact Nat.le_refl s
                | succ k ih2 =>
                  intro s
                  unfold firstN
                  split
                  · exact Nat.le_refl s
                  · have := ih2 (s + 1); omega
              have := h4 n (s + 1)
              omega
            · exact ih (s + 1) h1 (by omega) (by omega)
      exact q (hf 15 0 h (by omega) (by omega))
  · intro h
    obtain ⟨h1, h2⟩ := nm_iff.mp h
    refine firstN_some hi h (fun j hj => ?_)
    refine Bool.eq_false_iff.mpr (fun z => ?_)
    obtain ⟨g1, g2⟩ := nm_iff.mp z
    have := words_ne j (by omega) i hi (by omega) (fun k hk => by rw [← g2 k (by omega), h2 k hk])
    omega
theorem lt_r {P : Nat → Prop} {p n : Nat} (h : ∀ j, p ≤ j → j < n → P j) (hn : P n) : ∀ j, p ≤ j → j < n + 1 → P j := fun j h0 hj => by
  rcases Nat.lt_or_ge j n with q | q
  · exact h j h0 q
  · rw [show j = n by omega]; exact hn
theorem val_up {S : Nat → Int32} {q r : Nat} {x : Int32} (hq : q ≤ r) (h : x = minI (valTo S q (r - q) * 10 + S r - 48) 1000) : x = valTo S q (r + 1 - q) := by
  rw [show r + 1 - q = (r - q) + 1 by omega]
  unfold valTo
  rw [show q + (r - q) = r by omega]
  exact h
theorem TW.cg {S : Nat → Int32} {n : Nat} {μ μ' : x_Mem} (h : TW S n μ) (e : ∀ id, id = 28 ∨ id = 29 → μ' id = μ id) : TW S n μ' := ⟨by rw [e 28 (Or.inl rfl)]; exact h.1, fun j hj => by rw [e 29 (Or.inr rfl)]; exact h.2 j hj⟩
theorem TK.cg {t : x_Tk} {μ μ' : x_Mem} (h : TK t μ) (e : ∀ id, id = 28 → μ' id = μ id) : TK t μ' := by unfold TK; rw [e 28 rfl]; exact h
