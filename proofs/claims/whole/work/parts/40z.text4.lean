/-! THE REFERENCE: texts, the last rows -/
theorem newB_c {S : Nat → Int32} {n : Nat} {a : x_St} {k : Nat} {w : Int32} {t : x_Tk} (hc : tkC t < 30) : tkC (newB S n a k w t).2.2 < 30 := by
  unfold newB
  split
  · split
    · exact tok_c S n _
    · exact tok_c S n _
  · exact hc
theorem putF_c {S : Nat → Int32} {n : Nat} {a : x_St} {j : Nat} {m : Int32} {t : x_Tk} : tkC (putF S n a j m t).2.2 < 30 := by
  unfold putF
  split <;> exact tok_c S n _
theorem item_c {S : Nat → Int32} {n : Nat} {a : x_St} {t : x_Tk} (hc : tkC t < 30) : tkC (itemF S n a t).2.2 < 30 := by
  unfold itemF
  split
  · unfold newF
    split
    · split
      · split
        · exact newB_c (tok_c S n _)
        · exact tok_c S n _
      · exact newB_c (tok_c S n _)
    · exact hc
  · split
    · unfold needF
      split
      · split <;> exact tok_c S n _
      · exact tok_c S n _
    · split
      · exact putF_c
      · split
        · exact putF_c
        · split
          · exact putF_c
          · split
            · exact tok_c S n _
            · split
              · exact tok_c S n _
              · exact hc
theorem tak_B {B : Bool} {t : x_Tk} {w : Nat} (h : takB B t w = true) : B = false ∧ tkC t = w := by
  unfold takB at h
  rw [Bool.and_eq_true] at h
  exact ⟨by simpa using h.1, of_decide_eq_true h.2⟩
theorem tak_N {B : Bool} {t : x_Tk} {w : Nat} (h : takB B t w = false) (hB : B = false) : ¬ tkC t = w := by
  subst hB
  exact tak_0 h
theorem not_t {b : Bool} (h : (!b) = false) : b = true := by simpa using h
theorem not_f {b : Bool} (h : (!b) = true) : b = false := by simpa using h
theorem item_1 {S : Nat → Int32} {n p i : Nat} {a : x_St} (hp : p ≤ n) (hi : i ≤ p) (h : (itemF S n a (tokAt S n p)).1 = true) : i + 1 ≤ tkB (itemF S n a (tokAt S n p)).2.2 := by
  have h1 := item_go (tok_TO S hp) (fun q => tok_lt hp (by omega)) h
  have h2 := tok_ge (S := S) hp
  omega
theorem text_ok {g : x_SG} {i : Nat} {r : Bool × x_St × x_Tk} {S : Nat → Int32} {n : Nat} (hS : S = tS g) (hn : n = gT g) (hi : i ≤ 121) (h : tellF S n 121 0 (gA g) (tokAt S n 0) = tellR S n (121 - i) i r) (h1 : r.1 = true) (h2 : tkC r.2.2 = 22) : F_text g = (nI i, sA (sT g 0 (gB g)) r.2.1) := by
  have e : toldF g = (nI i, r.2.1) := by
    unfold toldF
    rw [← hS, ← hn, h]
    exact tell_22 h1 h2
  unfold F_text
  rw [e, if_neg (nI_pos (n := i) (by omega))]
theorem text_no {g : x_SG} {i : Nat} {r : Bool × x_St × x_Tk} {S : Nat → Int32} {n : Nat} (hS : S = tS g) (hn : n = gT g) (hb : tkB r.2.2 ≤ 120) (h : tellF S n 121 0 (gA g) (tokAt S n 0) = tellR S n (121 - i) i r) (h1 : r.1 = false ∨ (¬ tkC r.2.2 = 22 ∧ ¬ tkC r.2.2 = 21)) : F_text g = (-1 - nI (tkB r.2.2), sT g 0 (gB g)) := by
  have e : ∃ a, toldF g = (-1 - nI (tkB r.2.2), a) := by
    refine ⟨r.2.1, ?_⟩
    unfold toldF
    rw [← hS, ← hn, h]
    rcases h1 with h1 | h1
    · exact tell_no h1
    · exact tell_ot h1.1 h1.2
  obtain ⟨a, e⟩ := e
  unfold F_text
  rw [e, if_pos (neg_ans hb)]
