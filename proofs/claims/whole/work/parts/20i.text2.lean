/-! TEXTS 2 -/
theorem num_20 {t : x_Tk} {most : Int32} (h : numOk t most = true) : tkC t = 20 := by
  unfold numOk at h
  by_cases q : tkC t = 20
  · exact q
  · rw [decide_eq_false q] at h; cases h
theorem val_nat {S : Nat → Int32} {b : Nat} : ∀ k, (∀ j, j < k → isDi (S (b + j)) = true) → ∃ m, m ≤ 1000 ∧ valTo S b k = nI m
  | 0, _ => ⟨0, by decide, rfl⟩
  | k + 1, h => by
    obtain ⟨m, hm, e⟩ := val_nat k (fun j hj => h j (by omega))
    obtain ⟨d, hd, ed⟩ := inR_nat2 (a := 48) (n := 57) (by decide) (by decide) (h k (by omega))
    unfold valTo
    rw [e, ed, show (10 : Int32) = nI 10 from rfl, pk_mul, nI_add, show (48 : Int32) = nI 48 from rfl, pk_sub (by omega)]
    rw [show minI (nI (m * 10 + d - 48)) 1000 = (if nI 1000 < nI (m * 10 + d - 48) then nI 1000 else nI (m * 10 + d - 48)) from rfl]
    by_cases q : 1000 < m * 10 + d - 48
    · exact ⟨1000, by decide, by rw [if_pos (nI_lt (a := 1000) q (by omega))]⟩
    · exact ⟨m * 10 + d - 48, by omega, by rw [if_neg (fun z => q ((nI_ltI (a := 1000) (by decide) (by omega)).mp z))]⟩
theorem run_all {f : Nat → Bool} {n p : Nat} (hp : p ≤ n) : ∀ j, p ≤ j → j < firstN f p (n - p) → f j = false := by
  have key : ∀ k s j, s ≤ j → j < firstN f s k → f j = false := by
    intro k
    induction k with
    | zero => intro s j h1 h2; exact absurd h2 (Nat.not_lt.mpr h1)
    | succ k ih =>
      intro s j h1 h2
      unfold firstN at h2
      by_cases q : f s = true
      · rw [if_pos q] at h2; omega
      · rw [if_neg q] at h2
        by_cases z : s = j
        · subst z; exact Bool.eq_false_iff.mpr q
        · exact ih (s + 1) j (by omega) h2
  exact fun j => key (n - p) p j
theorem tok_val {S : Nat → Int32} {n p : Nat} (hp : p ≤ n) : ∃ m, m ≤ 1000 ∧ tkV (tokAt S n p) = nI m := by
  have h1 := run_le (fun q => !decide (S q = 32)) hp
  have hq : spE S n p ≤ n := h1.2
  by_cases e : n ≤ spE S n p
  · rw [tok_end rfl e]; exact ⟨0, by decide, rfl⟩
  · by_cases hl : isLe (S (spE S n p)) = true
    · rw [tok_word rfl (by omega) hl rfl]; exact ⟨0, by decide, rfl⟩
    · have hl' := Bool.eq_false_iff.mpr hl
      by_cases hd : isDi (S (spE S n p)) = true
      · rw [tok_num rfl (by omega) hl' hd rfl]
        refine val_nat _ (fun j hj => ?_)
        have := run_all (f := fun q => !isDi (S q)) hq (spE S n p + j) (by omega) (by show _ < diE S n (spE S n p); omega)
        simpa using this
      · rw [tok_oth rfl (by omega) hl' (Bool.eq_false_iff.mpr hd)]; exact ⟨0, by decide, rfl⟩
theorem num_nat {S : Nat → Int32} {n N : Nat} {t : x_Tk} (hO : TO S n t) (h : numOk (tokAt S n (tkE t)) (nI N) = true) (hN : N < 2 ^ 31) : ∃ k, k ≤ N ∧ tkV (tokAt S n (tkE t)) = nI k := by
  obtain ⟨m, hm, e⟩ := tok_val (S := S) hO.2.1
  refine ⟨m, ?_, e⟩
  unfold numOk at h
  have h2 := of_decide_eq_true ((Bool.and_eq_true _ _ ▸ h : _ ∧ _).2)
  rw [e] at h2
  exact (nI_leI (by omega) hN).mp h2
theorem WF.come {a : x_St} (h : WF a) (hp : pn a < 8) {k b : Nat} (hk : k < 7) {w : Int32} (hw : w = -1 ∨ ∃ m, m < 17 ∧ w = nI m) (hb : b < 100) : WF (comeF a (nI k) w (nI b)) := by
  obtain ⟨g1, g2, g3, g4, g5, g6⟩ := h
  have e7 : comeF a (nI k) w (nI b) 7 = nI (pn a + 1) := by
    unfold comeF
    rw [upd_s, nI_1]
  have ep : pn (comeF a (nI k) w (nI b)) = pn a + 1 := by
    unfold pn at *
    rw [e7, nI_clamp (by omega)]
  refine ⟨by omega, by rw [ep]; exact e7, fun p hp8 => ?_, fun p hp8 => ?_, fun p hp8 => ?_, ?_⟩
  · by_cases q : p = pn a
    · subst q; refine ⟨k, hk, ?_⟩; unfold comeF; simp [upd]; try omega
    · obtain ⟨x, hx, e⟩ := g3 p hp8; refine ⟨x, hx, ?_⟩; rw [← e]; unfold comeF; repeat rw [upd_n _ _ (by omega)]
  · by_cases q : p = pn a
    · subst q
      have : comeF a (nI k) w (nI b) (24 + 3 * pn a + 1) = w := by unfold comeF; simp [upd]; try omega
      rw [this]; exact hw
    · have : comeF a (nI k) w (nI b) (24 + 3 * p + 1) = a (24 + 3 * p + 1) := by unfold comeF; repeat rw [upd_n _ _ (by omega)]
      rw [this]; exact g4 p hp8
  · by_cases q : p = pn a
    · subst q; refine ⟨b, hb, ?_⟩; unfold comeF; simp [upd]; try omega
    · obtain ⟨x, hx, e⟩ := g5 p hp8; refine ⟨x, hx, ?_⟩; rw [← e]; unfold comeF; repeat rw [upd_n _ _ (by omega)]
  · have e : ∀ j, j < 7 → comeF a (nI k) w (nI b) j = a j := fun j hj => by unfold comeF; repeat rw [upd_n _ _ (by omega)]
    rw [e 1 (by decide), e 2 (by decide), e 3 (by decide), e 4 (by decide), e 5 (by decide)]
    exact g6
theorem newB_ok {S : Nat → Int32} {n : Nat} {a : x_St} {t : x_Tk} (h : WF a) (hO : TO S n t) (hp : pn a < 8) {k : Nat} (hk : k < 7) {w : Int32} (hw : w = -1 ∨ ∃ m, m < 17 ∧ w = nI m) : WF (newB S n a k w t).2.1 ∧ TO S n (newB S n a k w t).2.2 := by
  have o1 := tok_TO S hO.2.1
  unfold newB
  split
  · split
    · next q =>
      obtain ⟨b, hb, e⟩ := num_nat (N := 99) hO q (by decide)
      refine ⟨?_, tok_TO S o1.2.1⟩
      show WF (comeF a (nI k) w (tkV (tokAt S n (tkE t))))
      rw [e]
      exact h.come hp hk hw (by omega)
    · exact ⟨h, o1⟩
  · exact ⟨h.come (b := 50) hp hk hw (by decide), hO⟩
theorem newF_ok {S : Nat → Int32} {n : Nat} {a : x_St} {t : x_Tk} (h : WF a) (hO : TO S n t) {k : Nat} (hk : k < 7) : WF (newF S n a k t).2.1 ∧ TO S n (newF S n a k t).2.2 := by
  have o1 := tok_TO S hO.2.1
  have o2 := tok_TO S o1.2.1
  unfold newF
  split
  · next hp =>
    split
    · split
      · next q =>
        obtain ⟨b, hb, e⟩ := num_nat (N := 16) o1 q (by decide)
        exact newB_ok h (tok_TO S o2.2.1) hp hk (Or.inr ⟨b, by omega, e⟩)
      · exact ⟨h, o2⟩
    · exact newB_ok h o1 hp hk (Or.inl rfl)
  · exact ⟨h, hO⟩
theorem needF_ok {S : Nat → Int32} {n : Nat} {a : x_St} {t : x_Tk} (h : WF a) (hO : TO S n t) : WF (needF S n a t).2.1 ∧ TO S n (needF S n a t).2.2 := by
  have o1 := tok_TO S hO.2.1
  have o2 := tok_TO S o1.2.1
  unfold needF
  split
  · next q =>
    obtain ⟨b, hb, e⟩ := num_nat (N := 15) hO q (by decide)
    split
    · refine ⟨?_, tok_TO S o2.2.1⟩
      show WF (upd a (8 + (tkV (tokAt S n (tkE t))).toNatClampNeg) _)
      rw [e, nI_clamp (by omega)]
      exact h.upN (Or.inr (Or.inr (Or.inl (by omega)))) _
    · exact ⟨h, o2⟩
  · exact ⟨h, o1⟩
theorem putF_ok {S : Nat → Int32} {n : Nat} {a : x_St} {t : x_Tk} (h : WF a) (hO : TO S n t) {j N : Nat} (hN : N < 2 ^ 31) (hj : ∀ m, m ≤ N → WF (upd a j (nI m))) : WF (putF S n a j (nI N) t).2.1 ∧ TO S n (putF S n a j (nI N) t).2.2 := by
  have o1 := tok_TO S hO.2.1
  unfold putF
  split
  · next q =>
    obtain ⟨b, hb, e⟩ := num_nat hO q hN
    refine ⟨?_, tok_TO S o1.2.1⟩
    show WF (upd a j (tkV (tokAt S n (tkE t))))
    rw [e]
    exact hj b hb
  · exact ⟨h, o1⟩
theorem WF.upGn {a : x_St} (h : WF a) {j m : Nat} (hj : j = 3 ∨ j = 4) (hm : m ≤ 20) : WF (upd a j (nI m)) := h.upG (by omega) (fun _ _ _ => by omega) (fun _ _ _ => by omega) (fun _ _ _ => by omega) (fun _ => by omega) (fun _ => by omega) (fun _ => ⟨m, by omega, rfl⟩) (fun _ => ⟨m, by omega, rfl⟩) (fun _ => by omega)
theorem WF.upNi {a : x_St} (h : WF a) {x : Int32} (hx : x = 0 ∨ x = 1) : WF (upd a 2 x) := h.upG (by omega) (fun _ _ _ => by omega) (fun _ _ _ => by omega) (fun _ _ _ => by omega) (fun _ => by omega) (fun _ => hx) (fun _ => by omega) (fun _ => by omega) (fun _ => by omega)
theorem item_ok {S : Nat → Int32} {n : Nat} {a : x_St} {t : x_Tk} (h : WF a) (hO : TO S n t) : WF (itemF S n a t).2.1 ∧ TO S n (itemF S n a t).2.2 := by
  have o1 := tok_TO S hO.2.1
  unfold itemF
  split
  · exact newF_ok h hO (by omega)
  · split
    · exact needF_ok h hO
    · split
      · exact putF_ok (N := 16) h hO (by decide) (fun m hm => h.up1 (by omega))
      · split
        · exact putF_ok (N := 20) h hO (by decide) (fun m hm => h.upGn (Or.inl rfl) hm)
        · split
          · exact putF_ok (N := 20) h hO (by decide) (fun m hm => h.upGn (Or.inr rfl) hm)
          · split
            · exact ⟨h.upNi (Or.inr rfl), o1⟩
            · split
              · exact ⟨h.upNi (Or.inl rfl), o1⟩
              · exact ⟨h, hO⟩
-- the items one by one
theorem tell_0 {S : Nat → Int32} {n f i : Nat} {a : x_St} {t : x_Tk} (hf : f = 0) : tellF S n f i a t = (-1 - nI (tkB t), a) := by subst hf; rfl
theorem tell_n {S : Nat → Int32} {n i : Nat} {a : x_St} {t : x_Tk} (hi : i < 121) (c : (itemF S n a t).1 = false) : tellF S n (121 - i) i a t = (-1 - nI (tkB (itemF S n a t).2.2), (itemF S n a t).2.1) := by
  obtain ⟨f, e⟩ : ∃ f, 121 - i = f + 1 := ⟨120 - i, by omega⟩
  rw [e]
  unfold tellF
  rw [if_neg (by rw [c]; decide)]
theorem tell_e {S : Nat → Int32} {n i : Nat} {a : x_St} {t : x_Tk} (hi : i < 121) (c : (itemF S n a t).1 = true) (c2 : tkC (itemF S n a t).2.2 = 22) : tellF S n (121 - i) i a t = (nI (i + 1), (itemF S n a t).2.1) := by
  obtain ⟨f, e⟩ : ∃ f, 121 - i = f + 1 := ⟨120 - i, by omega⟩
  rw [e]
  unfold tellF
  rw [if_pos c, if_pos c2]
theorem tell_o {S : Nat → Int32} {n i : Nat} {a : x_St} {t : x_Tk} (hi : i < 121) (c : (itemF S n a t).1 = true) (c2 : ¬ tkC (itemF S n a t).2.2 = 22) (c3 : ¬ tkC (itemF S n a t).2.2 = 21) : tellF S n (121 - i) i a t = (-1 - nI (tkB (itemF S n a t).2.2), (itemF S n a t).2.1) := by
  obtain ⟨f, e⟩ : ∃ f, 121 - i = f + 1 := ⟨120 - i, by omega⟩
  rw [e]
  unfold tellF
  rw [if_pos c, if_neg c2, if_neg c3]
theorem tell_s {S : Nat → Int32} {n i : Nat} {a : x_St} {t : x_Tk} (hi : i < 121) (c : (itemF S n a t).1 = true) (c3 : tkC (itemF S n a t).2.2 = 21) : tellF S n (121 - i) i a t = tellF S n (121 - (i + 1)) (i + 1) (itemF S n a t).2.1 (tokAt S n (tkE (itemF S n a t).2.2)) := by
  obtain ⟨f, e⟩ : ∃ f, 121 - i = f + 1 := ⟨120 - i, by omega⟩
  rw [e, show 121 - (i + 1) = f by omega]
  rw [tellF]
  rw [if_pos c, if_neg (by omega), if_pos c3]
theorem item_0 (S : Nat → Int32) (n : Nat) (a : x_St) (t : x_Tk) : (itemF S n a t).2.1 0 = a 0 := by
  have hc : ∀ k w b, comeF a k w b 0 = a 0 := fun k w b => by unfold comeF; repeat rw [upd_n _ _ (by omega)]
  have hb : ∀ k w u, (newB S n a k w u).2.1 0 = a 0 := fun k w u => by
    unfold newB
    split
    · split
      · exact hc (nI k) w (tkV (tokAt S n (tkE u)))
      · rfl
    · exact hc (nI k) w 50
  have hp : ∀ j m, j ≠ 0 → (putF S n a j m t).2.1 0 = a 0 := fun j m hj => by
    unfold putF
    split
    · show upd a j _ 0 = a 0; exact upd_n _ _ (fun q => hj q.symm)
    · rfl
  unfold itemF
  split
  · unfold newF
    split
    · split
      · split
        · exact hb _ _ _
        · rfl
      · exact hb _ _ _
    · rfl
  · split
    · unfold needF
      split
      · split
        · show upd a _ _ 0 = a 0; exact upd_n _ _ (by omega)
        · rfl
      · rfl
    · split
      · exact hp _ _ (by decide)
      · split
        · exact hp _ _ (by decide)
        · split
          · exact hp _ _ (by decide)
          · split
            · show upd a 2 1 0 = a 0; exact upd_n _ _ (by decide)
            · split
              · show upd a 2 0 0 = a 0; exact upd_n _ _ (by decide)
              · rfl
theorem tell_hour (S : Nat → Int32) (n : Nat) : ∀ f i a t, (tellF S n f i a t).2 0 = a 0
  | 0, _, a, _ => rfl
  | f + 1, i, a, t => by
    have h := item_0 S n a t
    unfold tellF
    split
    · split
      · exact h
      · split
        · exact (tell_hour S n f _ _ _).trans h
        · exact h
    · exact h
