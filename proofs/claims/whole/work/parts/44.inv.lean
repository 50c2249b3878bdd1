/-! WHAT ALWAYS HOLDS, kept by every call -/
theorem ride_keep {a : x_St} (h : WF a) {j : Nat} (hj : (8 ≤ j ∧ j < 24) ∨ 48 ≤ j) : rideF a j = a j := by
  unfold rideF
  split
  · split
    · rw [moveTo_same _ _ _ h.1 j (by omega), upd_n _ _ (by omega)]
    · rw [moveTo_same _ _ _ h.1 j (by omega), upd_n _ _ (by omega)]
  · rfl
theorem hour_keep {a : x_St} (h : WF a) {j : Nat} (hj : (8 ≤ j ∧ j < 24) ∨ 48 ≤ j) : hourF a j = a j := by
  rw [hourF_n (by omega)]
  unfold swayF
  rw [swayTo_same _ _ h.ride.1.1 j (by omega), ride_keep h hj]
theorem LI.hour {a : x_St} (h : LI a) {m : Nat} (e : a 0 = nI m) (hm : m + 1 < 100000) : LI (hourF a) := by
  obtain ⟨h1, h2, h3, h4⟩ := h
  refine ⟨h1.hour, fun k hk => ?_, fun j hj => ?_, m + 1, hm, ?_⟩
  · rw [hour_keep h1 (by omega)]; exact h2 k hk
  · rw [hour_keep h1 (by omega), hourF_pn h1]; exact h3 j hj
  · rw [hourF_0, e, nI_1]
theorem LI.hours {a : x_St} (h : LI a) {m : Nat} (e : a 0 = nI m) : ∀ n, m + n < 100000 → LI (hoursF a n)
  | 0, _ => h
  | n + 1, hn => (LI.hours h e n (by omega)).hour (m := m + n) (clock_le e (by omega) n (Nat.le_refl n)).2 (by omega)
theorem LI.up {a : x_St} (h : LI a) {j : Nat} {x : Int32} (hW : WF (upd a j x)) (h0 : j ≠ 0) (h7 : j ≠ 7) (hn : ∀ k, k < 16 → j = 8 + k → ∃ n, n < 1000 ∧ x = nI n) (hs : ∀ i, i < 10 → j = 48 + i → x = -1 ∨ ∃ p, p < pn a ∧ x = nI p) : LI (upd a j x) := by
  obtain ⟨h1, h2, h3, h4⟩ := h
  refine ⟨hW, fun k hk => ?_, fun i hi => ?_, ?_⟩
  · by_cases q : 8 + k = j
    · rw [← q, upd_s]; exact hn k hk q.symm
    · rw [upd_n _ _ q]; exact h2 k hk
  · rw [upd_pn h7]
    by_cases q : 48 + i = j
    · rw [← q, upd_s]; exact hs i hi q.symm
    · rw [upd_n _ _ q]; exact h3 i hi
  · rw [upd_n _ _ (by omega)]; exact h4
theorem LI.upNeed {a : x_St} (h : LI a) {k v : Nat} (hk : k < 16) (hv : v < 1000) : LI (upd a (8 + k) (nI v)) := h.up (h.1.upN (by omega) _) (by omega) (by omega) (fun _ _ _ => ⟨v, hv, rfl⟩) (fun _ _ _ => by omega)
theorem LI.upP {a : x_St} (h : LI a) {j : Nat} {x : Int32} (hW : WF (upd a j x)) (hj : j ≠ 0 ∧ j < 7 ∨ (24 ≤ j ∧ j < 48)) : LI (upd a j x) := h.up hW (by omega) (by omega) (fun _ _ _ => by omega) (fun _ _ _ => by omega)
theorem LI.gold {a : x_St} (h : LI a) {m : Nat} (e : a 0 = nI m) : ∀ n, m + n < 100000 → LI (goldF a n)
  | 0, _ => h
  | n + 1, hn => by
    have ih := LI.gold h e n (by omega)
    have hd := dr_lt (goldF a n)
    rw [goldF_s]
    obtain ⟨v, hv, ev⟩ := ih.2.1 _ hd
    obtain ⟨w, hw, ew⟩ := max_need hv
    have e1 : maxI 0 (goldF a n (8 + dr (goldF a n)) - 10) = nI w := by rw [ev, ew]
    rw [e1]
    have h6 : LI (upd (goldF a n) 6 (zF (goldF a n))) := ih.upP (ih.1.upN (Or.inr (Or.inl rfl)) _) (by omega)
    refine (h6.upNeed hd hw).hour (m := m + n) ?_ (by omega)
    rw [upd_n _ _ (by omega), upd_n _ _ (by omega), gold_clock (n := n) e (by omega) n (Nat.le_refl n)]
theorem come_pn {a : x_St} (hp : pn a < 8) (k w b : Int32) : pn (comeF a k w b) = pn a + 1 := by
  have e7 : comeF a k w b 7 = nI (pn a + 1) := by
    unfold comeF
    rw [upd_s, nI_1]
  show (comeF a k w b 7).toNatClampNeg = _
  rw [e7, nI_clamp (by omega)]
theorem come_keep {a : x_St} (hp : pn a < 8) (k w b : Int32) {j : Nat} (hj : j = 0 ∨ (8 ≤ j ∧ j < 24) ∨ 48 ≤ j) : comeF a k w b j = a j := by
  unfold comeF
  repeat rw [upd_n _ _ (by omega)]
theorem LI.come {a : x_St} (h : LI a) (hp : pn a < 8) {k b : Nat} (hk : k < 7) {w : Int32} (hw : w = -1 ∨ ∃ m, m < 17 ∧ w = nI m) (hb : b < 100) : LI (comeF a (nI k) w (nI b)) := by
  obtain ⟨h1, h2, h3, h4⟩ := h
  refine ⟨h1.come hp hk hw hb, fun k hk => ?_, fun j hj => ?_, ?_⟩
  · rw [come_keep hp _ _ _ (by omega)]; exact h2 k hk
  · rw [come_keep hp _ _ _ (by omega), come_pn hp]
    rcases h3 j hj with q | ⟨p, q1, q2⟩
    · exact Or.inl q
    · exact Or.inr ⟨p, by omega, q2⟩
  · rw [come_keep hp _ _ _ (by omega)]; exact h4
-- texts
theorem newB_li {S : Nat → Int32} {n : Nat} {a : x_St} {t : x_Tk} (h : LI a) (hO : TO S n t) (hp : pn a < 8) {k : Nat} (hk : k < 7) {w : Int32} (hw : w = -1 ∨ ∃ m, m < 17 ∧ w = nI m) : LI (newB S n a k w t).2.1 := by
  unfold newB
  split
  · split
    · next q =>
      obtain ⟨b, hb, e⟩ := num_nat (N := 99) hO q (by decide)
      show LI (comeF a (nI k) w (tkV (tokAt S n (tkE t))))
      rw [e]
      exact h.come hp hk hw (by omega)
    · exact h
  · exact h.come (b := 50) hp hk hw (by decide)
theorem newF_li {S : Nat → Int32} {n : Nat} {a : x_St} {t : x_Tk} (h : LI a) (hO : TO S n t) {k : Nat} (hk : k < 7) : LI (newF S n a k t).2.1 := by
  have o1 := tok_TO S hO.2.1
  have o2 := tok_TO S o1.2.1
  unfold newF
  split
  · next hp =>
    split
    · split
      · next q =>
        obtain ⟨b, hb, e⟩ := num_nat (N := 16) o1 q (by decide)
        exact newB_li h (tok_TO S o2.2.1) hp hk (Or.inr ⟨b, by omega, e⟩)
      · exact h
    · exact newB_li h o1 hp hk (Or.inl rfl)
  · exact h
theorem needF_li {S : Nat → Int32} {n : Nat} {a : x_St} {t : x_Tk} (h : LI a) (hO : TO S n t) : LI (needF S n a t).2.1 := by
  have o1 := tok_TO S hO.2.1
  unfold needF
  split
  · next q =>
    obtain ⟨b, hb, e⟩ := num_nat (N := 15) hO q (by decide)
    split
    · next q2 =>
      obtain ⟨d, hd, e2⟩ := num_nat (N := 999) o1 q2 (by decide)
      show LI (upd a (8 + (tkV (tokAt S n (tkE t))).toNatClampNeg) (tkV (tokAt S n (tkE (tokAt S n (tkE t))))))
      rw [e, nI_clamp (by omega), e2]
      exact h.upNeed (by omega) (by omega)
    · exact h
  · exact h
theorem putF_li {S : Nat → Int32} {n : Nat} {a : x_St} {t : x_Tk} (h : LI a) (hO : TO S n t) {j N : Nat} (hN : N < 2 ^ 31) (hj : ∀ m, m ≤ N → LI (upd a j (nI m))) : LI (putF S n a j (nI N) t).2.1 := by
  unfold putF
  split
  · next q =>
    obtain ⟨b, hb, e⟩ := num_nat hO q hN
    show LI (upd a j (tkV (tokAt S n (tkE t))))
    rw [e]
    exact hj b hb
  · exact h
theorem item_li {S : Nat → Int32} {n : Nat} {a : x_St} {t : x_Tk} (h : LI a) (hO : TO S n t) : LI (itemF S n a t).2.1 := by
  unfold itemF
  split
  · exact newF_li h hO (by omega)
  · split
    · exact needF_li h hO
    · split
      · exact putF_li (N := 16) h hO (by decide) (fun m hm => h.upP (h.1.up1 (by omega)) (by omega))
      · split
        · exact putF_li (N := 20) h hO (by decide) (fun m hm => h.upP (h.1.upGn (Or.inl rfl) hm) (by omega))
        · split
          · exact putF_li (N := 20) h hO (by decide) (fun m hm => h.upP (h.1.upGn (Or.inr rfl) hm) (by omega))
          · split
            · exact h.upP (h.1.upNi (Or.inr rfl)) (by omega)
            · split
              · exact h.upP (h.1.upNi (Or.inl rfl)) (by omega)
              · exact h
theorem tell_li {S : Nat → Int32} {n : Nat} : ∀ (f i : Nat) {a : x_St} {t : x_Tk}, LI a → TO S n t → LI (tellF S n f i a t).2
  | 0, _, _, _, h, _ => h
  | f + 1, i, a, t, h, hO => by
    have h1 := item_li h hO
    have h2 := (item_ok h.1 hO).2
    unfold tellF
    split
    · split
      · exact h1
      · split
        · exact tell_li f (i + 1) h1 (tok_TO S h2.2.1)
        · exact h1
    · exact h1
theorem mask255 (x : Int32) : ∃ n, n < 256 ∧ x &&& 255 = nI n := by
  have e : x = nI x.toBitVec.toNat := by
    apply Int32.toBitVec_inj.mp
    show x.toBitVec = BitVec.ofNat 32 x.toBitVec.toNat
    simp
  refine ⟨x.toBitVec.toNat &&& 255, Nat.lt_of_le_of_lt Nat.and_le_right (by decide), ?_⟩
  conv => lhs; rw [e]
  exact nI_and _ _
-- the calls
theorem Inv.line {g : x_SG} (h : Inv g) {a : x_St} (hl : LI a) : Inv (sA g a) := ⟨hl, h.2⟩
theorem person_p {g : x_SG} (h : Inv g) {p : Int32} (c : isP (gA g) p = true) : ∃ q, q < pn (gA g) ∧ q < 8 ∧ p.toNatClampNeg = q ∧ p = nI q := by
  obtain ⟨q, hq, e⟩ := isP_nat h.1.1 c
  have := h.1.1.1
  exact ⟨q, hq, by omega, by rw [e, nI_clamp (by omega)], e⟩
theorem sheet_p {s : Int32} (c : isSh s = true) : ∃ y, y < 4 ∧ s.toNatClampNeg = y := by
  obtain ⟨y, hy, e⟩ := inR_nat (n := 3) (by decide) c
  exact ⟨y, by omega, by rw [e, nI_clamp (by omega)]⟩
theorem I_orN {g : x_SG} (h : Inv g) (n k : Nat) : Inv (orN g n k).2 := by
  unfold orN
  split
  · exact h
  · exact h
theorem I_orO {g : x_SG} (h : Inv g) (k : Option Nat) : Inv (orO g k).2 := by
  unfold orO
  split
  · exact h
  · exact h
theorem I_shO {g : x_SG} (h : Inv g) (s : Int32) {k : Nat → Int32 × x_SG} (hk : ∀ y, y < 4 → Inv (k y).2) : Inv (shO g s k).2 := by
  unfold shO
  split
  · next c =>
    obtain ⟨y, hy, e⟩ := sheet_p c
    split
    · exact h
    · rw [e]; exact hk y hy
  · exact h
theorem I_need {g : x_SG} (h : Inv g) (v0 v1 : Int32) : Inv (F_need g v0 v1).2 := by
  unfold F_need
  split
  · next c =>
    obtain ⟨k, hk, rfl⟩ := inR_nat (n := 15) (by decide) c.1
    obtain ⟨v, hv, rfl⟩ := inR_nat (n := 999) (by decide) c.2
    rw [nI_clamp (by omega)]
    exact h.line (h.1.upNeed (by omega) (by omega))
  · exact h
theorem I_stretch {g : x_SG} (h : Inv g) (v0 v1 : Int32) : Inv (F_stretch g v0 v1).2 := by
  unfold F_stretch
  repeat' split
  all_goals exact h
theorem rng_w {w : Int32} (c : inR w (-1) 16 = true) : w = -1 ∨ ∃ m, m < 17 ∧ w = nI m := by
  obtain ⟨h1, h2⟩ := of_decide_eq_true c
  by_cases q : w < 0
  · left
    rw [Int32.lt_iff_toInt_lt] at q
    rw [Int32.le_iff_toInt_le] at h1
    have e1 : (-1 : Int32).toInt = -1 := by decide
    have e0 : (0 : Int32).toInt = 0 := by decide
    exact Int32.toInt_inj.mp (by omega)
  · right
    obtain ⟨k, hk, e⟩ := inR_nat (v := w) (n := 16) (by decide) (decide_eq_true ⟨Int32.not_lt.mp q, h2⟩)
    exact ⟨k, by omega, e⟩
theorem I_person {g : x_SG} (h : Inv g) (v0 v1 : Int32) : Inv (F_person g v0 v1).2 := by
  unfold F_person
  split
  · next c =>
    obtain ⟨k, hk, rfl⟩ := inR_nat (n := 6) (by decide) c.1
    split
    · next hp => exact h.line (h.1.come (b := 50) hp (by omega) (rng_w c.2) (by decide))
    · exact h
  · exact h
theorem I_of {g : x_SG} (h : Inv g) (v0 v1 : Int32) : Inv (F_of g v0 v1).2 := by
  unfold F_of
  repeat' split
  all_goals exact h
theorem I_change {g : x_SG} (h : Inv g) (v0 v1 v2 : Int32) : Inv (F_change g v0 v1 v2).2 := by
  unfold F_change
  split
  · next c =>
    obtain ⟨q, h1, h2, e, -⟩ := person_p h c
    rw [e]
    split
    · next d =>
      obtain ⟨k, hk, rfl⟩ := inR_nat (n := 6) (by decide) d.2
      exact h.line (h.1.upP (h.1.1.upK h2 (by omega)) (by omega))
    · split
      · next d => exact h.line (h.1.upP (h.1.1.upW h2 (rng_w d.2)) (by omega))
      · split
        · next d =>
          obtain ⟨k, hk, rfl⟩ := inR_nat (n := 99) (by decide) d.2
          exact h.line (h.1.upP (h.1.1.upB h2 (by omega)) (by omega))
        · exact h
  · exact h
theorem I_set {g : x_SG} (h : Inv g) (v0 v1 : Int32) : Inv (F_set g v0 v1).2 := by
  unfold F_set
  split
  · next d =>
    obtain ⟨k, hk, rfl⟩ := inR_nat (n := 16) (by decide) d.2
    exact h.line (h.1.upP (h.1.1.up1 (by omega)) (by omega))
  · split
    · next d =>
      obtain ⟨k, hk, rfl⟩ := inR_nat (n := 1) (by decide) d.2
      refine h.line (h.1.upP (h.1.1.upNi ?_) (by omega))
      rcases (show k = 0 ∨ k = 1 by omega) with rfl | rfl
      · exact Or.inl rfl
      · exact Or.inr rfl
    · split
      · next d =>
        obtain ⟨k, hk, rfl⟩ := inR_nat (n := 20) (by decide) d.2
        exact h.line (h.1.upP (h.1.1.upGn (Or.inl rfl) hk) (by omega))
      · split
        · next d =>
          obtain ⟨k, hk, rfl⟩ := inR_nat (n := 20) (by decide) d.2
          exact h.line (h.1.upP (h.1.1.upGn (Or.inr rfl) hk) (by omega))
        · exact h
theorem I_board {g : x_SG} (h : Inv g) (v0 : Int32) : Inv (F_board g v0).2 := by
  unfold F_board
  split
  · next c =>
    obtain ⟨q, h1, h2, e, -⟩ := person_p h c
    rw [e]
    split
    · exact h.line (h.1.upP (h.1.1.upW h2 (Or.inl rfl)) (by omega))
    · exact h
  · exact h
theorem I_leave {g : x_SG} (h : Inv g) (v0 : Int32) : Inv (F_leave g v0).2 := by
  unfold F_leave
  split
  · next c =>
    obtain ⟨q, h1, h2, e, -⟩ := person_p h c
    rw [e]
    split
    · exact h.line (h.1.upP (h.1.1.upW h2 h.1.1.tr) (by omega))
    · exact h
  · exact h
theorem I_go {g : x_SG} (h : Inv g) (v0 : Int32) : Inv (F_go g v0).2 := by
  unfold F_go
  split
  · next c =>
    obtain ⟨n, hn, rfl⟩ := inR_nat2 (a := 1) (n := 60) (by decide) (by decide) c
    split
    · exact h
    · next q =>
      obtain ⟨m, hm, e⟩ := h.1.2.2.2
      have := hour_le e hm hn.2 (Int32.not_lt.mp q)
      rw [nI_clamp (by omega)]
      exact h.line (h.1.hours e n (by omega))
  · exact h
theorem I_now {g : x_SG} (h : Inv g) (v0 : Int32) : Inv (F_now g v0).2 := by
  unfold F_now
  repeat' split
  all_goals exact h
theorem I_ahead {g : x_SG} (h : Inv g) (v0 : Int32) : Inv (F_ahead g v0).2 := by
  unfold F_ahead
  repeat' split
  all_goals exact h
theorem I_believes {g : x_SG} (h : Inv g) (v0 v1 : Int32) : Inv (F_believes g v0 v1).2 := by
  unfold F_believes
  repeat' split
  all_goals exact h
theorem I_when {g : x_SG} (h : Inv g) (v0 : Int32) : Inv (F_when g v0).2 := by
  unfold F_when
  split
  · exact I_orN h _ _
  · exact h
theorem I_falls {g : x_SG} (h : Inv g) : Inv (F_falls g).2 := I_orN h _ _
theorem I_settles {g : x_SG} (h : Inv g) : Inv (F_settles g).2 := I_orN h _ _
theorem I_there {g : x_SG} (h : Inv g) (v0 : Int32) : Inv (F_there g v0).2 := by
  unfold F_there
  repeat' split
  all_goals exact h
theorem I_kindFor {g : x_SG} (h : Inv g) (v0 v1 : Int32) : Inv (F_kindFor g v0 v1).2 := by
  unfold F_kindFor
  repeat' split
  all_goals exact h
theorem I_with {g : x_SG} (h : Inv g) (v0 v1 : Int32) : Inv (F_with g v0 v1).2 := by
  unfold F_with
  repeat' split
  all_goals exact h
theorem I_fewest {g : x_SG} (h : Inv g) (v0 v1 : Int32) : Inv (F_fewest g v0 v1).2 := by
  unfold F_fewest
  split
  · exact I_orO h _
  · exact h
theorem I_farthest {g : x_SG} (h : Inv g) (v0 : Int32) : Inv (F_farthest g v0).2 := by
  unfold F_farthest
  split
  · exact h
  · exact h
theorem I_without {g : x_SG} (h : Inv g) (v0 : Int32) : Inv (F_without g v0).2 := by
  unfold F_without
  split
  · exact I_orO h _
  · exact h
theorem I_persuade {g : x_SG} (h : Inv g) (v0 v1 v2 : Int32) : Inv (F_persuade g v0 v1 v2).2 := by
  unfold F_persuade
  split
  · exact I_orN h _ _
  · exact h
theorem I_bears {g : x_SG} (h : Inv g) (v0 v1 : Int32) : Inv (F_bears g v0 v1).2 := by
  unfold F_bears
  split
  · exact I_orO h _
  · exact h
theorem I_seat {g : x_SG} (h : Inv g) (v0 v1 : Int32) : Inv (F_seat g v0 v1).2 := by
  unfold F_seat
  repeat' split
  all_goals exact h
theorem I_kinds {g : x_SG} (h : Inv g) (v0 v1 : Int32) : Inv (F_kinds g v0 v1).2 := I_shO h _ (fun y hy => by
  show Inv (if isP (gA g) v1 = true then _ else _ : Int32 × x_SG).2
  split
  · exact h
  · exact h)
theorem I_beliefs {g : x_SG} (h : Inv g) (v0 v1 : Int32) : Inv (F_beliefs g v0 v1).2 := I_shO h _ (fun y hy => by
  show Inv (if isP (gA g) v1 = true then _ else _ : Int32 × x_SG).2
  split
  · exact h
  · exact h)
theorem I_least {g : x_SG} (h : Inv g) (v0 v1 : Int32) : Inv (F_least g v0 v1).2 := I_shO h _ (fun y hy => by
  show Inv (if isP (gA g) v1 = true then _ else _ : Int32 × x_SG).2
  split
  · exact I_orN h _ _
  · exact h)
theorem I_worth {g : x_SG} (h : Inv g) : Inv (F_worth g).2 := h
theorem I_hangs {g : x_SG} (h : Inv g) (v0 : Int32) : Inv (F_hangs g v0).2 := by
  unfold F_hangs
  split
  · exact h
  · exact h
theorem I_run {g : x_SG} (h : Inv g) : Inv (F_run g).2 := h
theorem I_gold {g : x_SG} (h : Inv g) (v0 : Int32) : Inv (F_gold g v0).2 := by
  unfold F_gold
  split
  · next c =>
    obtain ⟨n, hn, rfl⟩ := inR_nat2 (a := 1) (n := 20) (by decide) (by decide) c
    split
    · exact h
    · next q =>
      obtain ⟨m, hm, e⟩ := h.1.2.2.2
      have := hour_le e hm (by omega : n ≤ 60) (Int32.not_lt.mp q)
      rw [nI_clamp (by omega)]
      exact h.line (h.1.gold e n (by omega))
  · exact h
theorem I_odds {g : x_SG} (h : Inv g) (v0 v1 : Int32) : Inv (F_odds g v0 v1).2 := by
  unfold F_odds
  repeat' split
  all_goals exact h
theorem I_seed {g : x_SG} (h : Inv g) (v0 : Int32) : Inv (F_seed g v0).2 := h.line (h.1.upP (h.1.1.upN (Or.inr (Or.inl rfl)) _) (by omega))
theorem I_feed {g : x_SG} (h : Inv g) (v0 v1 : Int32) : Inv (F_feed g v0 v1).2 := by
  unfold F_feed
  split
  · next c =>
    obtain ⟨n, hn, rfl⟩ := inR_nat2 (a := 1) (n := 4) (by decide) (by decide) c
    rw [nI_clamp (by omega)]
    split
    · exact h
    · next q =>
      refine ⟨h.1, h.2.1, by show gT g + n ≤ 120; omega, ?_, h.2.2.2.2⟩
      intro j hj
      show ∃ b, b < 256 ∧ feedTo g v0 n n j = nI b
      unfold feedTo
      split
      · exact mask255 _
      · next z =>
        have hj : j < gT g + n := hj
        exact h.2.2.2.1 j (by omega)
  · exact h
theorem I_wipe {g : x_SG} (h : Inv g) : Inv (F_wipe g).2 := ⟨h.1, h.2.1, Nat.zero_le 120, fun j hj => absurd hj (Nat.not_lt_zero j), h.2.2.2.2⟩
theorem I_text {g : x_SG} (h : Inv g) : Inv (F_text g).2 := by
  have hw : Inv (sT g 0 (gB g)) := I_wipe h
  unfold F_text
  show Inv (if (toldF g).1 < 0 then sT g 0 (gB g) else sA (sT g 0 (gB g)) (toldF g).2)
  split
  · exact hw
  · exact hw.line (tell_li 121 0 h.1 (tok_TO _ (Nat.zero_le _)))
theorem I_hold {g : x_SG} (h : Inv g) (v0 v1 : Int32) : Inv (F_hold g v0 v1).2 := by
  unfold F_hold
  split
  · next c =>
    obtain ⟨j, hj, rfl⟩ := inR_nat (n := 9) (by decide) c.1
    rw [nI_clamp (by omega)]
    refine h.line (h.1.up (h.1.1.upN (by omega) _) (by omega) (by omega) (fun _ _ _ => by omega) (fun i hi e => ?_))
    rcases c.2 with q | q
    · exact Or.inl q
    · obtain ⟨p, h1, -, -, e2⟩ := person_p h q
      exact Or.inr ⟨p, h1, e2⟩
  · exact h
theorem I_as {g : x_SG} (h : Inv g) (v0 v1 : Int32) : Inv (F_as g v0 v1).2 := by
  unfold F_as
  repeat' split
  all_goals exact h
theorem I_sheet {g : x_SG} (h : Inv g) (v0 v1 v2 : Int32) : Inv (F_sheet g v0 v1 v2).2 := by
  unfold F_sheet
  split
  · next c =>
    split
    · exact h
    · next h0 =>
      split
      · exact h
      · next h40 =>
        obtain ⟨y, hy, e⟩ := sheet_p c.1
        rw [e]
        obtain ⟨n, hn, rfl⟩ := nI_of h0
        have hn40 : n ≤ 40 := by
          have := Int32.not_lt.mp h40
          exact (nI_leI (b := 40) hn (by decide)).mp this
        refine ⟨h.1, h.2.1, h.2.2.1, h.2.2.2.1, fun s hs => ?_, fun s hs => ?_⟩
        · show upn (gSz g) y _ s ≤ 40
          unfold upn
          split
          · split
            · exact Nat.zero_le 40
            · rw [nI_clamp hn]; exact hn40
          · exact h.2.2.2.2.1 s hs
        · show upd (gSb g) y v1 s = 0 ∨ upd (gSb g) y v1 s = 8 ∨ upd (gSb g) y v1 s = 16 ∨ upd (gSb g) y v1 s = 32
          by_cases q : s = y
          · rw [q, upd_s]; exact c.2
          · rw [upd_n _ _ q]; exact h.2.2.2.2.2 s hs
  · exact h
theorem I_write {g : x_SG} (h : Inv g) (v0 v1 v2 : Int32) : Inv (F_write g v0 v1 v2).2 := I_shO h _ (fun y hy => by
  show Inv (if 0 ≤ v1 ∧ v1 < nI (gSz g y) then _ else _ : Int32 × x_SG).2
  split
  · exact h
  · exact h)
theorem I_copy {g : x_SG} (h : Inv g) (v0 v1 v2 v3 v4 : Int32) : Inv (F_copy g v0 v1 v2 v3 v4).2 := by
  unfold F_copy
  repeat' split
  all_goals exact h
theorem I_load {g : x_SG} (h : Inv g) (v0 : Int32) : Inv (F_load g v0).2 := I_shO h _ (fun y hy => by
  generalize hn : firstN (fun j => !(decide (j < 16) && inR (gSn g y j) 0 999)) 0 (gSz g y) = n
  have ok : ∀ j, j < n → j < 16 ∧ inR (gSn g y j) 0 999 = true := by
    intro j hj
    have hf : ∀ m s, ∀ j, s ≤ j → j < firstN (fun j => !(decide (j < 16) && inR (gSn g y j) 0 999)) s m → (!(decide (j < 16) && inR (gSn g y j) 0 999)) = false := by
      intro m
      induction m with
      | zero => intro s j h1 h2; exact absurd h2 (by show ¬ j < s; omega)
      | succ m ih =>
        intro s j h1 h2
        unfold firstN at h2
        split at h2
        · omega
        · next q =>
          by_cases e : j = s
          · subst e; exact Bool.eq_false_iff.mpr q
          · exact ih (s + 1) j (by omega) h2
    have := hf (gSz g y) 0 j (Nat.zero_le j) (by rw [hn]; exact hj)
    simp only [Bool.not_eq_false', Bool.and_eq_true, decide_eq_true_eq] at this
    exact this
  have hn16 : n ≤ 16 := by
    by_cases q : n ≤ 16
    · exact q
    · have := (ok 16 (by omega)).1; omega
  have hk : ∀ j, (j < 8 ∨ 24 ≤ j) → loadTo (gA g) (gSn g y) n j = gA g j := fun j hj => by
    unfold loadTo
    rw [if_neg (by omega)]
  have hp : pn (loadTo (gA g) (gSn g y) n) = pn (gA g) := by unfold pn; rw [hk 7 (by omega)]
  show Inv (sA g (loadTo (gA g) (gSn g y) n))
  refine h.line ?_
  obtain ⟨⟨w1, w2, w3, w4, w5, w6⟩, h2, h3, h4⟩ := h.1
  refine ⟨⟨by rw [hp]; exact w1, by rw [hp, hk 7 (by omega)]; exact w2, fun p hp8 => ?_, fun p hp8 => ?_, fun p hp8 => ?_, ?_⟩, fun k hk16 => ?_, fun j hj => ?_, ?_⟩
  · rw [hk _ (by omega)]; exact w3 p hp8
  · rw [hk _ (by omega)]; exact w4 p hp8
  · rw [hk _ (by omega)]; exact w5 p hp8
  · rw [hk 1 (by omega), hk 2 (by omega), hk 3 (by omega), hk 4 (by omega), hk 5 (by omega)]; exact w6
  · by_cases q : k < n
    · obtain ⟨m, hm, e⟩ := inR_nat (n := 999) (by decide) (ok k q).2
      refine ⟨m, by omega, ?_⟩
      unfold loadTo
      rw [if_pos (by omega), show 8 + k - 8 = k by omega]
      exact e
    · have e : loadTo (gA g) (gSn g y) n (8 + k) = gA g (8 + k) := by
        unfold loadTo
        rw [if_neg (by omega)]
      rw [e]; exact h2 k hk16
  · rw [hk _ (by omega), hp]; exact h3 j hj
  · rw [hk 0 (by omega)]; exact h4)
theorem I_judge {g : x_SG} (h : Inv g) (v0 : Int32) : Inv (F_judge g v0).2 := I_shO h _ (fun y hy => h)
theorem I_image {g : x_SG} (h : Inv g) : Inv (F_image g).2 := ⟨h.1, fun _ => h.1, h.2.2⟩
theorem I_undo {g : x_SG} (h : Inv g) : Inv (F_undo g).2 := by
  unfold F_undo
  split
  · next c => exact h.line (h.2.1 c)
  · exact h
theorem I_tear {g : x_SG} (h : Inv g) : Inv (F_tear g).2 := ⟨h.1, fun q => (by cases q), h.2.2⟩
theorem I_count {g : x_SG} (h : Inv g) (v0 : Int32) : Inv (F_count g v0).2 := by
  unfold F_count
  repeat' split
  all_goals exact h
theorem I_status {g : x_SG} (h : Inv g) (v0 : Int32) : Inv (F_status g v0).2 := by
  unfold F_status
  split
  · exact h
  · exact h
