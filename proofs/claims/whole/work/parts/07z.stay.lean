/-! PURE: agreement of states but for some places; faith as an integer; a train that stands -/
theorem cntTo_cg {b : Int32} {f g : Nat → Bool} : ∀ n, (∀ i, i < n → f i = g i) → cntTo b f n = cntTo b g n
  | 0, _ => rfl
  | n + 1, h => by
    unfold cntTo
    rw [cntTo_cg n (fun i hi => h i (by omega)), h n (by omega)]
theorem sumTo_cg {f g : Nat → Int32} : ∀ n, (∀ i, i < n → f i = g i) → sumTo f n = sumTo g n
  | 0, _ => rfl
  | n + 1, h => by
    unfold sumTo
    rw [sumTo_cg n (fun i hi => h i (by omega)), h n (by omega)]
def AG (S : Nat → Prop) (u w : x_St) : Prop := ∀ j, ¬ S j → u j = w j
def okS (S : Nat → Prop) : Prop := ∀ j, S j → j ≠ 7 ∧ (j < 24 ∨ 48 ≤ j)
theorem AG_pn {S : Nat → Prop} {u w : x_St} (hS : okS S) (h : AG S u w) : pn u = pn w := by unfold pn; rw [h 7 (fun z => (hS 7 z).1 rfl)]
theorem AG.p {S : Nat → Prop} {u w : x_St} (hS : okS S) (h : AG S u w) {j : Nat} (h1 : 24 ≤ j) (h2 : j < 48) : u j = w j := h j (fun z => by have := (hS j z).2; omega)
theorem AG.upd {S : Nat → Prop} {u w : x_St} (h : AG S u w) (k : Nat) (x : Int32) : AG S (upd u k x) (upd w k x) := by
  intro j hj
  by_cases q : j = k
  · rw [q, upd_s, upd_s]
  · rw [upd_n _ _ q, upd_n _ _ q]; exact h j hj
theorem AG_move {S : Nat → Prop} {u w : x_St} (hS : okS S) (h : AG S u w) (y : Int32) : ∀ n, n ≤ 8 → AG S (moveTo u y n) (moveTo w y n)
  | 0, _ => h
  | n + 1, hn => by
    have ih := AG_move hS h y n (by omega)
    intro j hj
    unfold moveTo
    rw [h.p hS (j := 24 + 3 * n + 1) (by omega) (by omega), h.p hS (j := 24 + 3 * n + 2) (by omega) (by omega)]
    split
    · exact ih.upd _ _ j hj
    · exact ih j hj
theorem AG_swayV {S : Nat → Prop} {u w : x_St} (hS : okS S) (h : AG S u w) (h8 : pn w ≤ 8) {p : Nat} (hp : p < 8) : swayV u p = swayV w p := by
  have hn := AG_pn hS h
  have hw : ∀ o, o < pn w → withB u p o = withB w p o := fun o ho => by
    unfold withB
    rw [h.p hS (j := 24 + 3 * o + 1) (by omega) (by omega), h.p hS (j := 24 + 3 * p + 1) (by omega) (by omega)]
  have es : sumWith u p = sumWith w p := by
    unfold sumWith
    rw [hn]
    exact sumTo_cg _ (fun o ho => by rw [hw o ho, h.p hS (j := 24 + 3 * o + 2) (by omega) (by omega)])
  have en : numWith u p = numWith w p := by
    unfold numWith
    rw [hn]
    exact cntTo_cg _ hw
  unfold swayV meanF
  rw [es, en, h.p hS (j := 24 + 3 * p + 2) (by omega) (by omega)]
theorem AG_swayTo {S : Nat → Prop} {u w : x_St} (hS : okS S) (h : AG S u w) (h8 : pn w ≤ 8) : ∀ n, n ≤ 8 → AG S (swayTo u n) (swayTo w n)
  | 0, _ => h
  | n + 1, hn => by
    unfold swayTo
    rw [AG_swayV hS h h8 (by omega)]
    exact (AG_swayTo hS h h8 n (by omega)).upd _ _
theorem AG_sway {S : Nat → Prop} {u w : x_St} (hS : okS S) (h : AG S u w) (h8 : pn w ≤ 8) : AG S (swayF u) (swayF w) := by
  unfold swayF
  rw [AG_pn hS h]
  exact AG_swayTo hS h h8 _ h8
-- faith, as an integer
theorem cntTo_m1 (f : Nat → Bool) : ∀ n, n ≤ 8 → ∃ c : Nat, c ≤ n ∧ (cntTo (-1) f n).toInt = (c : Int) - 1
  | 0, _ => ⟨0, Nat.le_refl 0, by show (-1 : Int32).toInt = ((0 : Nat) : Int) - 1; decide⟩
  | n + 1, hn => by
    obtain ⟨c, hc, e⟩ := cntTo_m1 f n (by omega)
    unfold cntTo
    split
    · refine ⟨c + 1, by omega, ?_⟩
      rw [i32_add e (show (1 : Int32).toInt = 1 by decide) (by omega) (by omega)]
      omega
    · exact ⟨c, by omega, e⟩
def fI (a : x_St) (p : Nat) (m : Int) : Int :=
  if a (24 + 3 * p) = 1 then (a (24 + 3 * p + 2)).toInt / 2
  else if a (24 + 3 * p) = 2 then (a (24 + 3 * p + 2)).toInt + (dayF a).toInt
  else if a (24 + 3 * p) = 3 then (a (24 + 3 * p + 2)).toInt + (dayF a).toInt - m
  else if a (24 + 3 * p) = 4 then (a (24 + 3 * p + 2)).toInt + (dayF a).toInt - m + 5 * (compF a p).toInt
  else if a (24 + 3 * p) = 5 then (if a 2 = 0 then (a (24 + 3 * p + 2)).toInt else 2 * (a (24 + 3 * p + 2)).toInt)
  else if a (24 + 3 * p) = 6 then (a (24 + 3 * p + 2)).toInt / 2 - 20
  else (a (24 + 3 * p + 2)).toInt
theorem faith_parts {a : x_St} (h : WF a) {p : Nat} (hp : p < 8) : (0 ≤ (a (24 + 3 * p + 2)).toInt ∧ (a (24 + 3 * p + 2)).toInt < 100) ∧ (0 ≤ (dayF a).toInt ∧ (dayF a).toInt ≤ 20) ∧ (0 ≤ (minI (a 5) 30).toInt ∧ (minI (a 5) 30).toInt ≤ 30) ∧ (-1 ≤ (compF a p).toInt ∧ (compF a p).toInt ≤ 7) := by
  obtain ⟨b, hb, eb⟩ := h.2.2.2.2.1 p hp
  obtain ⟨f, hf, ef⟩ := h.2.2.2.2.2.2.2.2.2
  obtain ⟨c, hc, ec⟩ := cntTo_m1 (fun o => decide (a (24 + 3 * o + 1) = a (24 + 3 * p + 1))) (pn a) h.1
  have h8 := h.1
  have e30 : (30 : Int32).toInt = 30 := by decide
  refine ⟨?_, ?_, ?_, ?_⟩
  · rw [eb, nI_T (by omega)]; omega
  · unfold dayF
    split
    · decide
    · decide
  · rw [minI_T, ef, nI_T (by omega), e30]
    split <;> omega
  · have e : (compF a p).toInt = (c : Int) - 1 := ec
    rw [e]; omega
theorem half_T {x : Int32} (h0 : 0 ≤ x.toInt) (h1 : x.toInt < 100) : (x / 2).toInt = x.toInt / 2 := by
  have e : x = nI x.toInt.toNat := i32_of (by omega) (by omega)
  have e2 : x / 2 = nI (x.toInt.toNat / 2) := by
    conv => lhs; rw [e]
    exact pk_div (d := 2) (by omega) (by decide) (by decide)
  rw [e2, nI_T (by omega)]
  omega
theorem faith_T {a : x_St} (h : WF a) {p : Nat} (hp : p < 8) : (faithF a p).toInt = fI a p (minI (a 5) 30).toInt := by
  obtain ⟨⟨b0, b1⟩, ⟨d0, d1⟩, ⟨m0, m1⟩, ⟨c0, c1⟩⟩ := faith_parts h hp
  have bd := i32_add (x := a (24 + 3 * p + 2)) (y := dayF a) rfl rfl (by omega) (by omega)
  have bdm := i32_sub (y := minI (a 5) 30) bd rfl (by omega) (by omega)
  have c5 := i32_mul (x := 5) (y := compF a p) (show (5 : Int32).toInt = 5 by decide) rfl (by omega) (by omega)
  unfold faithF fI
  split
  · exact half_T b0 b1
  split
  · exact bd
  split
  · exact bdm
  split
  · exact i32_add bdm c5 (by omega) (by omega)
  split
  · split
    · rfl
    · exact i32_mul (show (2 : Int32).toInt = 2 by decide) rfl (by omega) (by omega)
  split
  · exact i32_sub (half_T b0 b1) (show (20 : Int32).toInt = 20 by decide) (by omega) (by omega)
  · rfl
theorem faith_bd {a : x_St} (h : WF a) {p : Nat} (hp : p < 8) : -100 ≤ (faithF a p).toInt ∧ (faithF a p).toInt ≤ 300 := by
  obtain ⟨⟨b0, b1⟩, ⟨d0, d1⟩, ⟨m0, m1⟩, ⟨c0, c1⟩⟩ := faith_parts h hp
  rw [faith_T h hp]
  unfold fI
  repeat' split
  all_goals omega
theorem far_T {a : x_St} (h : WF a) {p k : Nat} (hp : p < 8) (hk : k < 17) : 0 ≤ (farF (a (24 + 3 * p + 1)) (nI k)).toInt ∧ (farF (a (24 + 3 * p + 1)) (nI k)).toInt ≤ 17 := by
  obtain ⟨w, ew, w0, w1⟩ : ∃ w : Int, (a (24 + 3 * p + 1)).toInt = w ∧ -1 ≤ w ∧ w ≤ 16 := by
    rcases h.2.2.2.1 p hp with e | ⟨w, hw, e⟩
    · exact ⟨-1, by rw [e]; decide, by omega, by omega⟩
    · exact ⟨w, by rw [e, nI_T (by omega)], by omega, by omega⟩
  have ek : (nI k).toInt = (k : Int) := nI_T (by omega)
  unfold farF
  split
  · next c =>
    rw [Int32.le_iff_toInt_le, ew, ek] at c
    rw [i32_sub ek ew (by omega) (by omega)]
    omega
  · next c =>
    rw [Int32.le_iff_toInt_le, ew, ek] at c
    rw [i32_sub (i32_sub ew ek (by omega) (by omega)) (show (1 : Int32).toInt = 1 by decide) (by omega) (by omega)]
    omega
theorem less_T {a : x_St} (h : WF a) {p k : Nat} (hp : p < 8) (hk : k < 17) : (faithF a p - 10 * farF (a (24 + 3 * p + 1)) (nI k)).toInt = (faithF a p).toInt - 10 * (farF (a (24 + 3 * p + 1)) (nI k)).toInt := by
  have f := faith_bd h hp
  have r := far_T h hp hk
  exact i32_sub rfl (i32_mul (show (10 : Int32).toInt = 10 by decide) rfl (by omega) (by omega)) (by omega) (by omega)
theorem brings_T {a : x_St} (h : WF a) {p k : Nat} (hp : p < 8) (hk : k < 17) : (bringsF a p (nI k)).toInt = if a (24 + 3 * p + 1) = -1 then (faithF a p).toInt else (if 0 < (faithF a p).toInt - 10 * (farF (a (24 + 3 * p + 1)) (nI k)).toInt then (faithF a p).toInt - 10 * (farF (a (24 + 3 * p + 1)) (nI k)).toInt else 0) := by
  unfold bringsF
  split
  · rfl
  · rw [maxI_T, less_T h hp hk, show (0 : Int32).toInt = 0 by decide]
theorem brings_bd {a : x_St} (h : WF a) {p k : Nat} (hp : p < 8) (hk : k < 17) : -100 ≤ (bringsF a p (nI k)).toInt ∧ (bringsF a p (nI k)).toInt ≤ 300 := by
  have f := faith_bd h hp
  have r := far_T h hp hk
  rw [brings_T h hp hk]
  repeat' split
  all_goals omega
theorem sum_mono {f g : Nat → Int32} : ∀ n, n ≤ 8 → (∀ p, p < n → (-300 ≤ (f p).toInt ∧ (f p).toInt ≤ 300) ∧ (-300 ≤ (g p).toInt ∧ (g p).toInt ≤ 300) ∧ (f p).toInt ≤ (g p).toInt) →
    (-300 * (n : Int) ≤ (sumTo f n).toInt ∧ (sumTo f n).toInt ≤ 300 * (n : Int)) ∧ (-300 * (n : Int) ≤ (sumTo g n).toInt ∧ (sumTo g n).toInt ≤ 300 * (n : Int)) ∧ (sumTo f n).toInt ≤ (sumTo g n).toInt
  | 0, _, _ => by
    have e : (0 : Int32).toInt = 0 := by decide
    unfold sumTo
    rw [e]; omega
  | n + 1, hn, h => by
    obtain ⟨⟨a1, a2⟩, ⟨b1, b2⟩, c⟩ := sum_mono n (by omega) (fun p hp => h p (by omega))
    obtain ⟨⟨x1, x2⟩, ⟨y1, y2⟩, z⟩ := h n (by omega)
    have ef := i32_add (x := sumTo f n) (y := f n) rfl rfl (by omega) (by omega)
    have eg := i32_add (x := sumTo g n) (y := g n) rfl rfl (by omega) (by omega)
    unfold sumTo
    rw [ef, eg]
    omega
theorem sum_bd {a : x_St} (h : WF a) {k : Nat} (hk : k < 17) : -2400 ≤ (sumF a (nI k)).toInt ∧ (sumF a (nI k)).toInt ≤ 2400 := by
  have h8 := h.1
  have := (sum_mono (f := fun p => bringsF a p (nI k)) (g := fun p => bringsF a p (nI k)) (pn a) h.1 (fun p hp => by
    have := brings_bd h (p := p) (k := k) (by omega) hk
    omega)).1
  unfold sumF
  omega
/-- more falls, less faith -/
theorem sum_falls {u w : x_St} (hu : WF u) (hw : WF w) (h : AG (fun j => j = 0 ∨ j = 5) u w) (h5 : (w 5).toInt ≤ (u 5).toInt) {k : Nat} (hk : k < 17) : (sumF u (nI k)).toInt ≤ (sumF w (nI k)).toInt := by
  have hS : okS (fun j => j = 0 ∨ j = 5) := fun j hj => by
    have : j = 0 ∨ j = 5 := hj
    omega
  have hn := AG_pn hS h
  have h8 := hw.1
  have hm : (minI (w 5) 30).toInt ≤ (minI (u 5) 30).toInt := by
    rw [minI_T, minI_T, show (30 : Int32).toInt = 30 by decide]
    repeat' split
    all_goals omega
  have hd : dayF u = dayF w := by unfold dayF; rw [h 2 (by omega)]
  have hc : ∀ p, p < 8 → compF u p = compF w p := fun p hp => by
    unfold compF
    rw [hn]
    exact cntTo_cg _ (fun o ho => by rw [h.p hS (j := 24 + 3 * o + 1) (by omega) (by omega), h.p hS (j := 24 + 3 * p + 1) (by omega) (by omega)])
  unfold sumF
  rw [hn]
  refine (sum_mono (pn w) h8 (fun p hp => ?_)).2.2
  have b1 := brings_bd hu (p := p) (k := k) (by omega) hk
  have b2 := brings_bd hw (p := p) (k := k) (by omega) hk
  refine ⟨by omega, by omega, ?_⟩
  have ef : (faithF u p).toInt ≤ (faithF w p).toInt := by
    rw [faith_T hu (by omega), faith_T hw (by omega)]
    unfold fI
    rw [h.p hS (j := 24 + 3 * p) (by omega) (by omega), h.p hS (j := 24 + 3 * p + 2) (by omega) (by omega), hd, hc p (by omega), h 2 (by omega)]
    repeat' split
    all_goals omega
  rw [brings_T hu (by omega) hk, brings_T hw (by omega) hk, h.p hS (j := 24 + 3 * p + 1) (by omega) (by omega)]
  repeat' split
  all_goals omega

-- a train that stands
theorem moved_no {a : x_St} (hI : WF a) (z : movedB a = false) {j : Nat} (h0 : j ≠ 0) (h5 : j ≠ 5) : hourF a j = a j := by
  unfold movedB at z
  obtain ⟨z1, z2⟩ := Bool.or_eq_false_iff.mp z
  have y1 : hourF a 1 = a 1 := Decidable.not_not.mp (of_decide_eq_false z1)
  have h8 := hI.1
  by_cases q1 : j = 1
  · rw [q1]; exact y1
  by_cases q : 24 ≤ j ∧ j < 48 ∧ j % 3 = 2
  · obtain ⟨p, hp, rfl⟩ : ∃ p, p < 8 ∧ j = 24 + 3 * p + 2 := ⟨(j - 26) / 3, by omega, by omega⟩
    by_cases c : p < pn a
    · by_cases d : hourF a (24 + 3 * p + 2) = a (24 + 3 * p + 2)
      · exact d
      · have := anyTo_t (f := fun p => decide (¬ hourF a (24 + 3 * p + 2) = a (24 + 3 * p + 2))) c (decide_eq_true d)
        rw [this] at z2
        cases z2
    · rw [hourF_n h0]
      unfold swayF
      rw [swayTo_hi _ _ _ (by rw [hI.ride.2]; omega)]
      unfold rideF
      split
      · split
        · rw [moveTo_hi _ _ _ _ (by omega), upd_n _ _ (by omega)]
        · rw [moveTo_hi _ _ _ _ (by omega), upd_n _ _ (by omega)]
      · rfl
  · rw [hourF_n h0]
    unfold swayF
    rw [swayTo_same _ _ hI.ride.1.1 j (by omega)]
    unfold rideF
    split
    · split
      · rw [moveTo_same _ _ _ hI.1 j (by omega), upd_n _ _ q1]
      · rw [moveTo_same _ _ _ hI.1 j (by omega), upd_n _ _ h5]
    · rfl
theorem ride_falls {a : x_St} {t : Nat} (ht : a 1 = nI t) (h : t < 16) (c : thereB a t = false) : rideF a = moveTo (upd a 5 (minI (a 5 + 1) 99999)) (-a 4) (pn a) := by
  unfold rideF
  rw [if_pos (by rw [ht]; exact nI_lt (b := 16) h (by decide)), ht, nI_clamp (by omega), c]
  rfl
theorem ride_goes {a : x_St} {t : Nat} (ht : a 1 = nI t) (h : t < 16) (c : thereB a t = true) : rideF a = moveTo (upd a 1 (nI t + 1)) (a 3) (pn a) := by
  unfold rideF
  rw [if_pos (by rw [ht]; exact nI_lt (b := 16) h (by decide)), ht, nI_clamp (by omega), c]
  rfl
theorem ride_ends {a : x_St} {t : Nat} (ht : a 1 = nI t) (h17 : t < 17) (h : ¬ t < 16) : rideF a = a := by
  unfold rideF
  rw [if_neg (by rw [ht]; exact nI_nlt (b := 16) (by omega) (by omega))]
theorem hour_low {a : x_St} (hI : WF a) {j : Nat} (hj : j < 24) (h0 : j ≠ 0) : hourF a j = rideF a j := by
  rw [hourF_n h0]
  unfold swayF
  rw [swayTo_same _ _ hI.ride.1.1 j (by omega)]
theorem hour_yard {a : x_St} (hI : WF a) {t : Nat} (ht : a 1 = nI t) (h17 : t < 17) : hourF a 1 = if t < 16 ∧ thereB a t = true then nI (t + 1) else nI t := by
  rw [hour_low hI (by decide) (by decide)]
  by_cases h : t < 16
  · by_cases c : thereB a t = true
    · rw [if_pos ⟨h, c⟩, ride_goes ht h c, moveTo_same _ _ _ hI.1 1 (by omega), upd_s, nI_1]
    · rw [if_neg (fun z => c z.2), ride_falls ht h (Bool.eq_false_iff.mpr c), moveTo_same _ _ _ hI.1 1 (by omega), upd_n _ _ (by omega), ht]
  · rw [if_neg (fun z => h z.1), ride_ends ht h17 h, ht]
theorem there_F {a : x_St} {k : Nat} : thereB a k = false ↔ (sumF a (nI k)).toInt < (a (8 + k)).toInt := by
  unfold thereB
  rw [decide_eq_false_iff_not, Int32.not_le, Int32.lt_iff_toInt_lt]
theorem stay_falls {b : x_St} (hI : WF b) (z : movedB b = false) {t : Nat} (ht : b 1 = nI t) (h16 : t < 16) (hf : thereB b t = false) : ∀ m, AG (fun j => j = 0 ∨ j = 5) (hoursF b m) b ∧ (b 5).toInt ≤ (hoursF b m 5).toInt
  | 0 => ⟨fun _ _ => rfl, Int.le_refl _⟩
  | m + 1 => by
    obtain ⟨h1, h2⟩ := stay_falls hI z ht h16 hf m
    have hS : okS (fun j => j = 0 ∨ j = 5) := fun j hj => by
      have : j = 0 ∨ j = 5 := hj
      omega
    have hW := hI.hours m
    show AG _ (hourF (hoursF b m)) b ∧ (b 5).toInt ≤ (hourF (hoursF b m) 5).toInt
    generalize hoursF b m = c at h1 h2 hW ⊢
    have ct : c 1 = nI t := by rw [h1 1 (by omega), ht]
    have cf : thereB c t = false := by
      rw [there_F] at hf ⊢
      have := sum_falls hW hI h1 h2 (k := t) (by omega)
      rw [h1 (8 + t) (by omega)]
      omega
    have hn := AG_pn hS h1
    have e : AG (fun j => j = 0 ∨ j = 5) (rideF c) (rideF b) := by
      rw [ride_falls ct h16 cf, ride_falls ht h16 hf, h1 4 (by omega), hn]
      refine AG_move hS (fun j hj => ?_) _ _ hI.1
      have hj' : ¬ (j = 0 ∨ j = 5) := hj
      rw [upd_n _ _ (by omega), upd_n _ _ (by omega)]
      exact h1 j hj
    have e2 := AG_sway hS e hI.ride.1.1
    refine ⟨fun j hj => ?_, ?_⟩
    · have hj' : ¬ (j = 0 ∨ j = 5) := hj
      rw [hourF_n (by omega), e2 j hj, ← hourF_n (by omega)]
      exact moved_no hI z (by omega) (by omega)
    · rw [hour_low hW (by decide) (by decide), ride_falls ct h16 cf, moveTo_same _ _ _ hW.1 5 (by omega), upd_s, minI_T]
      obtain ⟨f, hf5, ef⟩ := hW.2.2.2.2.2.2.2.2.2
      have e5 : (c 5).toInt = (f : Int) := by rw [ef, nI_T (by omega)]
      have e6 : (c 5 + 1).toInt = (f : Int) + 1 := i32_add e5 (show (1 : Int32).toInt = 1 by decide) (by omega) (by omega)
      rw [e6, show (99999 : Int32).toInt = 99999 by decide]
      rw [e5] at h2
      split <;> omega
theorem stay_yard {a : x_St} (hI : WF a) {i n : Nat} (z : movedB (hoursF a i) = false) (hi : i + 1 ≤ n) : hoursF a (i + 1) 1 = hoursF a n 1 := by
  have hW := hI.hours i
  obtain ⟨t, h17, ht⟩ := hW.2.2.2.2.2.1
  have y1 : hoursF a (i + 1) 1 = hoursF a i 1 := moved_no hW z (by decide) (by decide)
  by_cases h16 : t < 16
  · have hf : thereB (hoursF a i) t = false := by
      by_cases c : thereB (hoursF a i) t = true
      · have y2 : hoursF a (i + 1) 1 = nI (t + 1) := by
          show hourF (hoursF a i) 1 = _
          rw [hour_yard hW ht h17, if_pos ⟨h16, c⟩]
        rw [y2, ht, nI_eq (by omega) (by omega)] at y1
        omega
      · exact Bool.eq_false_iff.mpr c
    have e := (stay_falls hW z ht h16 hf (n - i)).1 1 (by omega)
    rw [← hoursF_add, show i + (n - i) = n by omega] at e
    rw [y1, e]
  · refine last_yard hI ?_ hi
    rw [y1, ht]
    exact nI_le (a := 16) (by omega) (by omega)
