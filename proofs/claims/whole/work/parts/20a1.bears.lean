/-! PURE: what a stretch bears -/
theorem lastTo_at {f : Nat → Bool} {m : Nat} (hm : f m = true) : ∀ n, m < n → (∀ j, m < j → j < n → f j = false) → lastTo f n = some m
  | 0, h, _ => absurd h (by omega)
  | n + 1, h, hj => by
    show (if f n = true then some n else lastTo f n) = some m
    by_cases q : m = n
    · subst q; rw [if_pos hm]
    · rw [if_neg (by rw [hj n (by omega) (by omega)]; decide)]
      exact lastTo_at hm n (by omega) (fun j h1 h2 => hj j h1 (by omega))
theorem lastTo_not {f : Nat → Bool} : ∀ n, (∀ j, j < n → f j = false) → lastTo f n = none
  | 0, _ => rfl
  | n + 1, hj => by
    show (if f n = true then some n else lastTo f n) = none
    rw [if_neg (by rw [hj n (by omega)]; decide)]
    exact lastTo_not n (fun j h => hj j (by omega))
theorem yard_up {a : x_St} (hI : WF a) : (a 1).toInt ≤ (hourF a 1).toInt := by
  obtain ⟨t, h17, ht⟩ := hI.2.2.2.2.2.1
  rw [hour_yard hI ht h17, ht, nI_T (by omega)]
  split
  · rw [nI_T (by omega)]; omega
  · rw [nI_T (by omega)]; omega
theorem yards_up {a : x_St} (hI : WF a) : ∀ n, (a 1).toInt ≤ (hoursF a n 1).toInt
  | 0 => Int.le_refl _
  | n + 1 => Int.le_trans (yards_up hI n) (yard_up (hI.hours n))
theorem okN {k : Nat} (hk : k < 16) : okS (fun j => j = 8 + k) := fun j hj => by
  have : j = 8 + k := hj
  omega
theorem sum_need {k : Nat} (hk : k < 16) {u w : x_St} (h : AG (fun j => j = 8 + k) u w) (h8 : pn w ≤ 8) (x : Int32) : sumF u x = sumF w x := by
  have hS := okN hk
  have hn := AG_pn hS h
  have hd : dayF u = dayF w := by unfold dayF; rw [h 2 (by omega)]
  have hc : ∀ p, p < 8 → compF u p = compF w p := fun p hp => by
    unfold compF
    rw [hn]
    exact cntTo_cg _ (fun o ho => by rw [h.p hS (j := 24 + 3 * o + 1) (by omega) (by omega), h.p hS (j := 24 + 3 * p + 1) (by omega) (by omega)])
  unfold sumF
  rw [hn]
  refine sumTo_cg _ (fun p hp => ?_)
  have hf : faithF u p = faithF w p := by
    unfold faithF
    rw [h.p hS (j := 24 + 3 * p) (by omega) (by omega), h.p hS (j := 24 + 3 * p + 2) (by omega) (by omega), hd, hc p (by omega), h 2 (by omega), h 5 (by omega)]
  unfold bringsF
  rw [hf, h.p hS (j := 24 + 3 * p + 1) (by omega) (by omega)]
theorem hour_need_cg {k : Nat} (hk : k < 16) {u w : x_St} (hu : WF u) (hw : WF w) (h : AG (fun j => j = 8 + k) u w) {t : Nat} (ht : w 1 = nI t) (h17 : t < 17) (hth : t < 16 → thereB u t = thereB w t) : AG (fun j => j = 8 + k) (hourF u) (hourF w) := by
  have hS := okN hk
  have hn := AG_pn hS h
  have hut : u 1 = nI t := by rw [h 1 (by omega), ht]
  have e : AG (fun j => j = 8 + k) (rideF u) (rideF w) := by
    by_cases h16 : t < 16
    · by_cases c : thereB w t = true
      · rw [ride_goes hut h16 (by rw [hth h16]; exact c), ride_goes ht h16 c, hn, h 3 (by omega)]
        exact AG_move hS (h.upd _ _) _ _ hw.1
      · have c := Bool.eq_false_iff.mpr c
        rw [ride_falls hut h16 (by rw [hth h16]; exact c), ride_falls ht h16 c, hn, h 4 (by omega), h 5 (by omega)]
        exact AG_move hS (h.upd _ _) _ _ hw.1
    · rw [ride_ends hut h17 h16, ride_ends ht h17 h16]
      exact h
  have e2 := AG_sway hS e hw.ride.1.1
  unfold hourF
  rw [h 0 (by omega)]
  exact e2.upd _ _
theorem far_need {a : x_St} {k : Nat} (hI : WF a) (hk : k < 16) : ∀ n, hoursF (farA a k) n (8 + k) = 1000000
  | 0 => upd_s _ _ _
  | n + 1 => by
    have hW : WF (hoursF (farA a k) n) := (hI.upN (Or.inr (Or.inr (Or.inl (by omega)))) _).hours n
    show hourF (hoursF (farA a k) n) (8 + k) = _
    rw [hour_low hW (by omega) (by omega)]
    have := far_need hI hk n
    unfold rideF
    split
    · split
      · rw [moveTo_same _ _ _ hW.1 _ (by omega), upd_n _ _ (by omega)]; exact this
      · rw [moveTo_same _ _ _ hW.1 _ (by omega), upd_n _ _ (by omega)]; exact this
    · exact this
theorem keep_need {b : x_St} {k : Nat} (hI : WF b) (hk : k < 16) : ∀ n, hoursF b n (8 + k) = b (8 + k)
  | 0 => rfl
  | n + 1 => by
    have hW := hI.hours n
    show hourF (hoursF b n) (8 + k) = _
    rw [hour_low hW (by omega) (by omega)]
    have := keep_need hI hk n
    unfold rideF
    split
    · split
      · rw [moveTo_same _ _ _ hW.1 _ (by omega), upd_n _ _ (by omega)]; exact this
      · rw [moveTo_same _ _ _ hW.1 _ (by omega), upd_n _ _ (by omega)]; exact this
    · exact this
theorem bear_inv {a : x_St} (hI : WF a) {k v : Nat} (hk : k < 16) (hv : v < 1000) (h : ¬ nI k < a 1) : ∀ n,
    ((metTo a k n).toInt < (v : Int) → AG (fun j => j = 8 + k) (hoursF (upd a (8 + k) (nI v)) n) (hoursF (farA a k) n) ∧ (hoursF (farA a k) n 1).toInt ≤ (k : Int)) ∧
    ((v : Int) ≤ (metTo a k n).toInt → (k : Int) < (hoursF (upd a (8 + k) (nI v)) n 1).toInt)
  | 0 => by
    rw [Int32.lt_iff_toInt_lt, nI_T (by omega)] at h
    refine ⟨fun _ => ⟨fun j hj => ?_, ?_⟩, fun c => ?_⟩
    · have hj' : ¬ j = 8 + k := hj
      show upd a (8 + k) _ j = upd a (8 + k) _ j
      rw [upd_n _ _ hj', upd_n _ _ hj']
    · show (upd a (8 + k) _ 1).toInt ≤ _
      rw [upd_n _ _ (by omega)]
      omega
    · have e : (metTo a k 0).toInt = -1 := by show (-1 : Int32).toInt = -1; decide
      rw [e] at c
      omega
  | n + 1 => by
    obtain ⟨i1, i2⟩ := bear_inv hI hk hv h n
    have hU : WF (upd a (8 + k) (nI v)) := hI.upN (Or.inr (Or.inr (Or.inl (by omega)))) _
    have hF : WF (farA a k) := hI.upN (Or.inr (Or.inr (Or.inl (by omega)))) _
    have wu := hU.hours n
    have wf := hF.hours n
    have nu : hoursF (upd a (8 + k) (nI v)) n (8 + k) = nI v := by rw [keep_need hU hk, upd_s]
    have nf := far_need hI hk n
    have em : metTo a k (n + 1) = if hoursF (farA a k) n 1 = nI k then maxI (metTo a k n) (sumF (hoursF (farA a k) n) (nI k)) else metTo a k n := rfl
    have ge : (metTo a k n).toInt ≤ (metTo a k (n + 1)).toInt := by
      rw [em]
      split
      · rw [maxI_T]; split <;> omega
      · omega
    by_cases c : (metTo a k n).toInt < (v : Int)
    · obtain ⟨j1, j2⟩ := i1 c
      obtain ⟨t, h17, ht⟩ := wf.2.2.2.2.2.1
      have sb := sum_bd wf (k := k) (by omega)
      have se := sum_need hk j1 wf.1 (nI k)
      show ((metTo a k (n + 1)).toInt < (v : Int) → AG _ (hourF (hoursF (upd a (8 + k) (nI v)) n)) (hourF (hoursF (farA a k) n)) ∧ (hourF (hoursF (farA a k) n) 1).toInt ≤ (k : Int)) ∧ ((v : Int) ≤ (metTo a k (n + 1)).toInt → (k : Int) < (hourF (hoursF (upd a (8 + k) (nI v)) n) 1).toInt)
      generalize hoursF (upd a (8 + k) (nI v)) n = u at *
      generalize hoursF (farA a k) n = w at *
      have ut : u 1 = nI t := by rw [j1 1 (by omega), ht]
      have tk : t ≤ k := by rw [ht, nI_T (by omega)] at j2; omega
      by_cases q : t = k
      · subst q
        rw [em, if_pos ht, maxI_T]
        have fw : thereB w t = false := by
          rw [there_F, nf, show (1000000 : Int32).toInt = 1000000 by decide]
          omega
        by_cases d : (sumF w (nI t)).toInt < (v : Int)
        · have fu : thereB u t = false := by
            rw [there_F, nu, nI_T (by omega), se]
            exact d
          refine ⟨fun _ => ⟨hour_need_cg hk wu wf j1 ht h17 (fun _ => by rw [fu, fw]), ?_⟩, fun z => ?_⟩
          · rw [hour_yard wf ht h17, fw, if_neg (by simp), nI_T (by omega)]
            omega
          · split at z <;> omega
        · have tu : thereB u t = true := by
            by_cases y : thereB u t = true
            · exact y
            · have y := Bool.eq_false_iff.mpr y
              rw [there_F, nu, nI_T (by omega), se] at y
              exact absurd y d
          refine ⟨fun z => ?_, fun _ => ?_⟩
          · split at z <;> omega
          · rw [hour_yard wu ut h17, if_pos ⟨by omega, tu⟩, nI_T (by omega)]
            omega
      · have nk : ¬ w 1 = nI k := by rw [ht, nI_eq (by omega) (by omega)]; exact q
        rw [em, if_neg nk]
        have sth : thereB u t = thereB w t := by
          unfold thereB
          rw [j1 (8 + t) (by omega), sum_need hk j1 wf.1]
        refine ⟨fun _ => ⟨hour_need_cg hk wu wf j1 ht h17 (fun _ => sth), ?_⟩, fun z => ?_⟩
        · rw [hour_yard wf ht h17]
          split
          · rw [nI_T (by omega)]; omega
          · rw [nI_T (by omega)]; omega
        · omega
    · refine ⟨fun z => ?_, fun _ => ?_⟩
      · omega
      · exact Int.lt_of_lt_of_le (i2 (by omega)) (yard_up wu)
theorem bear_iff {a : x_St} (hI : WF a) {k v n : Nat} (hk : k < 16) (hv : v < 1000) (h : ¬ nI k < a 1) : nI k < hoursF (upd a (8 + k) (nI v)) n 1 ↔ (v : Int) ≤ (metTo a k n).toInt := by
  obtain ⟨i1, i2⟩ := bear_inv hI hk hv h n
  rw [Int32.lt_iff_toInt_lt, nI_T (by omega)]
  constructor
  · intro c
    by_cases d : (metTo a k n).toInt < (v : Int)
    · obtain ⟨j1, j2⟩ := i1 d
      rw [j1 1 (by omega)] at c
      omega
    · omega
  · exact i2
theorem bears_go {a : x_St} (hI : WF a) {k n : Nat} (hk : k < 16) (h : nI k < a 1) : lastTo (fun v => decide (nI k < hoursF (upd a (8 + k) (nI v)) n 1)) 1000 = some 999 := by
  refine lastTo_at (m := 999) (decide_eq_true ?_) 1000 (by decide) (fun j h1 h2 => by omega)
  have hU : WF (upd a (8 + k) (nI 999)) := hI.upN (Or.inr (Or.inr (Or.inl (by omega)))) _
  have := yards_up hU n
  rw [upd_n _ _ (by omega)] at this
  rw [Int32.lt_iff_toInt_lt] at h ⊢
  omega
theorem bears_none {a : x_St} (hI : WF a) {k n : Nat} (hk : k < 16) (h : ¬ nI k < a 1) (hm : metTo a k n < 0) : lastTo (fun v => decide (nI k < hoursF (upd a (8 + k) (nI v)) n 1)) 1000 = none := by
  refine lastTo_not 1000 (fun v hv => decide_eq_false ?_)
  rw [bear_iff hI hk hv h]
  rw [Int32.lt_iff_toInt_lt, show (0 : Int32).toInt = 0 by decide] at hm
  omega
theorem bears_met {a : x_St} (hI : WF a) {k n : Nat} (hk : k < 16) (h : ¬ nI k < a 1) (hm : 0 ≤ metTo a k n) : ∃ v, lastTo (fun v => decide (nI k < hoursF (upd a (8 + k) (nI v)) n 1)) 1000 = some v ∧ minI (metTo a k n) 999 = nI v := by
  rw [Int32.le_iff_toInt_le, show (0 : Int32).toInt = 0 by decide] at hm
  have e9 : (999 : Int32).toInt = 999 := by decide
  by_cases c : 999 ≤ (metTo a k n).toInt
  · refine ⟨999, lastTo_at (m := 999) (decide_eq_true ((bear_iff hI hk (by decide) h).mpr (by omega))) 1000 (by decide) (fun j h1 h2 => by omega), ?_⟩
    refine i32_of ?_ (by decide)
    rw [minI_T, e9]
    split <;> omega
  · refine ⟨(metTo a k n).toInt.toNat, lastTo_at (decide_eq_true ((bear_iff hI hk (by omega) h).mpr (by omega))) 1000 (by omega) (fun j h1 h2 => decide_eq_false (fun z => ?_)), ?_⟩
    · have := (bear_iff hI hk h2 h).mp z
      omega
    · refine i32_of ?_ (by omega)
      rw [minI_T, e9]
      split <;> omega
