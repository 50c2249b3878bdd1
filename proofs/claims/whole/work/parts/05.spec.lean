/-! THE MEANING: a line's state is one row a of numbers, as the reference lays it: 0 HOUR, 1 TRAIN, 2 NIGHT, 3 GAIN, 4 LOSS, 5 FALLS, 6 z, 7 PEOPLE, 8 .. NEED, 24 + 3 p KIND, WHERE, BELIEF of p, 48 .. SPOTS -/
abbrev x_St : Type := Nat → Int32
/-- how many there are -/
def pn (a : x_St) : Nat := (a 7).toNatClampNeg
def sumTo (f : Nat → Int32) : Nat → Int32
  | 0 => 0
  | n + 1 => sumTo f n + f n
/-- counted from a start -/
def cntTo (b : Int32) (f : Nat → Bool) : Nat → Int32
  | 0 => b
  | n + 1 => if f n = true then cntTo b f n + 1 else cntTo b f n
def compF (a : x_St) (p : Nat) : Int32 := cntTo (-1) (fun o => decide (a (24 + 3 * o + 1) = a (24 + 3 * p + 1))) (pn a)
def dayF (a : x_St) : Int32 := if a 2 = 0 then 20 else 0
def faithF (a : x_St) (p : Nat) : Int32 :=
  if a (24 + 3 * p) = 1 then a (24 + 3 * p + 2) / 2
  else if a (24 + 3 * p) = 2 then a (24 + 3 * p + 2) + dayF a
  else if a (24 + 3 * p) = 3 then a (24 + 3 * p + 2) + dayF a - minI (a 5) 30
  else if a (24 + 3 * p) = 4 then a (24 + 3 * p + 2) + dayF a - minI (a 5) 30 + 5 * compF a p
  else if a (24 + 3 * p) = 5 then (if a 2 = 0 then a (24 + 3 * p + 2) else 2 * a (24 + 3 * p + 2))
  else if a (24 + 3 * p) = 6 then a (24 + 3 * p + 2) / 2 - 20
  else a (24 + 3 * p + 2)
def farF (w k : Int32) : Int32 := if w ≤ k then k - w else w - k - 1
def bringsF (a : x_St) (p : Nat) (k : Int32) : Int32 := if a (24 + 3 * p + 1) = -1 then faithF a p else maxI 0 (faithF a p - 10 * farF (a (24 + 3 * p + 1)) k)
def sumF (a : x_St) (k : Int32) : Int32 := sumTo (fun p => bringsF a p k) (pn a)
def thereB (a : x_St) (k : Nat) : Bool := decide (a (8 + k) ≤ sumF a (nI k))
/-- a set of those k < n with f -/
def setTo (f : Nat → Bool) : Nat → Int32
  | 0 => 0
  | n + 1 => if f n = true then setTo f n ||| (1 <<< (nI n &&& 31)) else setTo f n
def thereF (a : x_St) : Int32 := setTo (thereB a) 16
def aboardF (a : x_St) : Int32 := setTo (fun p => decide (a (24 + 3 * p + 1) = -1)) (pn a)
def beliefsF (a : x_St) : Int32 := sumTo (fun p => a (24 + 3 * p + 2)) (pn a)
/-- an hour -/
def clampF (x : Int32) : Int32 := maxI 0 (minI 99 x)
def moveTo (a : x_St) (by_ : Int32) : Nat → x_St
  | 0 => a
  | n + 1 => if a (24 + 3 * n + 1) = -1 then upd (moveTo a by_ n) (24 + 3 * n + 2) (clampF (a (24 + 3 * n + 2) + by_)) else moveTo a by_ n
def withB (a : x_St) (p : Nat) : Nat → Bool := fun o => decide (a (24 + 3 * o + 1) = a (24 + 3 * p + 1))
def sumWith (a : x_St) (p : Nat) : Int32 := sumTo (fun o => if withB a p o = true then a (24 + 3 * o + 2) else 0) (pn a)
def numWith (a : x_St) (p : Nat) : Int32 := cntTo 0 (withB a p) (pn a)
def meanF (a : x_St) (p : Nat) : Int32 := sumWith a p / numWith a p
def swayV (a : x_St) (p : Nat) : Int32 := if a (24 + 3 * p + 2) < meanF a p then a (24 + 3 * p + 2) + 1 else if meanF a p < a (24 + 3 * p + 2) then a (24 + 3 * p + 2) - 1 else a (24 + 3 * p + 2)
def swayTo (a : x_St) : Nat → x_St
  | 0 => a
  | n + 1 => upd (swayTo a n) (24 + 3 * n + 2) (swayV a n)
def swayF (a : x_St) : x_St := swayTo a (pn a)
def fallB (a : x_St) : Bool := decide (a 1 < 16) && !thereB a (a 1).toNatClampNeg
def rideF (a : x_St) : x_St :=
  if a 1 < 16 then (if thereB a (a 1).toNatClampNeg = true then moveTo (upd a 1 (a 1 + 1)) (a 3) (pn a) else moveTo (upd a 5 (minI (a 5 + 1) 99999)) (-a 4) (pn a))
  else a
def hourF (a : x_St) : x_St := upd (swayF (rideF a)) 0 (a 0 + 1)
def hoursF (a : x_St) : Nat → x_St
  | 0 => a
  | n + 1 => hourF (hoursF a n)
def anyTo (f : Nat → Bool) : Nat → Bool
  | 0 => false
  | n + 1 => anyTo f n || f n
/-- the hour leaves another yard, or a belief that is another -/
def movedB (a : x_St) : Bool := decide (¬ hourF a 1 = a 1) || anyTo (fun p => decide (¬ hourF a (24 + 3 * p + 2) = a (24 + 3 * p + 2))) (pn a)
/-- some ride, the others wait where the train is -/
def rideTo (a : x_St) (f : Nat → Bool) : Nat → x_St
  | 0 => a
  | n + 1 => upd (rideTo a f n) (24 + 3 * n + 1) (if f n = true then -1 else a 1)
/-- what always holds of a line: numbers in their bounds (NEEDS apart) -/
def WF (a : x_St) : Prop := pn a ≤ 8 ∧ a 7 = nI (pn a) ∧ (∀ p, p < 8 → ∃ k, k < 7 ∧ a (24 + 3 * p) = nI k) ∧ (∀ p, p < 8 → a (24 + 3 * p + 1) = -1 ∨ ∃ w, w < 17 ∧ a (24 + 3 * p + 1) = nI w) ∧ (∀ p, p < 8 → ∃ b, b < 100 ∧ a (24 + 3 * p + 2) = nI b) ∧
  (∃ t, t < 17 ∧ a 1 = nI t) ∧ (a 2 = 0 ∨ a 2 = 1) ∧ (∃ g, g < 21 ∧ a 3 = nI g) ∧ (∃ g, g < 21 ∧ a 4 = nI g) ∧ (∃ f, f < 100000 ∧ a 5 = nI f)
/-- a line of the class at place o holds the state a (HOUR apart) -/
def PR (a : x_St) (o : Nat) (μ : x_Mem) : Prop := (∀ j, j < 16 → μ (o + 1) j = a (8 + j)) ∧ (∀ p, p < 8 → μ (o + 2) p = a (24 + 3 * p)) ∧ (∀ p, p < 8 → μ (o + 3) p = a (24 + 3 * p + 1)) ∧ (∀ p, p < 8 → μ (o + 4) p = a (24 + 3 * p + 2)) ∧ (∀ j, j < 10 → μ (o + 5) j = a (48 + j)) ∧
  (μ o 5 = a 7 ∧ μ o 6 = a 1 ∧ μ o 7 = a 2 ∧ μ o 8 = a 3 ∧ μ o 9 = a 4 ∧ μ o 10 = a 5 ∧ μ o 12 = a 6)
theorem PR.need {a : x_St} {o : Nat} {μ : x_Mem} (h : PR a o μ) (j : Nat) (hj : j < 16) : μ (o + 1) j = a (8 + j) := h.1 j hj
theorem PR.kd {a : x_St} {o : Nat} {μ : x_Mem} (h : PR a o μ) (j : Nat) (hj : j < 8) : μ (o + 2) j = a (24 + 3 * j) := h.2.1 j hj
theorem PR.wh {a : x_St} {o : Nat} {μ : x_Mem} (h : PR a o μ) (j : Nat) (hj : j < 8) : μ (o + 3) j = a (24 + 3 * j + 1) := h.2.2.1 j hj
theorem PR.bl {a : x_St} {o : Nat} {μ : x_Mem} (h : PR a o μ) (j : Nat) (hj : j < 8) : μ (o + 4) j = a (24 + 3 * j + 2) := h.2.2.2.1 j hj
theorem PR.spot {a : x_St} {o : Nat} {μ : x_Mem} (h : PR a o μ) (j : Nat) (hj : j < 10) : μ (o + 5) j = a (48 + j) := h.2.2.2.2.1 j hj
theorem PR.f5 {a : x_St} {o : Nat} {μ : x_Mem} (h : PR a o μ) : μ o 5 = a 7 := h.2.2.2.2.2.1
theorem PR.f6 {a : x_St} {o : Nat} {μ : x_Mem} (h : PR a o μ) : μ o 6 = a 1 := h.2.2.2.2.2.2.1
theorem PR.f7 {a : x_St} {o : Nat} {μ : x_Mem} (h : PR a o μ) : μ o 7 = a 2 := h.2.2.2.2.2.2.2.1
theorem PR.f8 {a : x_St} {o : Nat} {μ : x_Mem} (h : PR a o μ) : μ o 8 = a 3 := h.2.2.2.2.2.2.2.2.1
theorem PR.f9 {a : x_St} {o : Nat} {μ : x_Mem} (h : PR a o μ) : μ o 9 = a 4 := h.2.2.2.2.2.2.2.2.2.1
theorem PR.f10 {a : x_St} {o : Nat} {μ : x_Mem} (h : PR a o μ) : μ o 10 = a 5 := h.2.2.2.2.2.2.2.2.2.2.1
theorem PR.f12 {a : x_St} {o : Nat} {μ : x_Mem} (h : PR a o μ) : μ o 12 = a 6 := h.2.2.2.2.2.2.2.2.2.2.2
theorem PR.cg {a : x_St} {o : Nat} {μ μ' : x_Mem} (h : PR a o μ) (e : ∀ id, o ≤ id ∧ id < o + 6 → μ' id = μ id) : PR a o μ' := by
  have e0 := e o (by omega)
  have e1 := e (o + 1) (by omega)
  have e2 := e (o + 2) (by omega)
  have e3 := e (o + 3) (by omega)
  have e4 := e (o + 4) (by omega)
  have e5 := e (o + 5) (by omega)
  unfold PR
  rw [e0, e1, e2, e3, e4, e5]
  exact h
theorem upd_s (f : x_St) (k : Nat) (x : Int32) : upd f k x k = x := if_pos rfl
theorem upd_n (f : x_St) {k j : Nat} (x : Int32) (h : j ≠ k) : upd f k x j = f j := if_neg h
theorem PR.w5 {a : x_St} {o : Nat} {μ μ' : x_Mem} {x : Int32} (h : PR a o μ) (e : μ' = upd2 μ o 5 x) : PR (upd a 7 x) o μ' := by
  subst e
  obtain ⟨h1, h2, h3, h4, h5, g5, g6, g7, g8, g9, g10, g12⟩ := h
  refine ⟨fun k hk => ?_, fun k hk => ?_, fun k hk => ?_, fun k hk => ?_, fun k hk => ?_, ?_, ?_, ?_, ?_, ?_, ?_, ?_⟩
  · rw [upd2_ne _ _ _ (by omega), upd_n _ _ (by omega)]; exact h1 k hk
  · rw [upd2_ne _ _ _ (by omega), upd_n _ _ (by omega)]; exact h2 k hk
  · rw [upd2_ne _ _ _ (by omega), upd_n _ _ (by omega)]; exact h3 k hk
  · rw [upd2_ne _ _ _ (by omega), upd_n _ _ (by omega)]; exact h4 k hk
  · rw [upd2_ne _ _ _ (by omega), upd_n _ _ (by omega)]; exact h5 k hk
  · rw [upd2_at, upd_s, upd_s]
  · rw [upd2_at, upd_n _ _ (by decide), upd_n _ _ (by decide)]; exact g6
  · rw [upd2_at, upd_n _ _ (by decide), upd_n _ _ (by decide)]; exact g7
  · rw [upd2_at, upd_n _ _ (by decide), upd_n _ _ (by decide)]; exact g8
  · rw [upd2_at, upd_n _ _ (by decide), upd_n _ _ (by decide)]; exact g9
  · rw [upd2_at, upd_n _ _ (by decide), upd_n _ _ (by decide)]; exact g10
  · rw [upd2_at, upd_n _ _ (by decide), upd_n _ _ (by decide)]; exact g12
theorem PR.w6 {a : x_St} {o : Nat} {μ μ' : x_Mem} {x : Int32} (h : PR a o μ) (e : μ' = upd2 μ o 6 x) : PR (upd a 1 x) o μ' := by
  subst e
  obtain ⟨h1, h2, h3, h4, h5, g5, g6, g7, g8, g9, g10, g12⟩ := h
  refine ⟨fun k hk => ?_, fun k hk => ?_, fun k hk => ?_, fun k hk => ?_, fun k hk => ?_, ?_, ?_, ?_, ?_, ?_, ?_, ?_⟩
  · rw [upd2_ne _ _ _ (by omega), upd_n _ _ (by omega)]; exact h1 k hk
  · rw [upd2_ne _ _ _ (by omega), upd_n _ _ (by omega)]; exact h2 k hk
  · rw [upd2_ne _ _ _ (by omega), upd_n _ _ (by omega)]; exact h3 k hk
  · rw [upd2_ne _ _ _ (by omega), upd_n _ _ (by omega)]; exact h4 k hk
  · rw [upd2_ne _ _ _ (by omega), upd_n _ _ (by omega)]; exact h5 k hk
  · rw [upd2_at, upd_n _ _ (by decide), upd_n _ _ (by decide)]; exact g5
  · rw [upd2_at, upd_s, upd_s]
  · rw [upd2_at, upd_n _ _ (by decide), upd_n _ _ (by decide)]; exact g7
  · rw [upd2_at, upd_n _ _ (by decide), upd_n _ _ (by decide)]; exact g8
  · rw [upd2_at, upd_n _ _ (by decide), upd_n _ _ (by decide)]; exact g9
  · rw [upd2_at, upd_n _ _ (by decide), upd_n _ _ (by decide)]; exact g10
  · rw [upd2_at, upd_n _ _ (by decide), upd_n _ _ (by decide)]; exact g12
theorem PR.w7 {a : x_St} {o : Nat} {μ μ' : x_Mem} {x : Int32} (h : PR a o μ) (e : μ' = upd2 μ o 7 x) : PR (upd a 2 x) o μ' := by
  subst e
  obtain ⟨h1, h2, h3, h4, h5, g5, g6, g7, g8, g9, g10, g12⟩ := h
  refine ⟨fun k hk => ?_, fun k hk => ?_, fun k hk => ?_, fun k hk => ?_, fun k hk => ?_, ?_, ?_, ?_, ?_, ?_, ?_, ?_⟩
  · rw [upd2_ne _ _ _ (by omega), upd_n _ _ (by omega)]; exact h1 k hk
  · rw [upd2_ne _ _ _ (by omega), upd_n _ _ (by omega)]; exact h2 k hk
  · rw [upd2_ne _ _ _ (by omega), upd_n _ _ (by omega)]; exact h3 k hk
  · rw [upd2_ne _ _ _ (by omega), upd_n _ _ (by omega)]; exact h4 k hk
  · rw [upd2_ne _ _ _ (by omega), upd_n _ _ (by omega)]; exact h5 k hk
  · rw [upd2_at, upd_n _ _ (by decide), upd_n _ _ (by decide)]; exact g5
  · rw [upd2_at, upd_n _ _ (by decide), upd_n _ _ (by decide)]; exact g6
  · rw [upd2_at, upd_s, upd_s]
  · rw [upd2_at, upd_n _ _ (by decide), upd_n _ _ (by decide)]; exact g8
  · rw [upd2_at, upd_n _ _ (by decide), upd_n _ _ (by decide)]; exact g9
  · rw [upd2_at, upd_n _ _ (by decide), upd_n _ _ (by decide)]; exact g10
  · rw [upd2_at, upd_n _ _ (by decide), upd_n _ _ (by decide)]; exact g12
theorem PR.w8 {a : x_St} {o : Nat} {μ μ' : x_Mem} {x : Int32} (h : PR a o μ) (e : μ' = upd2 μ o 8 x) : PR (upd a 3 x) o μ' := by
  subst e
  obtain ⟨h1, h2, h3, h4, h5, g5, g6, g7, g8, g9, g10, g12⟩ := h
  refine ⟨fun k hk => ?_, fun k hk => ?_, fun k hk => ?_, fun k hk => ?_, fun k hk => ?_, ?_, ?_, ?_, ?_, ?_, ?_, ?_⟩
  · rw [upd2_ne _ _ _ (by omega), upd_n _ _ (by omega)]; exact h1 k hk
  · rw [upd2_ne _ _ _ (by omega), upd_n _ _ (by omega)]; exact h2 k hk
  · rw [upd2_ne _ _ _ (by omega), upd_n _ _ (by omega)]; exact h3 k hk
  · rw [upd2_ne _ _ _ (by omega), upd_n _ _ (by omega)]; exact h4 k hk
  · rw [upd2_ne _ _ _ (by omega), upd_n _ _ (by omega)]; exact h5 k hk
  · rw [upd2_at, upd_n _ _ (by decide), upd_n _ _ (by decide)]; exact g5
  · rw [upd2_at, upd_n _ _ (by decide), upd_n _ _ (by decide)]; exact g6
  · rw [upd2_at, upd_n _ _ (by decide), upd_n _ _ (by decide)]; exact g7
  · rw [upd2_at, upd_s, upd_s]
  · rw [upd2_at, upd_n _ _ (by decide), upd_n _ _ (by decide)]; exact g9
  · rw [upd2_at, upd_n _ _ (by decide), upd_n _ _ (by decide)]; exact g10
  · rw [upd2_at, upd_n _ _ (by decide), upd_n _ _ (by decide)]; exact g12
theorem PR.w9 {a : x_St} {o : Nat} {μ μ' : x_Mem} {x : Int32} (h : PR a o μ) (e : μ' = upd2 μ o 9 x) : PR (upd a 4 x) o μ' := by
  subst e
  obtain ⟨h1, h2, h3, h4, h5, g5, g6, g7, g8, g9, g10, g12⟩ := h
  refine ⟨fun k hk => ?_, fun k hk => ?_, fun k hk => ?_, fun k hk => ?_, fun k hk => ?_, ?_, ?_, ?_, ?_, ?_, ?_, ?_⟩
  · rw [upd2_ne _ _ _ (by omega), upd_n _ _ (by omega)]; exact h1 k hk
  · rw [upd2_ne _ _ _ (by omega), upd_n _ _ (by omega)]; exact h2 k hk
  · rw [upd2_ne _ _ _ (by omega), upd_n _ _ (by omega)]; exact h3 k hk
  · rw [upd2_ne _ _ _ (by omega), upd_n _ _ (by omega)]; exact h4 k hk
  · rw [upd2_ne _ _ _ (by omega), upd_n _ _ (by omega)]; exact h5 k hk
  · rw [upd2_at, upd_n _ _ (by decide), upd_n _ _ (by decide)]; exact g5
  · rw [upd2_at, upd_n _ _ (by decide), upd_n _ _ (by decide)]; exact g6
  · rw [upd2_at, upd_n _ _ (by decide), upd_n _ _ (by decide)]; exact g7
  · rw [upd2_at, upd_n _ _ (by decide), upd_n _ _ (by decide)]; exact g8
  · rw [upd2_at, upd_s, upd_s]
  · rw [upd2_at, upd_n _ _ (by decide), upd_n _ _ (by decide)]; exact g10
  · rw [upd2_at, upd_n _ _ (by decide), upd_n _ _ (by decide)]; exact g12
theorem PR.w10 {a : x_St} {o : Nat} {μ μ' : x_Mem} {x : Int32} (h : PR a o μ) (e : μ' = upd2 μ o 10 x) : PR (upd a 5 x) o μ' := by
  subst e
  obtain ⟨h1, h2, h3, h4, h5, g5, g6, g7, g8, g9, g10, g12⟩ := h
  refine ⟨fun k hk => ?_, fun k hk => ?_, fun k hk => ?_, fun k hk => ?_, fun k hk => ?_, ?_, ?_, ?_, ?_, ?_, ?_, ?_⟩
  · rw [upd2_ne _ _ _ (by omega), upd_n _ _ (by omega)]; exact h1 k hk
  · rw [upd2_ne _ _ _ (by omega), upd_n _ _ (by omega)]; exact h2 k hk
  · rw [upd2_ne _ _ _ (by omega), upd_n _ _ (by omega)]; exact h3 k hk
  · rw [upd2_ne _ _ _ (by omega), upd_n _ _ (by omega)]; exact h4 k hk
  · rw [upd2_ne _ _ _ (by omega), upd_n _ _ (by omega)]; exact h5 k hk
  · rw [upd2_at, upd_n _ _ (by decide), upd_n _ _ (by decide)]; exact g5
  · rw [upd2_at, upd_n _ _ (by decide), upd_n _ _ (by decide)]; exact g6
  · rw [upd2_at, upd_n _ _ (by decide), upd_n _ _ (by decide)]; exact g7
  · rw [upd2_at, upd_n _ _ (by decide), upd_n _ _ (by decide)]; exact g8
  · rw [upd2_at, upd_n _ _ (by decide), upd_n _ _ (by decide)]; exact g9
  · rw [upd2_at, upd_s, upd_s]
  · rw [upd2_at, upd_n _ _ (by decide), upd_n _ _ (by decide)]; exact g12
theorem PR.w12 {a : x_St} {o : Nat} {μ μ' : x_Mem} {x : Int32} (h : PR a o μ) (e : μ' = upd2 μ o 12 x) : PR (upd a 6 x) o μ' := by
  subst e
  obtain ⟨h1, h2, h3, h4, h5, g5, g6, g7, g8, g9, g10, g12⟩ := h
  refine ⟨fun k hk => ?_, fun k hk => ?_, fun k hk => ?_, fun k hk => ?_, fun k hk => ?_, ?_, ?_, ?_, ?_, ?_, ?_, ?_⟩
  · rw [upd2_ne _ _ _ (by omega), upd_n _ _ (by omega)]; exact h1 k hk
  · rw [upd2_ne _ _ _ (by omega), upd_n _ _ (by omega)]; exact h2 k hk
  · rw [upd2_ne _ _ _ (by omega), upd_n _ _ (by omega)]; exact h3 k hk
  · rw [upd2_ne _ _ _ (by omega), upd_n _ _ (by omega)]; exact h4 k hk
  · rw [upd2_ne _ _ _ (by omega), upd_n _ _ (by omega)]; exact h5 k hk
  · rw [upd2_at, upd_n _ _ (by decide), upd_n _ _ (by decide)]; exact g5
  · rw [upd2_at, upd_n _ _ (by decide), upd_n _ _ (by decide)]; exact g6
  · rw [upd2_at, upd_n _ _ (by decide), upd_n _ _ (by decide)]; exact g7
  · rw [upd2_at, upd_n _ _ (by decide), upd_n _ _ (by decide)]; exact g8
  · rw [upd2_at, upd_n _ _ (by decide), upd_n _ _ (by decide)]; exact g9
  · rw [upd2_at, upd_n _ _ (by decide), upd_n _ _ (by decide)]; exact g10
  · rw [upd2_at, upd_s, upd_s]
theorem PR.w11 {a : x_St} {o : Nat} {μ μ' : x_Mem} {x : Int32} (h : PR a o μ) (e : μ' = upd2 μ o 11 x) : PR a o μ' := by
  subst e
  obtain ⟨h1, h2, h3, h4, h5, g5, g6, g7, g8, g9, g10, g12⟩ := h
  refine ⟨fun k hk => ?_, fun k hk => ?_, fun k hk => ?_, fun k hk => ?_, fun k hk => ?_, ?_, ?_, ?_, ?_, ?_, ?_, ?_⟩
  · rw [upd2_ne _ _ _ (by omega)]; exact h1 k hk
  · rw [upd2_ne _ _ _ (by omega)]; exact h2 k hk
  · rw [upd2_ne _ _ _ (by omega)]; exact h3 k hk
  · rw [upd2_ne _ _ _ (by omega)]; exact h4 k hk
  · rw [upd2_ne _ _ _ (by omega)]; exact h5 k hk
  · rw [upd2_at, upd_n _ _ (by decide)]; exact g5
  · rw [upd2_at, upd_n _ _ (by decide)]; exact g6
  · rw [upd2_at, upd_n _ _ (by decide)]; exact g7
  · rw [upd2_at, upd_n _ _ (by decide)]; exact g8
  · rw [upd2_at, upd_n _ _ (by decide)]; exact g9
  · rw [upd2_at, upd_n _ _ (by decide)]; exact g10
  · rw [upd2_at, upd_n _ _ (by decide)]; exact g12
theorem PR.a1 {a : x_St} {o i : Nat} {μ μ' : x_Mem} {x : Int32} (h : PR a o μ) (e : μ' = upd2 μ (o + 1) i x) (hi : i < 16) : PR (upd a (8 + i) x) o μ' := by
  subst e
  obtain ⟨h1, h2, h3, h4, h5, g5, g6, g7, g8, g9, g10, g12⟩ := h
  refine ⟨fun k hk => ?_, fun k hk => ?_, fun k hk => ?_, fun k hk => ?_, fun k hk => ?_, ?_, ?_, ?_, ?_, ?_, ?_, ?_⟩
  · by_cases hki : k = i
    · subst hki; rw [upd2_at, upd_s, upd_s]
    · rw [upd2_at, upd_n _ _ hki, upd_n _ _ (by omega)]; exact h1 k hk
  · rw [upd2_ne _ _ _ (by omega), upd_n _ _ (by omega)]; exact h2 k hk
  · rw [upd2_ne _ _ _ (by omega), upd_n _ _ (by omega)]; exact h3 k hk
  · rw [upd2_ne _ _ _ (by omega), upd_n _ _ (by omega)]; exact h4 k hk
  · rw [upd2_ne _ _ _ (by omega), upd_n _ _ (by omega)]; exact h5 k hk
  · rw [upd2_ne _ _ _ (by omega), upd_n _ _ (by omega)]; exact g5
  · rw [upd2_ne _ _ _ (by omega), upd_n _ _ (by omega)]; exact g6
  · rw [upd2_ne _ _ _ (by omega), upd_n _ _ (by omega)]; exact g7
  · rw [upd2_ne _ _ _ (by omega), upd_n _ _ (by omega)]; exact g8
  · rw [upd2_ne _ _ _ (by omega), upd_n _ _ (by omega)]; exact g9
  · rw [upd2_ne _ _ _ (by omega), upd_n _ _ (by omega)]; exact g10
  · rw [upd2_ne _ _ _ (by omega), upd_n _ _ (by omega)]; exact g12
theorem PR.a2 {a : x_St} {o i : Nat} {μ μ' : x_Mem} {x : Int32} (h : PR a o μ) (e : μ' = upd2 μ (o + 2) i x) (hi : i < 8) : PR (upd a (24 + 3 * i) x) o μ' := by
  subst e
  obtain ⟨h1, h2, h3, h4, h5, g5, g6, g7, g8, g9, g10, g12⟩ := h
  refine ⟨fun k hk => ?_, fun k hk => ?_, fun k hk => ?_, fun k hk => ?_, fun k hk => ?_, ?_, ?_, ?_, ?_, ?_, ?_, ?_⟩
  · rw [upd2_ne _ _ _ (by omega), upd_n _ _ (by omega)]; exact h1 k hk
  · by_cases hki : k = i
    · subst hki; rw [upd2_at, upd_s, upd_s]
    · rw [upd2_at, upd_n _ _ hki, upd_n _ _ (by omega)]; exact h2 k hk
  · rw [upd2_ne _ _ _ (by omega), upd_n _ _ (by omega)]; exact h3 k hk
  · rw [upd2_ne _ _ _ (by omega), upd_n _ _ (by omega)]; exact h4 k hk
  · rw [upd2_ne _ _ _ (by omega), upd_n _ _ (by omega)]; exact h5 k hk
  · rw [upd2_ne _ _ _ (by omega), upd_n _ _ (by omega)]; exact g5
  · rw [upd2_ne _ _ _ (by omega), upd_n _ _ (by omega)]; exact g6
  · rw [upd2_ne _ _ _ (by omega), upd_n _ _ (by omega)]; exact g7
  · rw [upd2_ne _ _ _ (by omega), upd_n _ _ (by omega)]; exact g8
  · rw [upd2_ne _ _ _ (by omega), upd_n _ _ (by omega)]; exact g9
  · rw [upd2_ne _ _ _ (by omega), upd_n _ _ (by omega)]; exact g10
  · rw [upd2_ne _ _ _ (by omega), upd_n _ _ (by omega)]; exact g12
theorem PR.a3 {a : x_St} {o i : Nat} {μ μ' : x_Mem} {x : Int32} (h : PR a o μ) (e : μ' = upd2 μ (o + 3) i x) (hi : i < 8) : PR (upd a (24 + 3 * i + 1) x) o μ' := by
  subst e
  obtain ⟨h1, h2, h3, h4, h5, g5, g6, g7, g8, g9, g10, g12⟩ := h
  refine ⟨fun k hk => ?_, fun k hk => ?_, fun k hk => ?_, fun k hk => ?_, fun k hk => ?_, ?_, ?_, ?_, ?_, ?_, ?_, ?_⟩
  · rw [upd2_ne _ _ _ (by omega), upd_n _ _ (by omega)]; exact h1 k hk
  · rw [upd2_ne _ _ _ (by omega), upd_n _ _ (by omega)]; exact h2 k hk
  · by_cases hki : k = i
    · subst hki; rw [upd2_at, upd_s, upd_s]
    · rw [upd2_at, upd_n _ _ hki, upd_n _ _ (by omega)]; exact h3 k hk
  · rw [upd2_ne _ _ _ (by omega), upd_n _ _ (by omega)]; exact h4 k hk
  · rw [upd2_ne _ _ _ (by omega), upd_n _ _ (by omega)]; exact h5 k hk
  · rw [upd2_ne _ _ _ (by omega), upd_n _ _ (by omega)]; exact g5
  · rw [upd2_ne _ _ _ (by omega), upd_n _ _ (by omega)]; exact g6
  · rw [upd2_ne _ _ _ (by omega), upd_n _ _ (by omega)]; exact g7
  · rw [upd2_ne _ _ _ (by omega), upd_n _ _ (by omega)]; exact g8
  · rw [upd2_ne _ _ _ (by omega), upd_n _ _ (by omega)]; exact g9
  · rw [upd2_ne _ _ _ (by omega), upd_n _ _ (by omega)]; exact g10
  · rw [upd2_ne _ _ _ (by omega), upd_n _ _ (by omega)]; exact g12
theorem PR.a4 {a : x_St} {o i : Nat} {μ μ' : x_Mem} {x : Int32} (h : PR a o μ) (e : μ' = upd2 μ (o + 4) i x) (hi : i < 8) : PR (upd a (24 + 3 * i + 2) x) o μ' := by
  subst e
  obtain ⟨h1, h2, h3, h4, h5, g5, g6, g7, g8, g9, g10, g12⟩ := h
  refine ⟨fun k hk => ?_, fun k hk => ?_, fun k hk => ?_, fun k hk => ?_, fun k hk => ?_, ?_, ?_, ?_, ?_, ?_, ?_, ?_⟩
  · rw [upd2_ne _ _ _ (by omega), upd_n _ _ (by omega)]; exact h1 k hk
  · rw [upd2_ne _ _ _ (by omega), upd_n _ _ (by omega)]; exact h2 k hk
  · rw [upd2_ne _ _ _ (by omega), upd_n _ _ (by omega)]; exact h3 k hk
  · by_cases hki : k = i
    · subst hki; rw [upd2_at, upd_s, upd_s]
    · rw [upd2_at, upd_n _ _ hki, upd_n _ _ (by omega)]; exact h4 k hk
  · rw [upd2_ne _ _ _ (by omega), upd_n _ _ (by omega)]; exact h5 k hk
  · rw [upd2_ne _ _ _ (by omega), upd_n _ _ (by omega)]; exact g5
  · rw [upd2_ne _ _ _ (by omega), upd_n _ _ (by omega)]; exact g6
  · rw [upd2_ne _ _ _ (by omega), upd_n _ _ (by omega)]; exact g7
  · rw [upd2_ne _ _ _ (by omega), upd_n _ _ (by omega)]; exact g8
  · rw [upd2_ne _ _ _ (by omega), upd_n _ _ (by omega)]; exact g9
  · rw [upd2_ne _ _ _ (by omega), upd_n _ _ (by omega)]; exact g10
  · rw [upd2_ne _ _ _ (by omega), upd_n _ _ (by omega)]; exact g12
theorem PR.a5 {a : x_St} {o i : Nat} {μ μ' : x_Mem} {x : Int32} (h : PR a o μ) (e : μ' = upd2 μ (o + 5) i x) (hi : i < 10) : PR (upd a (48 + i) x) o μ' := by
  subst e
  obtain ⟨h1, h2, h3, h4, h5, g5, g6, g7, g8, g9, g10, g12⟩ := h
  refine ⟨fun k hk => ?_, fun k hk => ?_, fun k hk => ?_, fun k hk => ?_, fun k hk => ?_, ?_, ?_, ?_, ?_, ?_, ?_, ?_⟩
  · rw [upd2_ne _ _ _ (by omega), upd_n _ _ (by omega)]; exact h1 k hk
  · rw [upd2_ne _ _ _ (by omega), upd_n _ _ (by omega)]; exact h2 k hk
  · rw [upd2_ne _ _ _ (by omega), upd_n _ _ (by omega)]; exact h3 k hk
  · rw [upd2_ne _ _ _ (by omega), upd_n _ _ (by omega)]; exact h4 k hk
  · by_cases hki : k = i
    · subst hki; rw [upd2_at, upd_s, upd_s]
    · rw [upd2_at, upd_n _ _ hki, upd_n _ _ (by omega)]; exact h5 k hk
  · rw [upd2_ne _ _ _ (by omega), upd_n _ _ (by omega)]; exact g5
  · rw [upd2_ne _ _ _ (by omega), upd_n _ _ (by omega)]; exact g6
  · rw [upd2_ne _ _ _ (by omega), upd_n _ _ (by omega)]; exact g7
  · rw [upd2_ne _ _ _ (by omega), upd_n _ _ (by omega)]; exact g8
  · rw [upd2_ne _ _ _ (by omega), upd_n _ _ (by omega)]; exact g9
  · rw [upd2_ne _ _ _ (by omega), upd_n _ _ (by omega)]; exact g10
  · rw [upd2_ne _ _ _ (by omega), upd_n _ _ (by omega)]; exact g12
