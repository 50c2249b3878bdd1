/-! THE WHOLE STATE, and how the class holds it -/
/-- line, image, whether one is kept, how many bytes, bytes, bits of sheets, their sizes, their numbers, findings -/
abbrev x_SG : Type := x_St × x_St × Bool × Nat × (Nat → Int32) × (Nat → Int32) × (Nat → Nat) × (Nat → Nat → Int32) × (Nat → Int32)
def gA (g : x_SG) : x_St := g.1
def gK (g : x_SG) : x_St := g.2.1
def gP (g : x_SG) : Bool := g.2.2.1
def gT (g : x_SG) : Nat := g.2.2.2.1
def gB (g : x_SG) : Nat → Int32 := g.2.2.2.2.1
def gSb (g : x_SG) : Nat → Int32 := g.2.2.2.2.2.1
def gSz (g : x_SG) : Nat → Nat := g.2.2.2.2.2.2.1
def gSn (g : x_SG) : Nat → Nat → Int32 := g.2.2.2.2.2.2.2.1
def gF (g : x_SG) : Nat → Int32 := g.2.2.2.2.2.2.2.2
def sA (g : x_SG) (a : x_St) : x_SG := (a, g.2)
def sF (g : x_SG) (f : Nat → Int32) : x_SG := (gA g, gK g, gP g, gT g, gB g, gSb g, gSz g, gSn g, f)
def sK (g : x_SG) (k : x_St) (p : Bool) : x_SG := (gA g, k, p, gT g, gB g, gSb g, gSz g, gSn g, gF g)
def sT (g : x_SG) (n : Nat) (b : Nat → Int32) : x_SG := (gA g, gK g, gP g, n, b, gSb g, gSz g, gSn g, gF g)
def sS (g : x_SG) (b : Nat → Int32) (z : Nat → Nat) (n : Nat → Nat → Int32) : x_SG := (gA g, gK g, gP g, gT g, gB g, b, z, n, gF g)
/-- the findings by their number -/
def cst (i : Nat) : Int32 := [-1000001, -1000002, -1000003, -1000004, -1000005, -1000006, -1000007].getD i 0
def fnd (g : x_SG) (i : Nat) : x_SG := sF g (upd (gF g) i (gF g i + 1))
def fin (g : x_SG) (i : Nat) : Int32 × x_SG := (cst i, fnd g i)
def inR (v lo hi : Int32) : Bool := decide (lo ≤ v ∧ v ≤ hi)
def isP (a : x_St) (p : Int32) : Bool := decide (0 ≤ p ∧ p < a 7)
theorem inR_nat {v : Int32} {n : Nat} (hn : n < 2 ^ 31) (h : inR v 0 (nI n) = true) : ∃ k, k ≤ n ∧ v = nI k := by
  obtain ⟨h1, h2⟩ := of_decide_eq_true h
  obtain ⟨k, hk, e⟩ := nI_of (Int32.not_lt.mpr h1)
  rw [e] at h2
  exact ⟨k, (nI_leI hk hn).mp h2, e⟩
theorem inR_of {k n : Nat} (hn : n < 2 ^ 31) (h : k ≤ n) : inR (nI k) 0 (nI n) = true := decide_eq_true ⟨nI_pos' (by omega), nI_le h hn⟩
theorem isP_nat {a : x_St} {p : Int32} (hI : WF a) (h : isP a p = true) : ∃ k, k < pn a ∧ p = nI k := by
  obtain ⟨h1, h2⟩ := of_decide_eq_true h
  obtain ⟨k, hk, e⟩ := nI_of (Int32.not_lt.mpr h1)
  have := hI.1
  rw [e, hI.2.1] at h2
  exact ⟨k, (nI_ltI hk (by omega)).mp h2, e⟩
theorem lt_le {x : Int32} {n : Nat} (hn : n + 1 < 2 ^ 31) : x < nI (n + 1) ↔ x ≤ nI n := by
  rw [Int32.lt_iff_toInt_lt, Int32.le_iff_toInt_le, nI_toInt hn, nI_toInt (by omega)]
  omega
/-- the parts of it, beside line and findings, as the class holds them -/
def XR (g : x_SG) (μ : x_Mem) : Prop := (gP g = true → PR (gK g) 19 μ ∧ μ 19 11 = gK g 0) ∧ μ 0 3 = x_b (gP g) ∧ μ 28 1 = nI (gT g) ∧ (∀ j, j < gT g → μ 29 j = (gB g j).toInt8.toInt32) ∧
  (∀ s, s < 4 → μ (33 + 2 * s) 0 = gSb g s) ∧ (∀ s, s < 4 → μ (33 + 2 * s) 1 = nI (gSz g s)) ∧ ∀ s, s < 4 → ∀ j, j < 40 → μ (33 + 2 * s + 1) j = gSn g s j
def XD (f : Nat → Int32) (μ : x_Mem) : Prop := ∀ j, j < 7 → μ 32 j = f j
def XS (g : x_SG) (μ : x_Mem) : Prop := PR (gA g) 1 μ ∧ μ 1 11 = gA g 0 ∧ XR g μ ∧ XD (gF g) μ
theorem XR.cg {g : x_SG} {μ μ' : x_Mem} (h : XR g μ) (e : ∀ id, (id = 0 ∨ (19 ≤ id ∧ id < 25) ∨ id = 28 ∨ id = 29 ∨ (33 ≤ id ∧ id < 41)) → μ' id = μ id) : XR g μ' := by
  obtain ⟨h1, h2, h3, h4, h5, h6, h7⟩ := h
  refine ⟨fun z => ⟨(h1 z).1.cg (fun id hid => e id (by omega)), ?_⟩, ?_, ?_, fun j hj => ?_, fun s hs => ?_, fun s hs => ?_, fun s hs j hj => ?_⟩
  · rw [e 19 (by omega)]; exact (h1 z).2
  · rw [e 0 (by omega)]; exact h2
  · rw [e 28 (by omega)]; exact h3
  · rw [e 29 (by omega)]; exact h4 j hj
  · rw [e _ (by omega)]; exact h5 s hs
  · rw [e _ (by omega)]; exact h6 s hs
  · rw [e _ (by omega)]; exact h7 s hs j hj
theorem XD.cg {f : Nat → Int32} {μ μ' : x_Mem} (h : XD f μ) (e : ∀ id, id = 32 → μ' id = μ id) : XD f μ' := fun j hj => by rw [e 32 rfl]; exact h j hj
theorem XD.w {f : Nat → Int32} {μ μ' : x_Mem} {i : Nat} {x : Int32} (h : XD f μ) (e : μ' = upd2 μ 32 i x) : XD (upd f i x) μ' := by
  subst e
  intro j hj
  rw [upd2_at]
  by_cases q : j = i
  · subst q; rw [upd_s, upd_s]
  · rw [upd_n _ _ q, upd_n _ _ q]; exact h j hj
-- the same state but for a part
theorem XR.a {g : x_SG} {μ : x_Mem} (h : XR g μ) (a : x_St) : XR (sA g a) μ := h
theorem XR.f {g : x_SG} {μ : x_Mem} (h : XR g μ) (f : Nat → Int32) : XR (sF g f) μ := h
theorem XS.fin {g : x_SG} {μ' : x_Mem} {i : Nat} (h1 : PR (gA g) 1 μ') (h2 : μ' 1 11 = gA g 0) (h3 : XR g μ') (h4 : XD (upd (gF g) i (gF g i + 1)) μ') : XS (fnd g i) μ' := ⟨h1, h2, h3, h4⟩
theorem XS.line {g : x_SG} {μ' : x_Mem} {a : x_St} (h1 : PR a 1 μ') (h2 : μ' 1 11 = a 0) (h3 : XR g μ') (h4 : XD (gF g) μ') : XS (sA g a) μ' := ⟨h1, h2, h3, h4⟩
/-- what always holds -/
def LI (a : x_St) : Prop := WF a ∧ (∀ k, k < 16 → ∃ n, n < 1000 ∧ a (8 + k) = nI n) ∧ (∀ j, j < 10 → a (48 + j) = -1 ∨ ∃ p, p < pn a ∧ a (48 + j) = nI p) ∧ ∃ h, h < 100000 ∧ a 0 = nI h
def Inv (g : x_SG) : Prop := LI (gA g) ∧ (gP g = true → LI (gK g)) ∧ gT g ≤ 120 ∧ (∀ j, j < gT g → ∃ b, b < 256 ∧ gB g j = nI b) ∧ (∀ s, s < 4 → gSz g s ≤ 40) ∧ (∀ s, s < 4 → gSb g s = 0 ∨ gSb g s = 8 ∨ gSb g s = 16 ∨ gSb g s = 32)
/-- what the calls mean -/
def F_need (g : x_SG) (k v : Int32) : Int32 × x_SG := if inR k 0 15 = true ∧ inR v 0 999 = true then (gA g (8 + k.toNatClampNeg), sA g (upd (gA g) (8 + k.toNatClampNeg) v)) else fin g 0
def F_stretch (g : x_SG) (k w : Int32) : Int32 × x_SG :=
  if inR k 0 15 = true then (if w = 0 then (gA g (8 + k.toNatClampNeg), g) else if w = 1 then (sumF (gA g) k, g) else if w = 2 then (x_b (thereB (gA g) k.toNatClampNeg), g) else fin g 0) else fin g 0
def F_person (g : x_SG) (k w : Int32) : Int32 × x_SG :=
  if inR k 0 6 = true ∧ inR w (-1) 16 = true then (if pn (gA g) < 8 then (nI (pn (gA g)), sA g (comeF (gA g) k w 50)) else fin g 1) else fin g 0
def F_of (g : x_SG) (p w : Int32) : Int32 × x_SG :=
  if isP (gA g) p = true then (if w = 0 then (gA g (24 + 3 * p.toNatClampNeg), g) else if w = 1 then (gA g (24 + 3 * p.toNatClampNeg + 1), g) else if w = 2 then (gA g (24 + 3 * p.toNatClampNeg + 2), g) else if w = 3 then (faithF (gA g) p.toNatClampNeg, g) else fin g 0) else fin g 0
def setL (g : x_SG) (j : Nat) (v : Int32) : Int32 × x_SG := (gA g j, sA g (upd (gA g) j v))
def F_change (g : x_SG) (p w v : Int32) : Int32 × x_SG :=
  if isP (gA g) p = true then
    (if w = 0 ∧ inR v 0 6 = true then setL g (24 + 3 * p.toNatClampNeg) v
     else if w = 1 ∧ inR v (-1) 16 = true then setL g (24 + 3 * p.toNatClampNeg + 1) v
     else if w = 2 ∧ inR v 0 99 = true then setL g (24 + 3 * p.toNatClampNeg + 2) v else fin g 0)
  else fin g 0
def F_set (g : x_SG) (w v : Int32) : Int32 × x_SG :=
  if w = 0 ∧ inR v 0 16 = true then setL g 1 v else if w = 1 ∧ inR v 0 1 = true then setL g 2 v else if w = 2 ∧ inR v 0 20 = true then setL g 3 v else if w = 3 ∧ inR v 0 20 = true then setL g 4 v else fin g 0
def F_board (g : x_SG) (p : Int32) : Int32 × x_SG :=
  if isP (gA g) p = true then (if gA g (24 + 3 * p.toNatClampNeg + 1) = gA g 1 then (1, sA g (upd (gA g) (24 + 3 * p.toNatClampNeg + 1) (-1))) else fin g 4) else fin g 0
def F_leave (g : x_SG) (p : Int32) : Int32 × x_SG :=
  if isP (gA g) p = true then (if gA g (24 + 3 * p.toNatClampNeg + 1) = -1 then (gA g 1, sA g (upd (gA g) (24 + 3 * p.toNatClampNeg + 1) (gA g 1))) else fin g 4) else fin g 0
def F_go (g : x_SG) (n : Int32) : Int32 × x_SG :=
  if inR n 1 60 = true then (if 99999 < gA g 0 + n then fin g 4 else (hoursF (gA g) n.toNatClampNeg 1, sA g (hoursF (gA g) n.toNatClampNeg))) else fin g 0
def F_now (g : x_SG) (w : Int32) : Int32 × x_SG :=
  if w = 0 then (gA g 0, g) else if w = 1 then (gA g 1, g) else if w = 2 then (aboardF (gA g), g) else if w = 3 then (thereF (gA g), g) else if w = 4 then (gA g 5, g) else if w = 5 then (gA g 2, g) else if w = 6 then (beliefsF (gA g), g) else fin g 0
def F_ahead (g : x_SG) (n : Int32) : Int32 × x_SG := if inR n 0 100 = true then (hoursF (gA g) n.toNatClampNeg 1, g) else fin g 0
def F_believes (g : x_SG) (p n : Int32) : Int32 × x_SG := if isP (gA g) p = true ∧ inR n 0 100 = true then (hoursF (gA g) n.toNatClampNeg (24 + 3 * p.toNatClampNeg + 2), g) else fin g 0
/-- the first of n with f, or n -/
def firstN (f : Nat → Bool) : Nat → Nat → Nat
  | i, 0 => i
  | i, n + 1 => if f i = true then i else firstN f (i + 1) n
def orN (g : x_SG) (n k : Nat) : Int32 × x_SG := if k < n then (nI k, g) else fin g 3
def F_when (g : x_SG) (y : Int32) : Int32 × x_SG := if inR y 0 16 = true then orN g 101 (firstN (fun h => decide (hoursF (gA g) h 1 = y)) 0 101) else fin g 0
def F_falls (g : x_SG) : Int32 × x_SG := orN g 101 (firstN (fun h => fallB (hoursF (gA g) h)) 0 101)
def F_settles (g : x_SG) : Int32 × x_SG := orN g 101 (firstN (fun h => !movedB (hoursF (gA g) h)) 0 101)
def F_there (g : x_SG) (n : Int32) : Int32 × x_SG := if inR n 0 100 = true then (thereF (hoursF (gA g) n.toNatClampNeg), g) else fin g 0
/-- the first with the greatest -/
def bestTo (f : Nat → Int32) : Nat → Int32 × Int32
  | 0 => (0, -1)
  | n + 1 => if (bestTo f n).2 < f n then (nI n, f n) else bestTo f n
def F_kindFor (g : x_SG) (p n : Int32) : Int32 × x_SG := if isP (gA g) p = true ∧ inR n 0 60 = true then ((bestTo (fun k => hoursF (upd (gA g) (24 + 3 * p.toNatClampNeg) (nI k)) n.toNatClampNeg 1) 7).1, g) else fin g 0
def F_seat (g : x_SG) (p n : Int32) : Int32 × x_SG := if isP (gA g) p = true ∧ inR n 0 60 = true then ((bestTo (fun k => hoursF (upd (gA g) (24 + 3 * p.toNatClampNeg + 1) (nI k)) n.toNatClampNeg 1) 17).1, g) else fin g 0
/-- where it gets to with a set aboard -/
def rideY (a : x_St) (n : Nat) (s : Nat) : Int32 := hoursF (rideTo a s.testBit (pn a)) n 1
def isSet (a : x_St) (s : Int32) : Bool := decide (0 ≤ s ∧ s < nI (2 ^ pn a))
def F_with (g : x_SG) (s n : Int32) : Int32 × x_SG := if isSet (gA g) s = true ∧ inR n 0 60 = true then (rideY (gA g) n.toNatClampNeg s.toNatClampNeg, g) else fin g 0
def popN : Nat → Nat → Nat
  | 0, _ => 0
  | n + 1, s => popN n s + (if s.testBit n = true then 1 else 0)
/-- of those below n with f the one of fewest bits, of several the least -/
def fewTo (f : Nat → Bool) : Nat → Option Nat
  | 0 => none
  | n + 1 => match fewTo f n with
    | none => if f n = true then some n else none
    | some b => if popN 8 n < popN 8 b ∧ f n = true then some n else some b
def orO (g : x_SG) (k : Option Nat) : Int32 × x_SG := match k with
  | some k => (nI k, g)
  | none => fin g 3
def F_fewest (g : x_SG) (y n : Int32) : Int32 × x_SG := if inR y 0 16 = true ∧ inR n 0 60 = true then orO g (fewTo (fun s => decide (y ≤ rideY (gA g) n.toNatClampNeg s)) (2 ^ pn (gA g))) else fin g 0
def F_farthest (g : x_SG) (n : Int32) : Int32 × x_SG := if inR n 0 60 = true then ((bestTo (rideY (gA g) n.toNatClampNeg) (2 ^ pn (gA g))).1, g) else fin g 0
def outTo (a : x_St) (n : Nat) : Nat → Option Nat × Int32
  | 0 => (none, -1)
  | p + 1 => if a (24 + 3 * p + 1) = -1 ∧ (outTo a n p).2 < hoursF (upd a (24 + 3 * p + 1) (a 1)) n 1 then (some p, hoursF (upd a (24 + 3 * p + 1) (a 1)) n 1) else outTo a n p
def F_without (g : x_SG) (n : Int32) : Int32 × x_SG := if inR n 0 60 = true then orO g (outTo (gA g) n.toNatClampNeg (pn (gA g))).1 else fin g 0
def F_persuade (g : x_SG) (p y n : Int32) : Int32 × x_SG :=
  if isP (gA g) p = true ∧ inR y 0 16 = true ∧ inR n 0 60 = true then orN g 100 (firstN (fun b => decide (y ≤ hoursF (upd (gA g) (24 + 3 * p.toNatClampNeg + 2) (nI b)) n.toNatClampNeg 1)) 0 100) else fin g 0
/-- the greatest below n with f -/
def lastTo (f : Nat → Bool) : Nat → Option Nat
  | 0 => none
  | n + 1 => if f n = true then some n else lastTo f n
def F_bears (g : x_SG) (k n : Int32) : Int32 × x_SG :=
  if inR k 0 15 = true ∧ inR n 0 60 = true then orO g (lastTo (fun v => decide (k < hoursF (upd (gA g) (8 + k.toNatClampNeg) (nI v)) n.toNatClampNeg 1)) 1000) else fin g 0
/-- sheets -/
def isSh (s : Int32) : Bool := inR s 0 3
def fitB (a : x_St) (z : Nat → Int32) (any : Bool) (j : Nat) : Bool := decide (z j = hoursF a j 1) || (any && decide (z j = -1))
def fitsB (a : x_St) (z : Nat → Int32) (any : Bool) (n : Nat) : Bool := decide (firstN (fun j => !fitB a z any j) 0 n = n)
def shO (g : x_SG) (s : Int32) (k : Nat → Int32 × x_SG) : Int32 × x_SG := if isSh s = true then (if gSb g s.toNatClampNeg = 0 then fin g 5 else k s.toNatClampNeg) else fin g 0
def F_kinds (g : x_SG) (s p : Int32) : Int32 × x_SG := shO g s (fun i => if isP (gA g) p = true then (setTo (fun k => fitsB (upd (gA g) (24 + 3 * p.toNatClampNeg) (nI k)) (gSn g i) true (gSz g i)) 7, g) else fin g 0)
def F_beliefs (g : x_SG) (s p : Int32) : Int32 × x_SG := shO g s (fun i => if isP (gA g) p = true then (cntTo 0 (fun k => fitsB (upd (gA g) (24 + 3 * p.toNatClampNeg + 2) (nI k)) (gSn g i) true (gSz g i)) 100, g) else fin g 0)
def F_least (g : x_SG) (s p : Int32) : Int32 × x_SG := shO g s (fun i => if isP (gA g) p = true then orN g 100 (firstN (fun k => fitsB (upd (gA g) (24 + 3 * p.toNatClampNeg + 2) (nI k)) (gSn g i) true (gSz g i)) 0 100) else fin g 0)
def F_worth (g : x_SG) : Int32 × x_SG := (sumTo (fun k => if thereB (gA g) k = true then gA g (8 + k) else 0) 16, g)
def F_hangs (g : x_SG) (p : Int32) : Int32 × x_SG := if isP (gA g) p = true then (cntTo 0 (fun k => thereB (gA g) k && decide (sumF (gA g) (nI k) - bringsF (gA g) p.toNatClampNeg (nI k) < gA g (8 + k))) 16, g) else fin g 0
/-- without these none of what is there would be -/
def restF (a : x_St) (s k : Nat) : Int32 := sumTo (fun p => if s.testBit p = true then 0 else bringsF a p (nI k)) (pn a)
def endsB (a : x_St) (s : Nat) : Bool := !anyTo (fun k => thereB a k && decide (0 < a (8 + k)) && decide (a (8 + k) ≤ restF a s k)) 16
def F_run (g : x_SG) : Int32 × x_SG := ((match fewTo (endsB (gA g)) (2 ^ pn (gA g)) with
  | some k => nI k
  | none => -1), g)
def goldF (a : x_St) : Nat → x_St
  | 0 => a
  | n + 1 => hourF (upd (upd (goldF a n) 6 (zF (goldF a n))) (8 + (drawV (goldF a n)).toNatClampNeg % 16) (maxI 0 (goldF a n (8 + (drawV (goldF a n)).toNatClampNeg % 16) - 10)))
def F_gold (g : x_SG) (n : Int32) : Int32 × x_SG := if inR n 1 20 = true then (if 99999 < gA g 0 + n then fin g 4 else (goldF (gA g) n.toNatClampNeg 1, sA g (goldF (gA g) n.toNatClampNeg))) else fin g 0
def F_seed (g : x_SG) (v : Int32) : Int32 × x_SG := setL g 6 v
def F_hold (g : x_SG) (j p : Int32) : Int32 × x_SG := if inR j 0 9 = true ∧ (p = -1 ∨ isP (gA g) p = true) then (1, sA g (upd (gA g) (48 + j.toNatClampNeg) p)) else fin g 0
def underB (k t : Int32) : Bool := decide (t = 0) || decide (t = k) || (decide (t = 1) && decide (k = 6)) || (decide (t = 2) && (decide (k = 3) || decide (k = 4))) || (decide (t = 3) && decide (k = 4))
def F_as (g : x_SG) (j k : Int32) : Int32 × x_SG :=
  if inR j 0 9 = true ∧ inR k 0 6 = true then (if gA g (48 + j.toNatClampNeg) = -1 then fin g 5 else if underB (gA g (24 + 3 * (gA g (48 + j.toNatClampNeg)).toNatClampNeg)) k = true then (gA g (48 + j.toNatClampNeg), g) else fin g 2) else fin g 0
def F_image (g : x_SG) : Int32 × x_SG := (1, sK g (gA g) true)
def F_undo (g : x_SG) : Int32 × x_SG := if gP g = true then (gK g 0, sA g (gK g)) else fin g 3
def F_tear (g : x_SG) : Int32 × x_SG := (x_b (gP g), sK g (gK g) false)
def F_wipe (g : x_SG) : Int32 × x_SG := (nI (gT g), sT g 0 (gB g))
/-- n bytes come behind -/
def feedTo (g : x_SG) (v : Int32) (n : Nat) : Nat → Nat → Int32 := fun k j => if gT g ≤ j ∧ j < gT g + k then ((v >>> (nI (8 * (n - 1 - (j - gT g))) &&& 31)) &&& 255) else gB g j
def F_feed (g : x_SG) (v n : Int32) : Int32 × x_SG := if inR n 1 4 = true then (if 120 < gT g + n.toNatClampNeg then fin g 1 else (nI (gT g + n.toNatClampNeg), sT g (gT g + n.toNatClampNeg) (feedTo g v n.toNatClampNeg n.toNatClampNeg))) else fin g 0
def upn (f : Nat → Nat) (k x : Nat) : Nat → Nat := fun j => if j = k then x else f j
def upr (f : Nat → Nat → Int32) (k : Nat) (r : Nat → Int32) : Nat → Nat → Int32 := fun j => if j = k then r else f j
def F_sheet (g : x_SG) (s b n : Int32) : Int32 × x_SG :=
  if isSh s = true ∧ (b = 0 ∨ b = 8 ∨ b = 16 ∨ b = 32) then (if n < 0 then fin g 6 else if 40 < n then fin g 0 else
    (if b = 0 then 0 else n, sS g (upd (gSb g) s.toNatClampNeg b) (upn (gSz g) s.toNatClampNeg (if b = 0 then 0 else n.toNatClampNeg)) (upr (gSn g) s.toNatClampNeg (fun _ => 0)))) else fin g 0
def lowF (b v : Int32) : Int32 := if b = 8 then v.toInt8.toInt32 else if b = 16 then v.toInt16.toInt32 else v
def F_write (g : x_SG) (s i v : Int32) : Int32 × x_SG := shO g s (fun q => if 0 ≤ i ∧ i < nI (gSz g q) then (1, sS g (gSb g) (gSz g) (upr (gSn g) q (upd (gSn g q) i.toNatClampNeg (lowF (gSb g q) v)))) else fin g 0)
def rowOk (z : Nat) (f n : Int32) : Bool := decide (0 ≤ f ∧ 0 ≤ n ∧ n ≤ nI z - f)
def F_copy (g : x_SG) (s f t d n : Int32) : Int32 × x_SG :=
  if isSh s = true ∧ isSh t = true then
    (if gSb g s.toNatClampNeg = 0 ∨ gSb g t.toNatClampNeg = 0 then fin g 5
     else if gSb g s.toNatClampNeg = gSb g t.toNatClampNeg then
       (if rowOk (gSz g s.toNatClampNeg) f n = true ∧ rowOk (gSz g t.toNatClampNeg) d n = true then
          (n, sS g (gSb g) (gSz g) (upr (gSn g) t.toNatClampNeg (va_cpy (gSn g s.toNatClampNeg) (gSn g t.toNatClampNeg) f.toNatClampNeg d.toNatClampNeg n.toNatClampNeg)))
        else fin g 0)
     else fin g 2)
  else fin g 0
def loadTo (a : x_St) (z : Nat → Int32) (n : Nat) : x_St := fun j => if 8 ≤ j ∧ j < 8 + n then z (j - 8) else a j
def F_load (g : x_SG) (s : Int32) : Int32 × x_SG := shO g s (fun i => let n := firstN (fun j => !(decide (j < 16) && inR (gSn g i j) 0 999)) 0 (gSz g i); (nI n, sA g (loadTo (gA g) (gSn g i) n)))
def F_judge (g : x_SG) (s : Int32) : Int32 × x_SG := shO g s (fun i => let n := firstN (fun j => !fitB (gA g) (gSn g i) false j) 0 (gSz g i); (if n < gSz g i then nI n + 1 else 0, g))
def F_count (g : x_SG) (w : Int32) : Int32 × x_SG :=
  if w = 0 then (gA g 0, g) else if w = 1 then (gA g 7, g) else if w = 2 then (cntTo 0 (fun p => decide (gA g (24 + 3 * p + 1) = -1)) (pn (gA g)), g) else if w = 3 then (cntTo 0 (thereB (gA g)) 16, g) else if w = 4 then (beliefsF (gA g), g) else if w = 5 then (nI (gT g), g) else if w = 6 then (gA g 6, g) else if w = 7 then (spotsF (gA g), g) else fin g 0
def F_status (g : x_SG) (w : Int32) : Int32 × x_SG := if inR w (-1) 6 = true then (sumTo (fun k => if w < 0 ∨ w = nI k then gF g k else 0) 7, g) else fin g 0
theorem inR_t {v : Int32} {n : Nat} (hn : n + 1 < 2 ^ 31) (h0 : ¬ v < 0) (h : ¬ nI (n + 1) ≤ v) : inR v 0 (nI n) = true := decide_eq_true ⟨Int32.not_lt.mp h0, (lt_le hn).mp (Int32.not_le.mp h)⟩
theorem inR_f1 {v hi : Int32} (h0 : v < 0) : inR v 0 hi = false := decide_eq_false (fun h => Int32.not_le.mpr h0 h.1)
theorem inR_f2 {v : Int32} {n : Nat} (hn : n + 1 < 2 ^ 31) (h : nI (n + 1) ≤ v) : inR v 0 (nI n) = false := decide_eq_false (fun z => Int32.not_lt.mpr h ((lt_le hn).mpr z.2))
theorem inR_w1 {v lo hi : Int32} (h : v < lo) : inR v lo hi = false := decide_eq_false (fun z => Int32.not_le.mpr h z.1)
theorem inR_w2 {v lo hi : Int32} (h : hi < v) : inR v lo hi = false := decide_eq_false (fun z => Int32.not_le.mpr h z.2)
theorem inR_w3 {v lo hi : Int32} (h : ¬ v < lo) (h2 : ¬ hi < v) : inR v lo hi = true := decide_eq_true ⟨Int32.not_lt.mp h, Int32.not_lt.mp h2⟩
theorem isP_t {a : x_St} {v : Int32} (h0 : ¬ v < 0) (h : ¬ a 7 ≤ v) : isP a v = true := decide_eq_true ⟨Int32.not_lt.mp h0, Int32.not_le.mp h⟩
theorem isP_f1 {a : x_St} {v : Int32} (h0 : v < 0) : isP a v = false := decide_eq_false (fun z => Int32.not_le.mpr h0 z.1)
theorem isP_f2 {a : x_St} {v : Int32} (h : a 7 ≤ v) : isP a v = false := decide_eq_false (fun z => Int32.not_le.mpr z.2 h)
