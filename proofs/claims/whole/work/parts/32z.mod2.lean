/-! THE REFERENCE'S OTHER ROWS -/
def MW (a : x_St) (μ : x_Mem) : Prop := ∀ j, j < 58 → μ 44 j = a j
def ME (a : x_St) (μ : x_Mem) : Prop := ∀ j, j < 58 → μ 47 j = a j
def MKp (a : x_St) (μ : x_Mem) : Prop := ∀ j, j < 58 → μ 43 j = a j
theorem MW.cg {a : x_St} {μ μ' : x_Mem} (h : MW a μ) (e : ∀ id, id = 44 → μ' id = μ id) : MW a μ' := fun j hj => by rw [e 44 rfl]; exact h j hj
theorem ME.cg {a : x_St} {μ μ' : x_Mem} (h : ME a μ) (e : ∀ id, id = 47 → μ' id = μ id) : ME a μ' := fun j hj => by rw [e 47 rfl]; exact h j hj
theorem MKp.cg {a : x_St} {μ μ' : x_Mem} (h : MKp a μ) (e : ∀ id, id = 43 → μ' id = μ id) : MKp a μ' := fun j hj => by rw [e 43 rfl]; exact h j hj
theorem MX.img {g : x_SG} {μ μ' : x_Mem} (h : MX g μ) {k : x_St} {p : Bool} (hk : p = true → ∀ j, j < 58 → μ' 43 j = k j) (h3 : μ' 41 3 = x_b p) (h11 : μ' 41 11 = μ 41 11) (e : ∀ id, (48 ≤ id ∧ id < 52) → μ' id = μ id) : MX (sK g k p) μ' := by
  obtain ⟨-, -, g3, g4, g5, g6, g7⟩ := h
  refine ⟨hk, h3, h11.trans g3, ?_, ?_, ?_, ?_⟩
  · rw [e 51 (by omega)]; exact g4
  · rw [e 48 (by omega)]; exact g5
  · rw [e 49 (by omega)]; exact g6
  · rw [e 50 (by omega)]; exact g7
theorem MX.tape {g : x_SG} {μ μ' : x_Mem} (h : MX g μ) {n : Nat} {b : Nat → Int32} (h3 : μ' 41 3 = μ 41 3) (hn : μ' 41 11 = nI n) (hb : ∀ j, j < n → μ' 51 j = b j) (e : ∀ id, (id = 43 ∨ (48 ≤ id ∧ id < 51)) → μ' id = μ id) : MX (sT g n b) μ' := by
  obtain ⟨g1, g2, -, -, g5, g6, g7⟩ := h
  refine ⟨?_, h3.trans g2, hn, hb, ?_, ?_, ?_⟩
  · rw [e 43 (by omega)]; exact g1
  · rw [e 48 (by omega)]; exact g5
  · rw [e 49 (by omega)]; exact g6
  · rw [e 50 (by omega)]; exact g7
theorem in2_t {w : Int32} (h : inR w 0 2 = true) (c : ¬ w = 0) (c2 : ¬ w = 1) : w = 2 := by
  obtain ⟨k, hk, rfl⟩ := inR_nat (n := 2) (by decide) h
  have h3 : k = 0 ∨ k = 1 ∨ k = 2 := by omega
  rcases h3 with rfl | rfl | rfl
  · exact absurd rfl c
  · exact absurd rfl c2
  · rfl
theorem in2_f {w : Int32} (h : inR w 0 2 = false) : ¬ w = 0 ∧ ¬ w = 1 ∧ ¬ w = 2 := by
  refine ⟨fun e => ?_, fun e => ?_, fun e => ?_⟩ <;> · rw [e] at h; revert h; decide
