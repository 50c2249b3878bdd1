/-! THE REFERENCE'S OTHER ROWS -/
def MW (a : x_St) (μ : x_Mem) : Prop := ∀ j, j < 58 → μ 44 j = a j
def ME (a : x_St) (μ : x_Mem) : Prop := ∀ j, j < 58 → μ 47 j = a j
def MKp (a : x_St) (μ : x_Mem) : Prop := ∀ j, j < 58 → μ 43 j = a j
theorem MW.cg {a : x_St} {μ μ' : x_Mem} (h : MW a μ) (e : ∀ id, id = 44 → μ' id = μ id) : MW a μ' := fun j hj => by rw [e 44 rfl]; exact h j hj
theorem ME.cg {a : x_St} {μ μ' : x_Mem} (h : ME a μ) (e : ∀ id, id = 47 → μ' id = μ id) : ME a μ' := fun j hj => by rw [e 47 rfl]; exact h j hj
theorem MKp.cg {a : x_St} {μ μ' : x_Mem} (h : MKp a μ) (e : ∀ id, id = 43 → μ' id = μ id) : MKp a μ' := fun j hj => by rw [e 43 rfl]; exact h j hj
