/-! BASE 3: arraylength; what two members of the JDK do with bits and rows -/
section XB3
variable {l : Launch} {E : x_E} {y : x_M} {v : x_V} {μ : x_Mem} {pc nx len : Nat} {lv lv' : List (Nat × Value)} {st : List Value}
theorem x_alen {k : Nat} (n : Nat) (hk : x_kd k = 0) (hn : x_ln k = n) (hd : x_dec y pc .arraylength 1 nx) (kk : x_G l E y v μ nx lv (.int (nI n) :: st)) : x_G l E y v μ pc lv (.ref (E.1 + k) :: st) := by
  intro p e s m args below meth c H ls locs F hP hl' hS
  obtain ⟨hd, rfl⟩ := hd
  have ha := x_arr hP (k := k) (by omega)
  rw [hk, hn] at ha
  have hK : x_K E s := F.2.2.2.2.2.2.2.1
  exact W.alen (n := nI n) F.1 F.2.1 ha ((hK.2 0 _ rfl).1 n _) (by rw [arrV_size] <;> rfl) rfl rfl hd (kk p e s m args below meth c H ls locs F hP hl' hS)
end XB3
theorem nI_and (a b : Nat) : nI a &&& nI b = nI (a &&& b) := by
  unfold nI
  apply Int32.toBitVec_inj.mp
  rw [Int32.toBitVec_and]
  simp [Int32.toBitVec_ofNat]
/-- the counting of bits, over naturals -/
def bc1 (s : Nat) : Nat := s - (s / 2 &&& 1431655765)
def bc2 (s : Nat) : Nat := (s &&& 858993459) + (s / 4 &&& 858993459)
def bc3 (s : Nat) : Nat := (s + s / 16) &&& 252645135
def bc4 (s : Nat) : Nat := s + s / 256
def bc5 (s : Nat) : Nat := s + s / 65536
def bcN (s : Nat) : Nat := bc5 (bc4 (bc3 (bc2 (bc1 s)))) &&& 63
theorem land_split {a b c d : Nat} (hb : b < 256) (hd : d < 256) : (256 * a + b) &&& (256 * c + d) = 256 * (a &&& c) + (b &&& d) := by
  apply Nat.eq_of_testBit_eq
  intro j
  have hbd : b &&& d < 2 ^ 8 := Nat.and_lt_two_pow b hd
  have e1 := Nat.testBit_two_pow_mul_add a (b := b) (i := 8) hb j
  have e2 := Nat.testBit_two_pow_mul_add c (b := d) (i := 8) hd j
  have e3 := Nat.testBit_two_pow_mul_add (a &&& c) (b := b &&& d) (i := 8) hbd j
  rw [show (2 : Nat) ^ 8 = 256 by decide] at e1 e2 e3
  rw [Nat.testBit_and, e1, e2, e3]
  split
  · rw [Nat.testBit_and]
  · rw [Nat.testBit_and]
theorem bc_d1 : ∀ h, h < 256 → (h / 2 &&& 5592405) = (h / 2 &&& 1431655765) := by decide +kernel
theorem bc_d2 : ∀ e, e < 2 → ∀ l, l < 256 → ((128 * e + l / 2) &&& 85) = (l / 2 &&& 1431655765) := by decide +kernel
theorem bc_d3 : ∀ x, x < 256 → (x &&& 3355443) = (x &&& 858993459) ∧ (x / 4 &&& 3355443) = (x / 4 &&& 858993459) ∧ (x &&& 51) = (x &&& 858993459) := by decide +kernel
theorem bc_d4 : ∀ e, e < 4 → ∀ l, l < 256 → ((64 * e + l / 4) &&& 51) = (l / 4 &&& 858993459) := by decide +kernel
theorem bc_d5 : ∀ x, x < 256 → bc1 x < 256 ∧ bc2 (bc1 x) / 16 < 5 ∧ bc2 (bc1 x) % 16 < 5 ∧ popN 8 x = bc2 (bc1 x) / 16 + bc2 (bc1 x) % 16 := by decide +kernel
theorem bc_d6 : ∀ u, u < 5 → ∀ v, v < 5 → ∀ u', u' < 5 → ∀ v', v' < 5 → (bc5 (bc4 (bc3 (256 * (16 * u + v) + (16 * u' + v')))) &&& 63) = u + v + u' + v' := by decide +kernel
theorem bc_s1 {h l : Nat} (hh : h < 256) (hl : l < 256) : bc1 (256 * h + l) = 256 * bc1 h + bc1 l := by
  unfold bc1
  have e : (256 * h + l) / 2 = 256 * (h / 2) + (128 * (h % 2) + l / 2) := by omega
  have m : (1431655765 : Nat) = 256 * 5592405 + 85 := by decide
  have e2 : ((256 * h + l) / 2 &&& 1431655765) = 256 * (h / 2 &&& 1431655765) + (l / 2 &&& 1431655765) := by
    rw [e, m, land_split (by omega) (by decide), ← m, bc_d1 h hh, bc_d2 (h % 2) (by omega) l hl]
  have h1 : (h / 2 &&& 1431655765) ≤ h / 2 := Nat.and_le_left
  have h2 : (l / 2 &&& 1431655765) ≤ l / 2 := Nat.and_le_left
  rw [e2]
  omega
theorem bc_s2 {x y : Nat} (hx : x < 256) (hy : y < 256) : bc2 (256 * x + y) = 256 * bc2 x + bc2 y := by
  unfold bc2
  have e : (256 * x + y) / 4 = 256 * (x / 4) + (64 * (x % 4) + y / 4) := by omega
  have m : (858993459 : Nat) = 256 * 3355443 + 51 := by decide
  obtain ⟨a1, a2, a3⟩ := bc_d3 x hx
  obtain ⟨b1, b2, b3⟩ := bc_d3 y hy
  have e2 : ((256 * x + y) / 4 &&& 858993459) = 256 * (x / 4 &&& 858993459) + (y / 4 &&& 858993459) := by
    rw [e, m, land_split (by omega) (by decide), ← m, a2, bc_d4 (x % 4) (by omega) y hy]
  have e3 : ((256 * x + y) &&& 858993459) = 256 * (x &&& 858993459) + (y &&& 858993459) := by
    rw [m, land_split hy (by decide), ← m, a1, b3]
  rw [e2, e3]
  omega
theorem popN_add (s : Nat) : ∀ n, popN (8 + n) s = popN 8 s + popN n (s / 256)
  | 0 => rfl
  | n + 1 => by
    show popN (8 + n) s + (if s.testBit (8 + n) = true then 1 else 0) = popN 8 s + (popN n (s / 256) + (if (s / 256).testBit n = true then 1 else 0))
    have e : (s / 256).testBit n = s.testBit (8 + n) := by
      rw [show (256 : Nat) = 2 ^ 8 by decide, Nat.testBit_div_two_pow, Nat.add_comm]
    rw [popN_add s n, e]
    omega
theorem popN_low {h l : Nat} (hl : l < 256) : ∀ n, n ≤ 8 → popN n (256 * h + l) = popN n l
  | 0, _ => rfl
  | n + 1, hn => by
    show popN n _ + _ = popN n l + _
    have e1 := Nat.testBit_two_pow_mul_add h (b := l) (i := 8) hl n
    rw [show (2 : Nat) ^ 8 = 256 by decide, if_pos (by omega)] at e1
    rw [popN_low hl n (by omega), e1]
theorem bcN_pop {s : Nat} (h : s < 65536) : bcN s = popN 16 s := by
  have hs : 256 * (s / 256) + s % 256 = s := by omega
  obtain ⟨a1, a2, a3, a4⟩ := bc_d5 (s / 256) (by omega)
  obtain ⟨b1, b2, b3, b4⟩ := bc_d5 (s % 256) (by omega)
  have e1 : popN 16 s = popN 8 (s % 256) + popN 8 (s / 256) := by
    have := popN_add s 8
    have q := popN_low (h := s / 256) (l := s % 256) (by omega) 8 (Nat.le_refl 8)
    rw [hs] at q
    rw [show (16 : Nat) = 8 + 8 by decide, this, q]
  have e2 : bc2 (bc1 s) = 256 * bc2 (bc1 (s / 256)) + bc2 (bc1 (s % 256)) := by
    have := bc_s1 (h := s / 256) (l := s % 256) (by omega) (by omega)
    rw [hs] at this
    rw [this, bc_s2 a1 b1]
  have e3 := bc_d6 _ a2 _ a3 _ b2 _ b3
  rw [show 16 * (bc2 (bc1 (s / 256)) / 16) + bc2 (bc1 (s / 256)) % 16 = bc2 (bc1 (s / 256)) by omega, show 16 * (bc2 (bc1 (s % 256)) / 16) + bc2 (bc1 (s % 256)) % 16 = bc2 (bc1 (s % 256)) by omega, ← e2] at e3
  unfold bcN
  rw [e3, e1, a4, b4]
  omega
theorem ush_lit {n : Nat} (hn : n < 2 ^ 32) (k : Nat) (hk : k < 32) : ((nI n).toUInt32 >>> ((nI k).toUInt32 &&& Int32.toUInt32 31)).toInt32 = nI (n / 2 ^ k) := pk_ushrN hn (nI k) k (bit_u k hk)
-- the steps of the counting, over the machine's ints
theorem bcS1 {s : Nat} (h : s < 65536) : nI s - (((nI s).toUInt32 >>> ((1 : Int32).toUInt32 &&& Int32.toUInt32 31)).toInt32 &&& 1431655765) = nI (bc1 s) := by
  have e : ((nI s).toUInt32 >>> ((1 : Int32).toUInt32 &&& Int32.toUInt32 31)).toInt32 = nI (s / 2) := ush_lit (n := s) (by omega) 1 (by decide)
  have h2 : (s / 2 &&& 1431655765) ≤ s / 2 := Nat.and_le_left
  rw [e, show (1431655765 : Int32) = nI 1431655765 from rfl, nI_and, pk_sub (by omega)]
  rfl
theorem bcS2 {s : Nat} (h : s < 65536) : (nI s &&& 858993459) + (((nI s).toUInt32 >>> ((2 : Int32).toUInt32 &&& Int32.toUInt32 31)).toInt32 &&& 858993459) = nI (bc2 s) := by
  have e : ((nI s).toUInt32 >>> ((2 : Int32).toUInt32 &&& Int32.toUInt32 31)).toInt32 = nI (s / 4) := ush_lit (n := s) (by omega) 2 (by decide)
  rw [e, show (858993459 : Int32) = nI 858993459 from rfl, nI_and, nI_and, nI_add]
  rfl
theorem bcS3 {s : Nat} (h : s < 200000) : nI s + ((nI s).toUInt32 >>> ((4 : Int32).toUInt32 &&& Int32.toUInt32 31)).toInt32 &&& 252645135 = nI (bc3 s) := by
  have e : ((nI s).toUInt32 >>> ((4 : Int32).toUInt32 &&& Int32.toUInt32 31)).toInt32 = nI (s / 16) := ush_lit (n := s) (by omega) 4 (by decide)
  rw [e, show (252645135 : Int32) = nI 252645135 from rfl, nI_add, nI_and]
  rfl
theorem bcS4 {s : Nat} (h : s < 400000) : nI s + ((nI s).toUInt32 >>> ((8 : Int32).toUInt32 &&& Int32.toUInt32 31)).toInt32 = nI (bc4 s) := by
  have e : ((nI s).toUInt32 >>> ((8 : Int32).toUInt32 &&& Int32.toUInt32 31)).toInt32 = nI (s / 256) := ush_lit (n := s) (by omega) 8 (by decide)
  rw [e, nI_add]
  rfl
theorem bcS5 {s : Nat} (h : s < 800000) : nI s + ((nI s).toUInt32 >>> ((16 : Int32).toUInt32 &&& Int32.toUInt32 31)).toInt32 = nI (bc5 s) := by
  have e : ((nI s).toUInt32 >>> ((16 : Int32).toUInt32 &&& Int32.toUInt32 31)).toInt32 = nI (s / 65536) := ush_lit (n := s) (by omega) 16 (by decide)
  rw [e, nI_add]
  rfl
theorem bc_lt {s : Nat} (h : s < 65536) : bc1 s < 65536 ∧ bc2 (bc1 s) < 200000 ∧ bc3 (bc2 (bc1 s)) < 400000 ∧ bc4 (bc3 (bc2 (bc1 s))) < 800000 := by
  have h1 : bc1 s ≤ s := Nat.sub_le _ _
  have h2 : bc2 (bc1 s) ≤ bc1 s + bc1 s / 4 := by
    have a1 : (bc1 s &&& 858993459) ≤ bc1 s := Nat.and_le_left
    have a2 : (bc1 s / 4 &&& 858993459) ≤ bc1 s / 4 := Nat.and_le_left
    unfold bc2
    omega
  have h3 : bc3 (bc2 (bc1 s)) ≤ bc2 (bc1 s) + bc2 (bc1 s) / 16 := Nat.and_le_left
  have h4 : bc4 (bc3 (bc2 (bc1 s))) = bc3 (bc2 (bc1 s)) + bc3 (bc2 (bc1 s)) / 256 := rfl
  omega
