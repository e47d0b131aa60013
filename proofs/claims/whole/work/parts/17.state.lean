/-! what is asked of numbers that come from outside -/
theorem ng (x : Int32) : x < 0 ∨ ∃ a, a < 2147483648 ∧ x = nI a := by
  by_cases h : x < 0
  · exact Or.inl h
  · exact Or.inr (nI_of h)
def inC (L : Nat) (x y : Int32) : Prop := ∃ a b, a < 2 ^ L ∧ b < 2 ^ L ∧ x = nI a ∧ y = nI b
def cuO (x : Int32) : Prop := ∃ c, c < 2 ∧ x = nI c
theorem p2_15 {L : Nat} (h : L ≤ 15) : 2 ^ L ≤ 32768 := Nat.pow_le_pow_right (n := 2) (j := 15) (by omega) h
theorem p4_15 {L : Nat} (h : L ≤ 15) : 2 ^ L * 2 ^ L ≤ 1073741824 := Nat.mul_le_mul (p2_15 h) (p2_15 h)
theorem p22_15 {L : Nat} (h : L ≤ 15) : 2 ^ (2 * L) ≤ 1073741824 := by rw [p22]; exact p4_15 h
theorem inC_n1 {L : Nat} {x y : Int32} (hL : L ≤ 15) (h : x < 0) : ¬ inC L x y := by
  rintro ⟨a, b, h1, h2, rfl, rfl⟩
  exact nI_pos (by have := p2_15 hL; omega) h
theorem inC_n2 {L : Nat} {x y : Int32} (hL : L ≤ 15) (h : y < 0) : ¬ inC L x y := by
  rintro ⟨a, b, h1, h2, rfl, rfl⟩
  exact nI_pos (by have := p2_15 hL; omega) h
theorem inC_g1 {L a : Nat} {y : Int32} (hL : L ≤ 15) (ha : a < 2147483648) (h : 2 ^ L ≤ a) : ¬ inC L (nI a) y := by
  rintro ⟨c, b, h1, h2, h3, rfl⟩
  have := p2_15 hL
  rw [nI_eq ha (by omega)] at h3
  omega
theorem inC_g2 {L a : Nat} {x : Int32} (hL : L ≤ 15) (ha : a < 2147483648) (h : 2 ^ L ≤ a) : ¬ inC L x (nI a) := by
  rintro ⟨c, b, h1, h2, rfl, h3⟩
  have := p2_15 hL
  rw [nI_eq ha (by omega)] at h3
  omega
theorem inC_nI {L a b : Nat} (ha : a < 2 ^ L) (hb : b < 2 ^ L) : inC L (nI a) (nI b) := ⟨a, b, ha, hb, rfl, rfl⟩
theorem st0_lt (cu : Nat) : st0 cu < 5 := by
  unfold st0
  split <;> omega
theorem oI_lt0 : oI 0 < 0 := by decide
theorem ng_ge {x : Int32} (h : x < 0) : ¬ 0 ≤ x := by
  rw [Int32.le_iff_toInt_le]
  rw [Int32.lt_iff_toInt_lt] at h
  omega
