/-! numbers of the reference's sort, runs, run -/
theorem wkey_at {cu L x0 y0 hh i j : Nat} (hj : j < hh) : wkey cu L x0 y0 hh (hh * i + j) = kk cu L (x0 + i) (y0 + j) := by
  unfold wkey
  rw [Nat.mul_add_div (by omega), Nat.div_eq_of_lt hj, Nat.mul_add_mod, Nat.mod_eq_of_lt hj, Nat.add_zero]
theorem eqs_of {n : Nat} {W K : Nat → Nat} (h : ∀ t, t < n → K t = W t) : eqs n W K := fun g => sg_congr (fun i hi => by rw [h i hi])
theorem bs_cp {w n : Nat} {X K : Nat → Nat} (h : bs w n X) (hc : ∀ i, i < n → K i = X i) : bs w n K := fun p q h1 h2 h3 => by
  rw [hc p (by omega), hc q h2]
  exact h p q h1 h2 h3
theorem eqs_cp {n : Nat} {W K X K6 : Nat → Nat} (h : eqs n W K) (h2 : eqs n K X) (hc : ∀ i, i < n → K6 i = X i) : eqs n W K6 := h.tr (h2.tr (eqs_of hc))
theorem rw_a_c1 {w : Int32} {a : Nat → Nat} {j m : Nat} (hs : ∀ i j, i < j → j < m → a i < a j) (hj : j < m) (h : rw_b a j) : (rw_a w a (j + 1)).1 = (rw_a w a j).1 + 1 := by
  rw [rw_a_new hs hj h]
theorem rw_a_c0 {w : Int32} {a : Nat → Nat} {j m : Nat} (hs : ∀ i j, i < j → j < m → a i < a j) (hj : j < m) (h : ¬ rw_b a j) : (rw_a w a (j + 1)).1 = (rw_a w a j).1 := by
  rw [(rw_a_old hs hj h).2]
theorem rw_b0 {a : Nat → Nat} {q : Nat} (h : q = 0) : rw_b a q := Or.inl h
theorem rw_b1 {a : Nat → Nat} {q : Nat} (h : a (q - 1) + 1 < a q) : rw_b a q := Or.inr h
theorem rw_bn {a : Nat → Nat} {q : Nat} (h0 : q ≠ 0) (h : a q ≤ a (q - 1) + 1) : ¬ rw_b a q := by
  rintro (z | z)
  · exact h0 z
  · omega
theorem run_first {a : Nat → Nat} {j q m : Nat} (hs : ∀ i j, i < j → j < m → a i < a j) (hm : m ≤ 4096) (hq : q < m) (hj : j < 2147483648) (hc : (rw_a (nI j) a q).1 = j) (hb : rw_b a q) : (rw_a (nI j) a m).2.2.1 = a q + 1 := by
  have h1 := rw_a_new (w := nI j) hs hq hb
  rw [hc, if_pos rfl] at h1
  have h2 := rw_a_f (i := j) (a := a) (j := q + 1) hj (by rw [h1]; show j < j + 1; omega) (m - (q + 1)) (by omega)
  rw [show q + 1 + (m - (q + 1)) = m by omega, h1] at h2
  exact h2
theorem run_last {a : Nat → Nat} {j q m : Nat} (hs : ∀ i j, i < j → j < m → a i < a j) (hm : m ≤ 4096) (hq : q < m) (hj : j < 2147483648) (hc : (rw_a (nI j) a (q + 1)).1 = j + 1) (hl : (rw_a (nI j) a (q + 1)).2.2.2 = a q + 1) (hb : q = m - 1 ∨ (q + 1 < m ∧ a q + 1 < a (q + 1))) : (rw_a (nI j) a m).2.2.2 = a q + 1 := by
  rcases hb with hb | ⟨hq1, hb⟩
  · rw [show m = q + 1 by omega]
    exact hl
  · have hcle := rw_a_le (w := nI j) (a := a) (q + 1)
    have h1 := rw_a_new (w := nI j) hs hq1 (rw_b1 (by rw [Nat.add_sub_cancel]; exact hb))
    rw [hc, if_neg (by rw [nI_eq (by omega) hj]; omega), if_neg (by rw [nI_eq (by omega) hj]; omega), hl] at h1
    have h2 := rw_a_l (i := j) (a := a) (j := q + 1 + 1) hj (by rw [h1]; show j + 1 < j + 1 + 1; omega) (m - (q + 1 + 1)) (by omega)
    rw [show q + 1 + 1 + (m - (q + 1 + 1)) = m by omega, h1] at h2
    exact h2
theorem run_l1 {a : Nat → Nat} {j q m : Nat} (hs : ∀ i j, i < j → j < m → a i < a j) (hq : q < m) (hc : (rw_a (nI j) a q).1 = j) (hb : rw_b a q) : (rw_a (nI j) a (q + 1)).1 = j + 1 ∧ (rw_a (nI j) a (q + 1)).2.2.2 = a q + 1 := by
  rw [rw_a_new hs hq hb, hc, if_pos rfl, if_pos rfl]
  exact ⟨rfl, rfl⟩
theorem run_l2 {a : Nat → Nat} {j q m : Nat} (hs : ∀ i j, i < j → j < m → a i < a j) (hq : q < m) (hc : (rw_a (nI j) a q).1 = j + 1) (hb : ¬ rw_b a q) : (rw_a (nI j) a (q + 1)).1 = j + 1 ∧ (rw_a (nI j) a (q + 1)).2.2.2 = a q + 1 := by
  rw [(rw_a_old hs hq hb).2, hc, Nat.add_sub_cancel, if_pos rfl]
  exact ⟨rfl, rfl⟩
/-- the run is under way, or not yet come to -/
def lsI (a : Nat → Nat) (j q m g : Nat) : Prop := g ≤ j ∨ (g = j + 1 ∧ q < m ∧ ¬ rw_b a q)
