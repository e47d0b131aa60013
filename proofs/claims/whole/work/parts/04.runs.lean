/-! runs: a walk along the keys of a window. A state: how many runs, where the last one ends (one behind its last key), the wanted one's first key and last key, each one more, 0 when there is none -/
abbrev rw_S : Type := Nat × Nat × Nat × Nat
def rw_j (w : Int32) (a b : Nat) (u : rw_S) : rw_S :=
  if u.1 = 0 ∨ a ≠ u.2.1 then (u.1 + 1, b, if nI u.1 = w then a + 1 else u.2.2.1, if nI u.1 = w then b else u.2.2.2)
  else (u.1, b, u.2.2.1, if nI (u.1 - 1) = w then b else u.2.2.2)
theorem rw_j_new {w : Int32} {a b : Nat} {u : rw_S} (h : u.1 = 0 ∨ a ≠ u.2.1) : rw_j w a b u = (u.1 + 1, b, if nI u.1 = w then a + 1 else u.2.2.1, if nI u.1 = w then b else u.2.2.2) := by
  unfold rw_j; rw [if_pos h]
theorem rw_j_old {w : Int32} {a b : Nat} {u : rw_S} (h0 : u.1 ≠ 0) (h : a = u.2.1) : rw_j w a b u = (u.1, b, u.2.2.1, if nI (u.1 - 1) = w then b else u.2.2.2) := by
  unfold rw_j; rw [if_neg (fun q => q.elim h0 (fun z => z h))]
/-- two joins side by side are one -/
theorem rw_j_j {w : Int32} {a b c : Nat} {u : rw_S} : rw_j w b c (rw_j w a b u) = rw_j w a c u := by
  by_cases h : u.1 = 0 ∨ a ≠ u.2.1
  · rw [rw_j_new h, rw_j_new h, rw_j_old (u := (u.1 + 1, b, if nI u.1 = w then a + 1 else u.2.2.1, if nI u.1 = w then b else u.2.2.2)) (Nat.succ_ne_zero _) rfl]
    dsimp only
    rw [Nat.add_sub_cancel]
    split <;> rfl
  · have h0 : u.1 ≠ 0 := fun q => h (Or.inl q)
    have h1 : a = u.2.1 := Classical.byContradiction (fun q => h (Or.inr q))
    rw [rw_j_old h0 h1, rw_j_old h0 h1, rw_j_old (u := (u.1, b, u.2.2.1, if nI (u.1 - 1) = w then b else u.2.2.2)) h0 rfl]
    dsimp only
    split <;> rfl
/-- all keys below k -/
def rw_k (w : Int32) (M : Nat → Bool) (k : Nat) : rw_S := match k with
  | 0 => (0, 0, 0, 0)
  | k + 1 => if M k then rw_j w k (k + 1) (rw_k w M k) else rw_k w M k
theorem rw_k_no {w : Int32} {M : Nat → Bool} {a : Nat} : ∀ n, (∀ j, a ≤ j → j < a + n → M j = false) → rw_k w M (a + n) = rw_k w M a
  | 0, _ => rfl
  | n + 1, h => by
    show (if M (a + n) then _ else rw_k w M (a + n)) = _
    rw [h (a + n) (by omega) (by omega)]
    exact rw_k_no n (fun j h1 h2 => h j h1 (by omega))
theorem rw_k_all {w : Int32} {M : Nat → Bool} {a : Nat} : ∀ n, (∀ j, a ≤ j → j < a + (n + 1) → M j = true) → rw_k w M (a + (n + 1)) = rw_j w a (a + (n + 1)) (rw_k w M a)
  | 0, h => by
    show (if M a then _ else _) = _
    rw [h a (by omega) (by omega)]
    rfl
  | n + 1, h => by
    show (if M (a + (n + 1)) then rw_j w (a + (n + 1)) (a + (n + 1) + 1) (rw_k w M (a + (n + 1))) else _) = _
    rw [h (a + (n + 1)) (by omega) (by omega), rw_k_all n (fun j h1 h2 => h j h1 (by omega))]
    exact rw_j_j
/-- the keys of a row, one after the other -/
def rw_a (w : Int32) (a : Nat → Nat) (j : Nat) : rw_S := match j with
  | 0 => (0, 0, 0, 0)
  | j + 1 => rw_j w (a j) (a j + 1) (rw_a w a j)
theorem rw_ka {w : Int32} {M : Nat → Bool} {a : Nat → Nat} {m E : Nat} (hs : ∀ i j, i < j → j < m → a i < a j) (hM : ∀ k, k < E → (M k = true ↔ ∃ i, i < m ∧ a i = k)) (hE : ∀ i, i < m → a i < E) : rw_k w M E = rw_a w a m := by
  have gen : ∀ K, K ≤ E → ∃ j, j ≤ m ∧ (∀ i, i < m → (a i < K ↔ i < j)) ∧ rw_k w M K = rw_a w a j := by
    intro K
    induction K with
    | zero => intro _; exact ⟨0, by omega, fun i hi => by omega, rfl⟩
    | succ K ih =>
      intro hK
      obtain ⟨j, hj, hlt, he⟩ := ih (by omega)
      by_cases hm : M K = true
      · obtain ⟨i, hi, hai⟩ := (hM K (by omega)).1 hm
        have hij : j ≤ i := by
          have := hlt i hi
          omega
        have haj : a j = K := by
          rcases Nat.lt_or_ge j i with h | h
          · have h1 := hs j i h hi
            have h2 := hlt j (by omega)
            omega
          · have : i = j := by omega
            subst this
            exact hai
        refine ⟨j + 1, by omega, fun x hx => ?_, ?_⟩
        · have h1 := hlt x hx
          rcases Nat.lt_trichotomy x j with h | h | h
          · omega
          · subst h; omega
          · have := hs j x h hx
            omega
        · show (if M K then _ else _) = rw_j w (a j) (a j + 1) (rw_a w a j)
          rw [hm, if_pos rfl, he, haj]
      · refine ⟨j, hj, fun x hx => ?_, ?_⟩
        · have h1 := hlt x hx
          have : a x ≠ K := fun q => hm ((hM K (by omega)).2 ⟨x, hx, q⟩)
          omega
        · show (if M K then _ else rw_k w M K) = _
          rw [if_neg hm, he]
  obtain ⟨j, hj, hlt, he⟩ := gen E (Nat.le_refl _)
  have : j = m := by
    rcases Nat.lt_or_ge j m with h | h
    · have := (hlt j h).1 (hE j h)
      omega
    · omega
  rw [he, this]
/-- the reference's words: a run begins at j -/
def rw_b (a : Nat → Nat) (j : Nat) : Prop := j = 0 ∨ a (j - 1) + 1 < a j
theorem rw_a_e {w : Int32} {a : Nat → Nat} (j : Nat) : (rw_a w a (j + 1)).2.1 = a j + 1 := by
  show (rw_j w (a j) (a j + 1) (rw_a w a j)).2.1 = _
  unfold rw_j
  split <;> rfl
theorem rw_a_pos {w : Int32} {a : Nat → Nat} (j : Nat) : (rw_a w a (j + 1)).1 ≠ 0 := by
  show (rw_j w (a j) (a j + 1) (rw_a w a j)).1 ≠ 0
  unfold rw_j
  split
  · exact Nat.succ_ne_zero _
  · rename_i h
    exact fun q => h (Or.inl q)
theorem rw_a_new {w : Int32} {a : Nat → Nat} {j m : Nat} (hs : ∀ i j, i < j → j < m → a i < a j) (hj : j < m) (h : rw_b a j) : rw_a w a (j + 1) = ((rw_a w a j).1 + 1, a j + 1, if nI (rw_a w a j).1 = w then a j + 1 else (rw_a w a j).2.2.1, if nI (rw_a w a j).1 = w then a j + 1 else (rw_a w a j).2.2.2) := by
  refine rw_j_new ?_
  cases j with
  | zero => exact Or.inl rfl
  | succ j =>
    right
    rw [rw_a_e]
    rcases h with h | h
    · omega
    · rw [Nat.add_sub_cancel] at h
      omega
theorem rw_a_old {w : Int32} {a : Nat → Nat} {j m : Nat} (hs : ∀ i j, i < j → j < m → a i < a j) (hj : j < m) (h : ¬ rw_b a j) : j ≠ 0 ∧ rw_a w a (j + 1) = ((rw_a w a j).1, a j + 1, (rw_a w a j).2.2.1, if nI ((rw_a w a j).1 - 1) = w then a j + 1 else (rw_a w a j).2.2.2) := by
  cases j with
  | zero => exact absurd (Or.inl rfl) h
  | succ j =>
    refine ⟨by omega, rw_j_old (rw_a_pos j) ?_⟩
    rw [rw_a_e]
    have h1 := hs j (j + 1) (by omega) hj
    have h2 : ¬ a j + 1 < a (j + 1) := fun q => h (Or.inr q)
    omega
theorem rw_a_le {w : Int32} {a : Nat → Nat} (j : Nat) : (rw_a w a j).1 ≤ j := by
  induction j with
  | zero => exact Nat.le_refl _
  | succ j ih =>
    show (rw_j w (a j) (a j + 1) (rw_a w a j)).1 ≤ _
    unfold rw_j
    split
    · show (rw_a w a j).1 + 1 ≤ _
      omega
    · show (rw_a w a j).1 ≤ _
      omega
theorem rw_a_mono {w : Int32} {a : Nat → Nat} (j : Nat) : ∀ n, (rw_a w a j).1 ≤ (rw_a w a (j + n)).1
  | 0 => Nat.le_refl _
  | n + 1 => by
    refine Nat.le_trans (rw_a_mono j n) ?_
    show _ ≤ (rw_j w (a (j + n)) (a (j + n) + 1) (rw_a w a (j + n))).1
    unfold rw_j
    split
    · exact Nat.le_succ _
    · exact Nat.le_refl _
/-- behind the wanted run nothing of it changes any more: the first key -/
theorem rw_a_f {i : Nat} {a : Nat → Nat} {j : Nat} (hi : i < 2147483648) (hc : i < (rw_a (nI i) a j).1) : ∀ n, j + n < 2 ^ 30 → (rw_a (nI i) a (j + n)).2.2.1 = (rw_a (nI i) a j).2.2.1
  | 0, _ => rfl
  | n + 1, h => by
    rw [← rw_a_f hi hc n (by omega)]
    have h1 := rw_a_mono (w := nI i) (a := a) j n
    have h2 := rw_a_le (w := nI i) (a := a) (j + n)
    show (rw_j (nI i) (a (j + n)) (a (j + n) + 1) (rw_a (nI i) a (j + n))).2.2.1 = _
    unfold rw_j
    split
    · dsimp only
      rw [if_neg]
      rw [nI_eq (by omega) (by omega)]
      omega
    · rfl
/-- the last key -/
theorem rw_a_l {i : Nat} {a : Nat → Nat} {j : Nat} (hi : i < 2147483648) (hc : i + 1 < (rw_a (nI i) a j).1) : ∀ n, j + n < 2 ^ 30 → (rw_a (nI i) a (j + n)).2.2.2 = (rw_a (nI i) a j).2.2.2
  | 0, _ => rfl
  | n + 1, h => by
    rw [← rw_a_l hi hc n (by omega)]
    have h1 := rw_a_mono (w := nI i) (a := a) j n
    have h2 := rw_a_le (w := nI i) (a := a) (j + n)
    show (rw_j (nI i) (a (j + n)) (a (j + n) + 1) (rw_a (nI i) a (j + n))).2.2.2 = _
    unfold rw_j
    split
    · dsimp only
      rw [if_neg]
      rw [nI_eq (by omega) (by omega)]
      omega
    · dsimp only
      rw [if_neg]
      rw [nI_eq (by omega) (by omega)]
      omega
/-- before the wanted run there is none -/
theorem rw_a_n {i : Nat} {a : Nat → Nat} (hi : i < 2147483648) : ∀ j, j < 2 ^ 30 → (rw_a (nI i) a j).1 ≤ i → (rw_a (nI i) a j).2.2.1 = 0 ∧ (rw_a (nI i) a j).2.2.2 = 0
  | 0, _, _ => ⟨rfl, rfl⟩
  | j + 1, hj, hc => by
    have h1 := rw_a_mono (w := nI i) (a := a) j 1
    have h2 := rw_a_le (w := nI i) (a := a) j
    obtain ⟨g1, g2⟩ := rw_a_n (a := a) hi j (by omega) (by omega)
    have hc : (rw_j (nI i) (a j) (a j + 1) (rw_a (nI i) a j)).1 ≤ i := hc
    show (rw_j (nI i) (a j) (a j + 1) (rw_a (nI i) a j)).2.2.1 = 0 ∧ (rw_j (nI i) (a j) (a j + 1) (rw_a (nI i) a j)).2.2.2 = 0
    unfold rw_j at hc ⊢
    split
    · rename_i hs
      rw [if_pos hs] at hc
      dsimp only at hc ⊢
      have hne : ¬ nI (rw_a (nI i) a j).1 = nI i := by
        rw [nI_eq (by omega) (by omega)]
        omega
      rw [if_neg hne, if_neg hne]
      exact ⟨g1, g2⟩
    · rename_i hs
      rw [if_neg hs] at hc
      dsimp only at hc ⊢
      have h0 : (rw_a (nI i) a j).1 ≠ 0 := fun q => hs (Or.inl q)
      have hne : ¬ nI ((rw_a (nI i) a j).1 - 1) = nI i := by
        rw [nI_eq (by omega) (by omega)]
        omega
      rw [if_neg hne]
      exact ⟨g1, g2⟩
/-- a number that may be wanting: 0 is NONE, f + 1 is f -/
def oI (n : Nat) : Int32 := match n with
  | 0 => -1
  | n + 1 => nI n
theorem oI_inc (n : Nat) : oI n + 1 = nI n := by
  cases n with
  | zero => rfl
  | succ n => exact (nI_succ n).symm
theorem oI_dec (n : Nat) : nI n + (-1) = oI n := by
  cases n with
  | zero => rfl
  | succ n => exact pk_m1 n
