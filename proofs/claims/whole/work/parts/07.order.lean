/-! the window's points in order, and the nearest: what is asked, and that two rows with the same points answer alike -/
abbrev fQ : Type := Nat × Nat × Nat × Nat
def inc (N : Nat) (F : fQ) (c : Nat) : Bool := inF F.1 F.2.1 F.2.2.1 F.2.2.2 (c / 2 ^ N) (c % 2 ^ N)
def ins (N : Nat) (F : fQ) (n : Nat) (C : Nat → Nat) : Nat := sg n (fun i => if inc N F (C i) = true then 1 else 0)
def sum (N : Nat) (F : fQ) (n : Nat) (C V : Nat → Nat) : Nat := sg n (fun i => if inc N F (C i) = true then V i else 0)
theorem same.ins {n : Nat} {C V : Nat → Nat} {n' : Nat} {C' V' : Nat → Nat} (h : same n C V n' C' V') (N : Nat) (F : fQ) : ins N F n C = ins N F n' C' := h (fun c _ => if inc N F c = true then 1 else 0)
theorem same.sum {n : Nat} {C V : Nat → Nat} {n' : Nat} {C' V' : Nat → Nat} (h : same n C V n' C' V') (N : Nat) (F : fQ) : sum N F n C V = sum N F n' C' V' := h (fun c w => if inc N F c = true then w else 0)
/-- how many of the window's points have a lesser key -/
def rk (cu N : Nat) (F : fQ) (n : Nat) (C : Nat → Nat) (k : Nat) : Nat := sg n (fun i => if inc N F (C i) = true ∧ ke cu N (C i) < k then 1 else 0)
theorem rk_le {cu N : Nat} {F : fQ} {n : Nat} {C : Nat → Nat} {k : Nat} : rk cu N F n C k ≤ n := by
  have := sg_le (n := n) (f := fun i => if inc N F (C i) = true ∧ ke cu N (C i) < k then 1 else 0) (g := fun _ => 1) (fun i _ => by (try dsimp only); split <;> omega)
  rwa [sg_one] at this
theorem rk_lt {cu N : Nat} {F : fQ} {n : Nat} {C : Nat → Nat} {k : Nat} {i : Nat} (hi : i < n) (hc : inc N F (C i) = true) (hk : ke cu N (C i) < k) : rk cu N F n C (ke cu N (C i)) < rk cu N F n C k := by
  refine sg_lt (fun j _ => ?_) hi ?_
  · (try dsimp only)
    by_cases h : inc N F (C j) = true ∧ ke cu N (C j) < ke cu N (C i)
    · rw [if_pos h, if_pos ⟨h.1, by omega⟩]
      omega
    · rw [if_neg h]
      omega
  · (try dsimp only)
    rw [if_neg (fun q => Nat.lt_irrefl _ q.2), if_pos ⟨hc, hk⟩]
    omega
theorem same.rk {n : Nat} {C V : Nat → Nat} {n' : Nat} {C' V' : Nat → Nat} (h : same n C V n' C' V') (cu N : Nat) (F : fQ) (k : Nat) : rk cu N F n C k = rk cu N F n' C' k := h (fun c _ => if inc N F c = true ∧ ke cu N c < k then 1 else 0)
def nthS (cu N : Nat) (F : fQ) (n : Nat) (C : Nat → Nat) (i r : Int32) : Prop :=
  (∃ j, j < n ∧ inc N F (C j) = true ∧ nI (rk cu N F n C (ke cu N (C j))) = i ∧ r = nI (C j)) ∨ ((∀ j, j < n → inc N F (C j) = true → nI (rk cu N F n C (ke cu N (C j))) ≠ i) ∧ r = -1)
theorem same.nth {n : Nat} {C V : Nat → Nat} {n' : Nat} {C' V' : Nat → Nat} (h : same n C V n' C' V') {cu N : Nat} {F : fQ} {i r r' : Int32} (hn : n ≤ 500) (hC : ∀ j, j < n → C j < 2 ^ N * 2 ^ N) (h1 : nthS cu N F n C i r) (h2 : nthS cu N F n' C' i r') : r = r' := by
  rcases h1 with ⟨j, a1, a2, a3, rfl⟩ | ⟨a1, rfl⟩
  · rcases h2 with ⟨k, b1, b2, b3, rfl⟩ | ⟨b1, rfl⟩
    · obtain ⟨q, c1, c2, -⟩ := h.sy.ex b1
      rw [← c2] at b2 b3 ⊢
      rw [← h.rk, ← a3, nI_eq (by have := rk_le (cu := cu) (N := N) (F := F) (n := n) (C := C) (k := ke cu N (C q)); omega) (by have := rk_le (cu := cu) (N := N) (F := F) (n := n) (C := C) (k := ke cu N (C j)); omega)] at b3
      rcases Nat.lt_trichotomy (ke cu N (C q)) (ke cu N (C j)) with g | g | g
      · have := rk_lt c1 b2 g; omega
      · rw [ke_inj (hC q c1) (hC j a1) g]
      · have := rk_lt a1 a2 g; omega
    · obtain ⟨q, c1, c2, -⟩ := h.ex a1
      rw [← c2] at a2 a3
      rw [h.rk] at a3
      exact absurd a3 (b1 q c1 a2)
  · rcases h2 with ⟨k, b1, b2, b3, rfl⟩ | ⟨b1, rfl⟩
    · obtain ⟨q, c1, c2, -⟩ := h.sy.ex b1
      rw [← c2] at b2 b3
      rw [← h.rk] at b3
      exact absurd b3 (a1 q c1 b2)
    · rfl
/-- in a row whose keys rise, those before a place are those with a lesser key -/
theorem okr.rkp {cu N n : Nat} {K C V : Nat → Nat} (h : okr cu N n K C V) (F : fQ) {p : Nat} (hp : p < n) : rk cu N F n C (ke cu N (C p)) = ins N F p C := by
  unfold rk ins
  rw [show n = p + (n - p) by omega, sg_split, sg_zero (n := n - p)]
  · rw [Nat.add_zero]
    refine sg_congr (fun i hi => ?_)
    have a := h.2.2 i p hi hp
    rw [(h.2.1 i (by omega)).2.1, (h.2.1 p hp).2.1] at a
    by_cases e : inc N F (C i) = true
    · rw [if_pos ⟨e, a⟩, if_pos e]
    · rw [if_neg (fun q => e q.1), if_neg e]
  · intro i hi
    (try dsimp only)
    rw [if_neg]
    rintro ⟨-, q⟩
    rcases Nat.eq_zero_or_pos i with e | e
    · subst e
      exact Nat.lt_irrefl _ q
    · have a := h.2.2 p (p + i) (by omega) (by omega)
      rw [(h.2.1 p hp).2.1, (h.2.1 (p + i) (by omega)).2.1] at a
      omega
/-- squares of differences, added -/
def sqd (a b : Nat) : Nat := (a - b) * (a - b) + (b - a) * (b - a)
theorem sqd_sy (a b : Nat) : sqd a b = sqd b a := Nat.add_comm _ _
def dq (N x y c : Nat) : Nat := sqd x (c / 2 ^ N) + sqd y (c % 2 ^ N)
def nearS (N x y n : Nat) (C : Nat → Nat) (r : Int32) : Prop :=
  (n = 0 ∧ r = -1) ∨ ∃ j, j < n ∧ r = nI (C j) ∧ ∀ k, k < n → dq N x y (C j) < dq N x y (C k) ∨ (dq N x y (C j) = dq N x y (C k) ∧ ke 1 N (C j) ≤ ke 1 N (C k))
theorem same.near {n : Nat} {C V : Nat → Nat} {n' : Nat} {C' V' : Nat → Nat} (h : same n C V n' C' V') {N x y : Nat} {r r' : Int32} (hC : ∀ j, j < n → C j < 2 ^ N * 2 ^ N) (h1 : nearS N x y n C r) (h2 : nearS N x y n' C' r') : r = r' := by
  have hm := h.many
  rcases h1 with ⟨a1, rfl⟩ | ⟨j, a1, rfl, a2⟩
  · rcases h2 with ⟨b1, rfl⟩ | ⟨k, b1, rfl, b2⟩
    · rfl
    · omega
  · rcases h2 with ⟨b1, rfl⟩ | ⟨k, b1, rfl, b2⟩
    · omega
    · obtain ⟨q, c1, c2, -⟩ := h.sy.ex b1
      obtain ⟨q', d1, d2, -⟩ := h.ex a1
      have e1 := a2 q c1
      have e2 := b2 q' d1
      rw [d2, ← c2] at e2
      rw [← c2]
      congr 1
      refine ke_inj (cu := 1) (hC j a1) (hC q c1) ?_
      omega
theorem sqd_l {a b : Nat} (ha : a < 65536) (hb : b < 65536) : (nI a - nI b).toInt64 * (nI a - nI b).toInt64 = lN (sqd a b) := by
  apply Int64.toInt_inj.mp
  have e1 : (nI a - nI b).toInt = (a : Int) - b := pk_sub_toInt (by omega) (by omega)
  have e2 : (nI a - nI b).toInt64.toInt = (a : Int) - b := by rw [Int32.toInt_toInt64, e1]
  have hs : sqd a b < 8589934592 := by
    unfold sqd
    have h1 : (a - b) * (a - b) ≤ 65535 * 65535 := Nat.mul_le_mul (by omega) (by omega)
    have h2 : (b - a) * (b - a) ≤ 65535 * 65535 := Nat.mul_le_mul (by omega) (by omega)
    omega
  rw [Int64.toInt_mul, e2, pk_lT (by omega)]
  have e3 : ((a : Int) - b) * ((a : Int) - b) = (sqd a b : Int) := by
    unfold sqd
    rcases Nat.le_total a b with h | h
    · obtain ⟨d, rfl⟩ : ∃ d, b = a + d := ⟨b - a, by omega⟩
      rw [show a - (a + d) = 0 by omega, show a + d - a = d by omega]
      have : (a : Int) - ((a + d : Nat) : Int) = -(d : Int) := by omega
      rw [this, Int.neg_mul_neg]
      simp
    · obtain ⟨d, rfl⟩ : ∃ d, a = b + d := ⟨a - b, by omega⟩
      rw [show b - (b + d) = 0 by omega, show b + d - b = d by omega]
      have : ((b + d : Nat) : Int) - (b : Int) = (d : Int) := by omega
      rw [this]
      simp
  rw [e3]
  exact Int.bmod_eq_of_le (by omega) (by omega)
theorem sqd_lt {a b : Nat} (ha : a < 65536) (hb : b < 65536) : sqd a b < 8589934592 := by
  unfold sqd
  have h1 : (a - b) * (a - b) ≤ 65535 * 65535 := Nat.mul_le_mul (by omega) (by omega)
  have h2 : (b - a) * (b - a) ≤ 65535 * 65535 := Nat.mul_le_mul (by omega) (by omega)
  omega
