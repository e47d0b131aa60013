/-! the reference's sort, as numbers: merging two sorted stretches; passes; what comes out -/
def mg (K o : Nat → Nat) (f mid e a b k : Nat) : Prop :=
  (f ≤ a ∧ a ≤ mid ∧ mid ≤ b ∧ b ≤ e ∧ k + mid = a + b) ∧
  (∀ p q, f ≤ p → p < q → q < k → o p ≤ o q) ∧
  (∀ p q, f ≤ p → p < k → a ≤ q → q < mid → o p ≤ K q) ∧
  (∀ p q, f ≤ p → p < k → b ≤ q → q < e → o p ≤ K q) ∧
  (∀ g : Nat → Nat, sg k (fun i => g (o i)) + sg f (fun i => g (K i)) + sg mid (fun i => g (K i)) = sg f (fun i => g (o i)) + sg a (fun i => g (K i)) + sg b (fun i => g (K i)))
theorem mg_0 {K o : Nat → Nat} {f mid e : Nat} (h1 : f ≤ mid) (h2 : mid ≤ e) : mg K o f mid e f mid f :=
  ⟨⟨by omega, by omega, by omega, by omega, rfl⟩, fun p q _ _ _ => by omega, fun p q _ _ _ _ => by omega, fun p q _ _ _ _ => by omega, fun g => rfl⟩
theorem sg_up_lt {o : Nat → Nat} {k v n : Nat} (h : n ≤ k) (g : Nat → Nat) : sg n (fun i => g (va_up o k v i)) = sg n (fun i => g (o i)) := sg_congr (fun i hi => by rw [up_ne (by omega)])
theorem mg_a {K o : Nat → Nat} {f mid e a b k : Nat} (h : mg K o f mid e a b k) (hs1 : ∀ p q, f ≤ p → p < q → q < mid → K p ≤ K q) (hs2 : ∀ p q, mid ≤ p → p < q → q < e → K p ≤ K q) (ha : a < mid) (hab : b = e ∨ K a ≤ K b) : mg K (va_up o k (K a)) f mid e (a + 1) b (k + 1) := by
  obtain ⟨⟨i1, i2, i3, i4, i5⟩, h1, h2, h3, h4⟩ := h
  refine ⟨⟨by omega, by omega, by omega, by omega, by omega⟩, fun p q hp hpq hq => ?_, fun p q hp hpk haq hq => ?_, fun p q hp hpk hbq hq => ?_, fun g => ?_⟩
  · by_cases e1 : q = k
    · subst e1
      rw [va_up_self, up_ne (by omega)]
      exact h2 p a hp hpq (by omega) ha
    · rw [up_ne (by omega), up_ne (by omega)]
      exact h1 p q hp hpq (by omega)
  · by_cases e1 : p = k
    · subst e1
      rw [va_up_self]
      exact hs1 a q i1 (by omega) hq
    · rw [up_ne (by omega)]
      exact h2 p q hp (by omega) (by omega) hq
  · by_cases e1 : p = k
    · subst e1
      rw [va_up_self]
      rcases hab with hab | hab
      · omega
      · by_cases e2 : q = b
        · subst e2; exact hab
        · exact Nat.le_trans hab (hs2 b q i3 (by omega) hq)
    · rw [up_ne (by omega)]
      exact h3 p q hp (by omega) (by omega) hq
  · have := h4 g
    rw [sg_s, sg_s, sg_up_lt (Nat.le_refl k), sg_up_lt (by omega : f ≤ k)]
    try dsimp only
    rw [va_up_self]
    omega
theorem mg_b {K o : Nat → Nat} {f mid e a b k : Nat} (h : mg K o f mid e a b k) (hs1 : ∀ p q, f ≤ p → p < q → q < mid → K p ≤ K q) (hs2 : ∀ p q, mid ≤ p → p < q → q < e → K p ≤ K q) (hb : b < e) (hab : a = mid ∨ K b ≤ K a) : mg K (va_up o k (K b)) f mid e a (b + 1) (k + 1) := by
  obtain ⟨⟨i1, i2, i3, i4, i5⟩, h1, h2, h3, h4⟩ := h
  refine ⟨⟨by omega, by omega, by omega, by omega, by omega⟩, fun p q hp hpq hq => ?_, fun p q hp hpk haq hq => ?_, fun p q hp hpk hbq hq => ?_, fun g => ?_⟩
  · by_cases e1 : q = k
    · subst e1
      rw [va_up_self, up_ne (by omega)]
      exact h3 p b hp hpq (by omega) hb
    · rw [up_ne (by omega), up_ne (by omega)]
      exact h1 p q hp hpq (by omega)
  · by_cases e1 : p = k
    · subst e1
      rw [va_up_self]
      rcases hab with hab | hab
      · omega
      · by_cases e2 : q = a
        · subst e2; exact hab
        · exact Nat.le_trans hab (hs1 a q i1 (by omega) hq)
    · rw [up_ne (by omega)]
      exact h2 p q hp (by omega) (by omega) hq
  · by_cases e1 : p = k
    · subst e1
      rw [va_up_self]
      exact hs2 b q i3 (by omega) hq
    · rw [up_ne (by omega)]
      exact h3 p q hp (by omega) (by omega) hq
  · have := h4 g
    rw [sg_s, sg_s, sg_up_lt (Nat.le_refl k), sg_up_lt (by omega : f ≤ k)]
    try dsimp only
    rw [va_up_self]
    omega
/-- sorted in blocks of w -/
def bs (w n : Nat) (K : Nat → Nat) : Prop := ∀ p q, p < q → q < n → p / w = q / w → K p ≤ K q
/-- the same numbers, up to n -/
def eqs (n : Nat) (K o : Nat → Nat) : Prop := ∀ g : Nat → Nat, sg n (fun i => g (o i)) = sg n (fun i => g (K i))
theorem bs_1 {n : Nat} {K : Nat → Nat} : bs 1 n K := fun p q h1 h2 h3 => by rw [Nat.div_one, Nat.div_one] at h3; omega
theorem bs_all {w n : Nat} {K : Nat → Nat} (h : bs w n K) (hw : n ≤ w) : ∀ p q, p < q → q < n → K p ≤ K q := fun p q h1 h2 => h p q h1 h2 (by rw [Nat.div_eq_of_lt (by omega), Nat.div_eq_of_lt (by omega)])
/-- the stretches of a block are sorted -/
theorem bs_lo {w n : Nat} {K : Nat → Nat} (h : bs w n K) (hw : 0 < w) {j mid : Nat} (hm : mid ≤ 2 * w * j + w) (hn : mid ≤ n) : ∀ p q, 2 * w * j ≤ p → p < q → q < mid → K p ≤ K q := by
  intro p q h1 h2 h3
  refine h p q h2 (by omega) ?_
  have e : 2 * w * j = w * (2 * j) := by rw [Nat.mul_comm 2 w, Nat.mul_assoc]
  rw [e] at h1 hm
  have a : ∀ x, w * (2 * j) ≤ x → x < w * (2 * j) + w → x / w = 2 * j := fun x g1 g2 => by
    rw [show x = (x - w * (2 * j)) + w * (2 * j) by omega, Nat.add_mul_div_left _ _ hw, Nat.div_eq_of_lt (by omega), Nat.zero_add]
  rw [a p h1 (by omega), a q (by omega) (by omega)]
theorem bs_hi {w n : Nat} {K : Nat → Nat} (h : bs w n K) (hw : 0 < w) {j e : Nat} (he : e ≤ 2 * w * j + 2 * w) (hn : e ≤ n) : ∀ p q, 2 * w * j + w ≤ p → p < q → q < e → K p ≤ K q := by
  intro p q h1 h2 h3
  refine h p q h2 (by omega) ?_
  have e1 : 2 * w * j = w * (2 * j) := by rw [Nat.mul_comm 2 w, Nat.mul_assoc]
  have e2 : w * (2 * j + 1) = w * (2 * j) + w := by rw [Nat.mul_add, Nat.mul_one]
  rw [e1] at h1 he
  have a : ∀ x, w * (2 * j) + w ≤ x → x < w * (2 * j) + 2 * w → x / w = 2 * j + 1 := fun x g1 g2 => by
    rw [show x = (x - w * (2 * j + 1)) + w * (2 * j + 1) by omega, Nat.add_mul_div_left _ _ hw, Nat.div_eq_of_lt (by omega), Nat.zero_add]
  rw [a p h1 (by omega), a q (by omega) (by omega)]
/-- a block more is merged -/
theorem mg_end {K o o' : Nat → Nat} {w j mid e m : Nat} (hw : 0 < w) (hf : 2 * w * j ≤ m) (he : e = min (2 * w * j + 2 * w) m) (hk : ∀ i, i < 2 * w * j → o' i = o i) (h : mg K o' (2 * w * j) mid e mid e e) (hb : bs (2 * w) (2 * w * j) o) (hq : eqs (2 * w * j) K o) : bs (2 * w) e o' ∧ eqs e K o' := by
  obtain ⟨-, h1, -, -, h4⟩ := h
  constructor
  · intro p q g1 g2 g3
    by_cases c : q < 2 * w * j
    · rw [hk p (by omega), hk q c]
      exact hb p q g1 c g3
    · by_cases c2 : 2 * w * j ≤ p
      · exact h1 p q c2 g1 g2
      · exfalso
        have a1 : p / (2 * w) < j := Nat.div_lt_of_lt_mul (by omega)
        have a2 : j ≤ q / (2 * w) := (Nat.le_div_iff_mul_le (by omega)).2 (by rw [Nat.mul_comm]; omega)
        omega
  · intro g
    have a1 := h4 g
    have a2 := hq g
    have a3 : sg (2 * w * j) (fun i => g (o' i)) = sg (2 * w * j) (fun i => g (o i)) := sg_congr (fun i hi => by rw [hk i hi])
    omega
theorem eqs.rf {n : Nat} {K : Nat → Nat} : eqs n K K := fun _ => rfl
theorem eqs.tr {n : Nat} {K o u : Nat → Nat} (h : eqs n K o) (h2 : eqs n o u) : eqs n K u := fun g => (h2 g).trans (h g)
theorem eqs_mem {n : Nat} {K o : Nat → Nat} (h : eqs n K o) (v : Nat) : (∃ i, i < n ∧ o i = v) ↔ ∃ i, i < n ∧ K i = v := by
  have e := h (fun x => if x = v then 1 else 0)
  constructor
  · rintro ⟨i, h1, h2⟩
    have := sg_get (f := fun i => if o i = v then 1 else 0) h1
    rw [if_pos h2, e] at this
    obtain ⟨j, g1, g2⟩ := sg_ex (n := n) (f := fun i => if K i = v then 1 else 0) (by omega)
    refine ⟨j, g1, Classical.byContradiction fun q => g2 (if_neg q)⟩
  · rintro ⟨i, h1, h2⟩
    have := sg_get (f := fun i => if K i = v then 1 else 0) h1
    rw [if_pos h2, ← e] at this
    obtain ⟨j, g1, g2⟩ := sg_ex (n := n) (f := fun i => if o i = v then 1 else 0) (by omega)
    refine ⟨j, g1, Classical.byContradiction fun q => g2 (if_neg q)⟩
/-- no number twice: sorted is strictly sorted -/
theorem eqs_strict {n : Nat} {K o : Nat → Nat} (h : eqs n K o) (hi : inj n K) (hs : ∀ p q, p < q → q < n → o p ≤ o q) : ∀ p q, p < q → q < n → o p < o q := by
  intro p q h1 h2
  rcases Nat.lt_or_ge (o p) (o q) with c | c
  · exact c
  · exfalso
    have e0 : o p = o q := Nat.le_antisymm (hs p q h1 h2) c
    have e := h (fun x => if x = o p then 1 else 0)
    have l1 : sg n (fun i => if K i = o p then 1 else 0) ≤ 1 := by
      by_cases c2 : ∃ i, i < n ∧ K i = o p
      · obtain ⟨i, g1, g2⟩ := c2
        rw [sg_only (f := fun i => if K i = o p then 1 else 0) g1 (fun j g3 g4 => if_neg (fun g5 => g4 (hi j i g3 g1 (g5.trans g2.symm))))]
        split <;> omega
      · rw [sg_zero (fun i g1 => if_neg (fun g2 => c2 ⟨i, g1, g2⟩))]
        omega
    have l2 := sg_put (n := n) (p := p) (f := fun i => if o i = o p then 1 else 0) (g := fun i => if i = p then 0 else if o i = o p then 1 else 0) (by omega) (fun i _ hne => if_neg hne)
    have l3 := sg_get (n := n) (f := fun i => if i = p then 0 else if o i = o p then 1 else 0) h2
    try dsimp only at l2 l3 e
    rw [if_neg (by omega), if_pos e0.symm] at l3
    rw [if_pos rfl, if_pos rfl] at l2
    omega
/-! the window's keys, row by row -/
def wkey (cu N left low h i : Nat) : Nat := kk cu N (left + i / h) (low + i % h)
def inF (x0 y0 x1 y1 x y : Nat) : Bool := decide (x0 ≤ x ∧ x ≤ x1 ∧ y0 ≤ y ∧ y ≤ y1)
theorem wkey_inj {cu N x0 y0 x1 y1 : Nat} (hx : x0 ≤ x1) (hy : y0 ≤ y1) (hX : x1 < 2 ^ N) (hY : y1 < 2 ^ N) : inj ((x1 - x0 + 1) * (y1 - y0 + 1)) (wkey cu N x0 y0 (y1 - y0 + 1)) := by
  intro i j hi hj he
  have b1 : ∀ i, i < (x1 - x0 + 1) * (y1 - y0 + 1) → i / (y1 - y0 + 1) < x1 - x0 + 1 := fun i h => Nat.div_lt_of_lt_mul (by rw [Nat.mul_comm]; exact h)
  have b2 : ∀ i, i % (y1 - y0 + 1) < y1 - y0 + 1 := fun i => Nat.mod_lt _ (by omega)
  have := b1 i hi
  have := b1 j hj
  have := b2 i
  have := b2 j
  obtain ⟨e1, e2⟩ := kk_inj (by omega) (by omega) (by omega) (by omega) he
  rw [← Nat.div_add_mod i (y1 - y0 + 1), ← Nat.div_add_mod j (y1 - y0 + 1), show i / (y1 - y0 + 1) = j / (y1 - y0 + 1) by omega, show i % (y1 - y0 + 1) = j % (y1 - y0 + 1) by omega]
theorem wkey_lt {cu N x0 y0 x1 y1 : Nat} (hx : x0 ≤ x1) (hy : y0 ≤ y1) (hX : x1 < 2 ^ N) (hY : y1 < 2 ^ N) {i : Nat} (hi : i < (x1 - x0 + 1) * (y1 - y0 + 1)) : wkey cu N x0 y0 (y1 - y0 + 1) i < 2 ^ N * 2 ^ N := by
  have b1 : i / (y1 - y0 + 1) < x1 - x0 + 1 := Nat.div_lt_of_lt_mul (by rw [Nat.mul_comm]; exact hi)
  have b2 : i % (y1 - y0 + 1) < y1 - y0 + 1 := Nat.mod_lt _ (by omega)
  exact kk_lt (by omega) (by omega)
theorem wkey_mem {cu N x0 y0 x1 y1 : Nat} (hx : x0 ≤ x1) (hy : y0 ≤ y1) (hX : x1 < 2 ^ N) (hY : y1 < 2 ^ N) {k : Nat} (hk : k < 2 ^ N * 2 ^ N) : inF x0 y0 x1 y1 (kc cu N k).1 (kc cu N k).2 = true ↔ ∃ i, i < (x1 - x0 + 1) * (y1 - y0 + 1) ∧ wkey cu N x0 y0 (y1 - y0 + 1) i = k := by
  unfold inF
  rw [decide_eq_true_eq]
  constructor
  · rintro ⟨h1, h2, h3, h4⟩
    refine ⟨(y1 - y0 + 1) * ((kc cu N k).1 - x0) + ((kc cu N k).2 - y0), ?_, ?_⟩
    · have : (y1 - y0 + 1) * ((kc cu N k).1 - x0 + 1) ≤ (y1 - y0 + 1) * (x1 - x0 + 1) := Nat.mul_le_mul_left _ (by omega)
      rw [Nat.mul_add, Nat.mul_one] at this
      rw [Nat.mul_comm (x1 - x0 + 1)]
      omega
    · unfold wkey
      rw [Nat.mul_add_div (by omega), Nat.div_eq_of_lt (by omega), Nat.mul_add_mod, Nat.mod_eq_of_lt (by omega), show x0 + ((kc cu N k).1 - x0 + 0) = (kc cu N k).1 by omega, show y0 + ((kc cu N k).2 - y0) = (kc cu N k).2 by omega]
      exact kk_kc hk
  · rintro ⟨i, hi, he⟩
    have b1 : i / (y1 - y0 + 1) < x1 - x0 + 1 := Nat.div_lt_of_lt_mul (by rw [Nat.mul_comm]; exact hi)
    have b2 : i % (y1 - y0 + 1) < y1 - y0 + 1 := Nat.mod_lt _ (by omega)
    have e := kc_kk (cu := cu) (N := N) (x := x0 + i / (y1 - y0 + 1)) (y := y0 + i % (y1 - y0 + 1)) (by omega) (by omega)
    have he : kk cu N (x0 + i / (y1 - y0 + 1)) (y0 + i % (y1 - y0 + 1)) = k := he
    rw [he] at e
    rw [e]
    dsimp only
    generalize i / (y1 - y0 + 1) = A at b1 ⊢
    generalize i % (y1 - y0 + 1) = B at b2 ⊢
    omega
/-- the sorted keys and the walk over all keys say the same -/
theorem walk_sorted {cu N x0 y0 x1 y1 : Nat} (hx : x0 ≤ x1) (hy : y0 ≤ y1) (hX : x1 < 2 ^ N) (hY : y1 < 2 ^ N) {a : Nat → Nat} (he : eqs ((x1 - x0 + 1) * (y1 - y0 + 1)) (wkey cu N x0 y0 (y1 - y0 + 1)) a) (hs : ∀ p q, p < q → q < (x1 - x0 + 1) * (y1 - y0 + 1) → a p ≤ a q) (w : Int32) :
    (∀ p q, p < q → q < (x1 - x0 + 1) * (y1 - y0 + 1) → a p < a q) ∧ (∀ i, i < (x1 - x0 + 1) * (y1 - y0 + 1) → a i < 2 ^ N * 2 ^ N) ∧ rw_k w (fun k => inF x0 y0 x1 y1 (kc cu N k).1 (kc cu N k).2) (2 ^ N * 2 ^ N) = rw_a w a ((x1 - x0 + 1) * (y1 - y0 + 1)) := by
  have h1 := eqs_strict he (wkey_inj hx hy hX hY) hs
  have h2 : ∀ i, i < (x1 - x0 + 1) * (y1 - y0 + 1) → a i < 2 ^ N * 2 ^ N := by
    intro i hi
    obtain ⟨j, g1, g2⟩ := (eqs_mem he (a i)).1 ⟨i, hi, rfl⟩
    rw [← g2]
    exact wkey_lt hx hy hX hY g1
  refine ⟨h1, h2, rw_ka h1 (fun k hk => ?_) h2⟩
  rw [wkey_mem hx hy hX hY hk, eqs_mem he k]
