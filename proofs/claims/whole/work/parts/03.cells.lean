/-! keys and cells, both ways -/
theorem hcx_add (l : Nat) : ∀ q r, hcx l (q * (2 ^ l * 2 ^ l) + r) = hcx l r := by
  induction l with
  | zero => intro q r; rfl
  | succ l ih =>
    intro q r
    have e : q * (2 ^ (l + 1) * 2 ^ (l + 1)) + r = r + (q * 4) * (2 ^ l * 2 ^ l) := by
      rw [p4_s, ← Nat.mul_assoc, Nat.add_comm]
    have e1 : (q * (2 ^ (l + 1) * 2 ^ (l + 1)) + r) / (2 ^ l * 2 ^ l) % 4 = r / (2 ^ l * 2 ^ l) % 4 := by
      rw [e, Nat.add_mul_div_right _ _ (p4_pos l)]
      omega
    have e2 : hcx l (q * (2 ^ (l + 1) * 2 ^ (l + 1)) + r) = hcx l r := by
      rw [e, Nat.add_comm]
      exact ih (q * 4) r
    unfold hcx
    rw [e1, e2]
theorem wcx_add (l : Nat) : ∀ q r, wcx l (q * (2 ^ l * 2 ^ l) + r) = wcx l r := by
  induction l with
  | zero => intro q r; rfl
  | succ l ih =>
    intro q r
    have e : q * (2 ^ (l + 1) * 2 ^ (l + 1)) + r = r + (q * 4) * (2 ^ l * 2 ^ l) := by
      rw [p4_s, ← Nat.mul_assoc, Nat.add_comm]
    have e1 : (q * (2 ^ (l + 1) * 2 ^ (l + 1)) + r) / (2 ^ l * 2 ^ l) % 4 = r / (2 ^ l * 2 ^ l) % 4 := by
      rw [e, Nat.add_mul_div_right _ _ (p4_pos l)]
      omega
    have e2 : wcx l (q * (2 ^ (l + 1) * 2 ^ (l + 1)) + r) = wcx l r := by
      rw [e, Nat.add_comm]
      exact ih (q * 4) r
    unfold wcx
    rw [e1, e2]
theorem dg_of {l q r : Nat} (hq : q < 4) (hr : r < 2 ^ l * 2 ^ l) : (q * (2 ^ l * 2 ^ l) + r) / (2 ^ l * 2 ^ l) % 4 = q := by
  rw [Nat.add_comm, Nat.add_mul_div_right _ _ (p4_pos l), Nat.div_eq_of_lt hr]
  omega
theorem hcx_0 {l k : Nat} (h : k / (2 ^ l * 2 ^ l) % 4 = 0) : hcx (l + 1) k = ((hcx l k).2, (hcx l k).1) := by
  show (match k / (2 ^ l * 2 ^ l) % 4 with | 0 => _ | 1 => _ | 2 => _ | _ => _) = _
  rw [h]
  rfl
theorem hcx_1 {l k : Nat} (h : k / (2 ^ l * 2 ^ l) % 4 = 1) : hcx (l + 1) k = ((hcx l k).1, (hcx l k).2 + 2 ^ l) := by
  show (match k / (2 ^ l * 2 ^ l) % 4 with | 0 => _ | 1 => _ | 2 => _ | _ => _) = _
  rw [h]
  rfl
theorem hcx_2 {l k : Nat} (h : k / (2 ^ l * 2 ^ l) % 4 = 2) : hcx (l + 1) k = ((hcx l k).1 + 2 ^ l, (hcx l k).2 + 2 ^ l) := by
  show (match k / (2 ^ l * 2 ^ l) % 4 with | 0 => _ | 1 => _ | 2 => _ | _ => _) = _
  rw [h]
  rfl
theorem hcx_3 {l k : Nat} (h : k / (2 ^ l * 2 ^ l) % 4 = 3) : hcx (l + 1) k = (2 * 2 ^ l - 1 - (hcx l k).2, 2 ^ l - 1 - (hcx l k).1) := by
  show (match k / (2 ^ l * 2 ^ l) % 4 with | 0 => _ | 1 => _ | 2 => _ | _ => _) = _
  rw [h]
  rfl
theorem hcx_hk (l : Nat) : ∀ a b, a < 2 ^ l → b < 2 ^ l → hcx l (hk l a b) = (a, b) := by
  induction l with
  | zero =>
    intro a b ha hb
    rw [Nat.pow_zero] at ha hb
    obtain rfl : a = 0 := by omega
    obtain rfl : b = 0 := by omega
    rfl
  | succ l ih =>
    intro a b ha hb
    rw [p2_s] at ha hb
    rcases Nat.lt_or_ge a (2 ^ l) with h1 | h1 <;> rcases Nat.lt_or_ge b (2 ^ l) with h2 | h2
    · rw [hk_00 h1 h2]
      have hl := hk_lt l b a h2 h1
      have hd := dg_of (l := l) (q := 0) (r := hk l b a) (by omega) hl
      rw [Nat.zero_mul, Nat.zero_add] at hd
      rw [hcx_0 hd, ih b a h2 h1]
    · rw [hk_01 h1 h2]
      have hl := hk_lt l a (b - 2 ^ l) h1 (by omega)
      have hd := dg_of (l := l) (q := 1) (by omega) hl
      have ha := hcx_add l 1 (hk l a (b - 2 ^ l))
      rw [Nat.one_mul] at hd ha
      rw [hcx_1 hd, ha, ih a (b - 2 ^ l) h1 (by omega)]
      show (a, b - 2 ^ l + 2 ^ l) = (a, b)
      rw [Nat.sub_add_cancel h2]
    · rw [hk_10 h1 h2]
      have hl := hk_lt l (2 ^ l - 1 - b) (2 * 2 ^ l - 1 - a) (by omega) (by omega)
      have hd := dg_of (l := l) (q := 3) (by omega) hl
      have ha := hcx_add l 3 (hk l (2 ^ l - 1 - b) (2 * 2 ^ l - 1 - a))
      rw [hcx_3 hd, ha, ih _ _ (by omega) (by omega)]
      show (2 * 2 ^ l - 1 - (2 * 2 ^ l - 1 - a), 2 ^ l - 1 - (2 ^ l - 1 - b)) = (a, b)
      congr 1 <;> omega
    · rw [hk_11 h1 h2]
      have hl := hk_lt l (a - 2 ^ l) (b - 2 ^ l) (by omega) (by omega)
      have hd := dg_of (l := l) (q := 2) (by omega) hl
      have ha := hcx_add l 2 (hk l (a - 2 ^ l) (b - 2 ^ l))
      rw [hcx_2 hd, ha, ih _ _ (by omega) (by omega)]
      show (a - 2 ^ l + 2 ^ l, b - 2 ^ l + 2 ^ l) = (a, b)
      rw [Nat.sub_add_cancel h1, Nat.sub_add_cancel h2]
theorem md4_s (k l : Nat) : k % (2 ^ (l + 1) * 2 ^ (l + 1)) = k % (2 ^ l * 2 ^ l) + (k / (2 ^ l * 2 ^ l) % 4) * (2 ^ l * 2 ^ l) := by
  rw [p4_s, Nat.mul_comm 4, Nat.mod_mul, Nat.mul_comm (2 ^ l * 2 ^ l) (k / (2 ^ l * 2 ^ l) % 4)]
theorem hk_hcx (l : Nat) : ∀ k, hk l (hcx l k).1 (hcx l k).2 = k % (2 ^ l * 2 ^ l) := by
  induction l with
  | zero => intro k; show 0 = k % (1 * 1); omega
  | succ l ih =>
    intro k
    rw [md4_s]
    obtain ⟨h1, h2⟩ := hcx_lt l k
    have h0 := ih k
    have hq : k / (2 ^ l * 2 ^ l) % 4 = 0 ∨ k / (2 ^ l * 2 ^ l) % 4 = 1 ∨ k / (2 ^ l * 2 ^ l) % 4 = 2 ∨ k / (2 ^ l * 2 ^ l) % 4 = 3 := by omega
    rcases hq with h | h | h | h
    · rw [hcx_0 h, h]
      dsimp only
      rw [hk_00 h2 h1, h0]
      omega
    · rw [hcx_1 h, h]
      dsimp only
      rw [hk_01 h1 (by omega), Nat.add_sub_cancel, h0]
      omega
    · rw [hcx_2 h, h]
      dsimp only
      rw [hk_11 (by omega) (by omega), Nat.add_sub_cancel, Nat.add_sub_cancel, h0]
      omega
    · rw [hcx_3 h, h]
      dsimp only
      rw [hk_10 (by omega) (by omega), show 2 ^ l - 1 - (2 ^ l - 1 - (hcx l k).1) = (hcx l k).1 by omega, show 2 * 2 ^ l - 1 - (2 * 2 ^ l - 1 - (hcx l k).2) = (hcx l k).2 by omega, h0]
      omega
theorem wk_hi (l : Nat) : ∀ x y b c, wk l (x + 2 ^ l * b) (y + 2 ^ l * c) = wk l x y := by
  induction l with
  | zero => intro x y b c; rfl
  | succ l ih =>
    intro x y b c
    have ex : ∀ z d, z + 2 ^ (l + 1) * d = z + 2 ^ l * (2 * d) := by
      intro z d
      rw [p2_s, Nat.mul_comm 2 (2 ^ l), Nat.mul_assoc]
    have ed : ∀ z d, (z + 2 ^ l * (2 * d)) / 2 ^ l % 2 = z / 2 ^ l % 2 := by
      intro z d
      rw [Nat.add_mul_div_left _ _ (Nat.two_pow_pos l)]
      omega
    show (_ / 2 ^ l % 2 + 2 * (_ / 2 ^ l % 2)) * (2 ^ l * 2 ^ l) + wk l _ _ = (x / 2 ^ l % 2 + 2 * (y / 2 ^ l % 2)) * (2 ^ l * 2 ^ l) + wk l x y
    rw [ex, ex, ed, ed, ih]
theorem bit_of {l z b : Nat} (hz : z < 2 ^ l) (hb : b < 2) : (z + 2 ^ l * b) / 2 ^ l % 2 = b := by
  rw [Nat.add_mul_div_left _ _ (Nat.two_pow_pos l), Nat.div_eq_of_lt hz]
  omega
theorem wk_wcx (l : Nat) : ∀ k, wk l (wcx l k).1 (wcx l k).2 = k % (2 ^ l * 2 ^ l) := by
  induction l with
  | zero => intro k; show 0 = k % (1 * 1); omega
  | succ l ih =>
    intro k
    rw [md4_s]
    obtain ⟨h1, h2⟩ := wcx_lt l k
    show ((_ + 2 ^ l * (k / (2 ^ l * 2 ^ l) % 4 % 2)) / 2 ^ l % 2 + 2 * ((_ + 2 ^ l * (k / (2 ^ l * 2 ^ l) % 4 / 2)) / 2 ^ l % 2)) * (2 ^ l * 2 ^ l) + wk l (_ + 2 ^ l * _) (_ + 2 ^ l * _) = _
    rw [bit_of h1 (by omega), bit_of h2 (by omega), wk_hi, ih, Nat.add_comm]
    congr 2
    omega
theorem wcx_wk (l : Nat) : ∀ x y, x < 2 ^ l → y < 2 ^ l → wcx l (wk l x y) = (x, y) := by
  have gen : ∀ x y, wcx l (wk l x y) = (x % 2 ^ l, y % 2 ^ l) := by
    induction l with
    | zero => intro x y; show (0, 0) = (x % 1, y % 1); rw [Nat.mod_one, Nat.mod_one]
    | succ l ih =>
      intro x y
      have h2 : x / 2 ^ l % 2 < 2 := Nat.mod_lt _ (by omega)
      have h3 : y / 2 ^ l % 2 < 2 := Nat.mod_lt _ (by omega)
      have hd := dg_of (l := l) (q := x / 2 ^ l % 2 + 2 * (y / 2 ^ l % 2)) (by omega) (wk_lt l x y)
      show ((wcx l ((x / 2 ^ l % 2 + 2 * (y / 2 ^ l % 2)) * (2 ^ l * 2 ^ l) + wk l x y)).1 + 2 ^ l * (((x / 2 ^ l % 2 + 2 * (y / 2 ^ l % 2)) * (2 ^ l * 2 ^ l) + wk l x y) / (2 ^ l * 2 ^ l) % 4 % 2), (wcx l ((x / 2 ^ l % 2 + 2 * (y / 2 ^ l % 2)) * (2 ^ l * 2 ^ l) + wk l x y)).2 + 2 ^ l * (((x / 2 ^ l % 2 + 2 * (y / 2 ^ l % 2)) * (2 ^ l * 2 ^ l) + wk l x y) / (2 ^ l * 2 ^ l) % 4 / 2)) = _
      rw [hd, wcx_add, ih, md_s, md_s]
      dsimp only
      congr 2
      · congr 1; omega
      · congr 1; omega
  intro x y hx hy
  rw [gen, Nat.mod_eq_of_lt hx, Nat.mod_eq_of_lt hy]
/-- the cell of a key, in a square where the curve lies as the state says -/
def cs (st l k : Nat) : Nat × Nat := if st = 4 then wcx l k else (tx st (2 ^ l) (hcx l k).1 (hcx l k).2, ty st (2 ^ l) (hcx l k).1 (hcx l k).2)
theorem cs_lt {st l k : Nat} : (cs st l k).1 < 2 ^ l ∧ (cs st l k).2 < 2 ^ l := by
  obtain ⟨h1, h2⟩ := hcx_lt l k
  unfold cs
  split
  · exact wcx_lt l k
  · dsimp only
    unfold tx ty
    split <;> omega
theorem cs_step {st l k : Nat} (hst : st < 5) : cs st (l + 1) k = (2 ^ l * (tQS (4 * st + k / (2 ^ l * 2 ^ l) % 4) / 2) + (cs (tSS (4 * st + k / (2 ^ l * 2 ^ l) % 4)) l k).1, 2 ^ l * (tQS (4 * st + k / (2 ^ l * 2 ^ l) % 4) % 2) + (cs (tSS (4 * st + k / (2 ^ l * 2 ^ l) % 4)) l k).2) := by
  obtain ⟨h1, h2⟩ := hcx_lt l k
  have hq : k / (2 ^ l * 2 ^ l) % 4 = 0 ∨ k / (2 ^ l * 2 ^ l) % 4 = 1 ∨ k / (2 ^ l * 2 ^ l) % 4 = 2 ∨ k / (2 ^ l * 2 ^ l) % 4 = 3 := by omega
  have e1 : st = 4 ∨ st = 0 ∨ st = 1 ∨ st = 2 ∨ st = 3 := by omega
  rcases e1 with rfl | e1
  · have hw : wcx (l + 1) k = ((wcx l k).1 + 2 ^ l * (k / (2 ^ l * 2 ^ l) % 4 % 2), (wcx l k).2 + 2 ^ l * (k / (2 ^ l * 2 ^ l) % 4 / 2)) := rfl
    have c4 : ∀ n, cs 4 n k = wcx n k := fun n => rfl
    rw [c4, hw]
    rcases hq with h | h | h | h <;> rw [h] <;> simp only [tQS, tSS, List.getD_cons_zero, List.getD_cons_succ, Nat.reduceAdd, Nat.reduceMul, Nat.reduceDiv, Nat.reduceMod, c4] <;> congr 1 <;> omega
  · have hn : ∀ a n, a < 4 → cs a n k = (tx a (2 ^ n) (hcx n k).1 (hcx n k).2, ty a (2 ^ n) (hcx n k).1 (hcx n k).2) := fun a n ha => by unfold cs; rw [if_neg (by omega)]
    rw [hn st (l + 1) (by omega), hn (tSS (4 * st + k / (2 ^ l * 2 ^ l) % 4)) l (tSS_lt4 _ (by omega)), p2_s]
    rcases hq with h | h | h | h
    · rw [hcx_0 h, h]
      rcases e1 with rfl | rfl | rfl | rfl <;> simp only [tx, ty, tQS, tSS, List.getD_cons_zero, List.getD_cons_succ, Nat.reduceAdd, Nat.reduceMul, Nat.reduceDiv, Nat.reduceMod, Nat.mul_zero, Nat.mul_one, Nat.zero_add, Nat.add_zero] <;> congr 1 <;> omega
    · rw [hcx_1 h, h]
      rcases e1 with rfl | rfl | rfl | rfl <;> simp only [tx, ty, tQS, tSS, List.getD_cons_zero, List.getD_cons_succ, Nat.reduceAdd, Nat.reduceMul, Nat.reduceDiv, Nat.reduceMod, Nat.mul_zero, Nat.mul_one, Nat.zero_add, Nat.add_zero] <;> congr 1 <;> omega
    · rw [hcx_2 h, h]
      rcases e1 with rfl | rfl | rfl | rfl <;> simp only [tx, ty, tQS, tSS, List.getD_cons_zero, List.getD_cons_succ, Nat.reduceAdd, Nat.reduceMul, Nat.reduceDiv, Nat.reduceMod, Nat.mul_zero, Nat.mul_one, Nat.zero_add, Nat.add_zero] <;> congr 1 <;> omega
    · rw [hcx_3 h, h]
      rcases e1 with rfl | rfl | rfl | rfl <;> simp only [tx, ty, tQS, tSS, List.getD_cons_zero, List.getD_cons_succ, Nat.reduceAdd, Nat.reduceMul, Nat.reduceDiv, Nat.reduceMod, Nat.mul_zero, Nat.mul_one, Nat.zero_add, Nat.add_zero] <;> congr 1 <;> omega
/-- the class's walk to a cell -/
def cw (l st x y k : Nat) : Nat × Nat := match l with
  | 0 => (x, y)
  | l + 1 => cw l (tSS (4 * st + k / (2 ^ l * 2 ^ l) % 4)) (2 * x + tQS (4 * st + k / (2 ^ l * 2 ^ l) % 4) / 2) (2 * y + tQS (4 * st + k / (2 ^ l * 2 ^ l) % 4) % 2) k
theorem cw_eq (l : Nat) : ∀ st x y k, st < 5 → cw l st x y k = (2 ^ l * x + (cs st l k).1, 2 ^ l * y + (cs st l k).2) := by
  induction l with
  | zero =>
    intro st x y k _
    obtain ⟨h1, h2⟩ := cs_lt (st := st) (l := 0) (k := k)
    rw [Nat.pow_zero] at h1 h2
    show (x, y) = (1 * x + _, 1 * y + _)
    congr 1 <;> omega
  | succ l ih =>
    intro st x y k hst
    show cw l _ _ _ k = _
    rw [ih _ _ _ _ (tSS_lt _ (by omega)), cs_step hst, p2_s]
    generalize tQS (4 * st + k / (2 ^ l * 2 ^ l) % 4) / 2 = a
    generalize tQS (4 * st + k / (2 ^ l * 2 ^ l) % 4) % 2 = b
    dsimp only
    rw [Nat.mul_add, Nat.mul_add, ← Nat.mul_assoc, ← Nat.mul_assoc, Nat.mul_comm (2 ^ l) 2, Nat.add_assoc, Nat.add_assoc]
/-- the cell of a key by a curve -/
def kc (cu N k : Nat) : Nat × Nat := if cu = 0 then wcx N k else hcx N k
theorem cs_kc {cu N k : Nat} (hcu : cu < 2) : cs (st0 cu) N k = kc cu N k := by
  have e : cu = 0 ∨ cu = 1 := by omega
  rcases e with rfl | rfl <;> rfl
theorem kc_lt {cu N k : Nat} : (kc cu N k).1 < 2 ^ N ∧ (kc cu N k).2 < 2 ^ N := by
  unfold kc
  split
  · exact wcx_lt N k
  · exact hcx_lt N k
theorem kc_kk {cu N x y : Nat} (hx : x < 2 ^ N) (hy : y < 2 ^ N) : kc cu N (kk cu N x y) = (x, y) := by
  unfold kc kk
  split
  · exact wcx_wk _ _ _ hx hy
  · exact hcx_hk _ _ _ hx hy
theorem kk_kc {cu N k : Nat} (hk : k < 2 ^ N * 2 ^ N) : kk cu N (kc cu N k).1 (kc cu N k).2 = k := by
  unfold kc kk
  split
  · rw [wk_wcx, Nat.mod_eq_of_lt hk]
  · rw [hk_hcx, Nat.mod_eq_of_lt hk]
theorem kk_inj {cu N x y x' y' : Nat} (hx : x < 2 ^ N) (hy : y < 2 ^ N) (hx' : x' < 2 ^ N) (hy' : y' < 2 ^ N) (h : kk cu N x y = kk cu N x' y') : x = x' ∧ y = y' := by
  have a := kc_kk (cu := cu) hx hy
  rw [h, kc_kk hx' hy'] at a
  exact ⟨(Prod.mk.inj a).1.symm, (Prod.mk.inj a).2.symm⟩
/-- the key of a cell's number -/
def ke (cu N c : Nat) : Nat := kk cu N (c / 2 ^ N) (c % 2 ^ N)
theorem cl_of {N c : Nat} (hc : c < 2 ^ N * 2 ^ N) : c / 2 ^ N < 2 ^ N ∧ c % 2 ^ N < 2 ^ N := ⟨Nat.div_lt_of_lt_mul hc, Nat.mod_lt _ (Nat.two_pow_pos N)⟩
theorem cl_mk {N x y : Nat} (hx : x < 2 ^ N) (hy : y < 2 ^ N) : x * 2 ^ N + y < 2 ^ N * 2 ^ N ∧ (x * 2 ^ N + y) / 2 ^ N = x ∧ (x * 2 ^ N + y) % 2 ^ N = y := by
  refine ⟨?_, ?_, ?_⟩
  · have : (x + 1) * 2 ^ N ≤ 2 ^ N * 2 ^ N := Nat.mul_le_mul_right _ hx
    rw [Nat.add_mul] at this
    omega
  · rw [Nat.add_comm, Nat.add_mul_div_right _ _ (Nat.two_pow_pos N), Nat.div_eq_of_lt hy, Nat.zero_add]
  · rw [Nat.add_comm, Nat.add_mul_mod_self_right, Nat.mod_eq_of_lt hy]
theorem ke_lt {cu N c : Nat} (hc : c < 2 ^ N * 2 ^ N) : ke cu N c < 2 ^ N * 2 ^ N := kk_lt (cl_of hc).1 (cl_of hc).2
theorem ke_inj {cu N c c' : Nat} (hc : c < 2 ^ N * 2 ^ N) (hc' : c' < 2 ^ N * 2 ^ N) (h : ke cu N c = ke cu N c') : c = c' := by
  obtain ⟨a, b⟩ := kk_inj (cl_of hc).1 (cl_of hc).2 (cl_of hc').1 (cl_of hc').2 h
  rw [← Nat.div_add_mod c (2 ^ N), a, b, Nat.div_add_mod]
theorem ke_mk {cu N x y : Nat} (hx : x < 2 ^ N) (hy : y < 2 ^ N) : ke cu N (x * 2 ^ N + y) = kk cu N x y := by
  obtain ⟨-, a, b⟩ := cl_mk hx hy
  unfold ke
  rw [a, b]
