/-! the two curves, as numbers -/
def tSQ (i : Nat) : Nat := [0, 1, 3, 2, 0, 3, 1, 2, 2, 3, 1, 0, 2, 1, 3, 0, 0, 2, 1, 3].getD i 0
def tQS (i : Nat) : Nat := [0, 1, 3, 2, 0, 2, 3, 1, 3, 2, 0, 1, 3, 1, 0, 2, 0, 2, 1, 3].getD i 0
def tSS (i : Nat) : Nat := [1, 0, 0, 3, 0, 1, 1, 2, 3, 2, 2, 1, 2, 3, 3, 0, 4, 4, 4, 4].getD i 0
theorem tSQ_lt : ∀ i, i < 20 → tSQ i < 4 := by decide
theorem tQS_lt : ∀ i, i < 20 → tQS i < 4 := by decide
theorem tSS_lt : ∀ i, i < 20 → tSS i < 5 := by decide
theorem tSS_lt4 : ∀ i, i < 16 → tSS i < 4 := by decide
/-- the turn's key on a side of 2^l -/
def hk (l a b : Nat) : Nat := match l with
  | 0 => 0
  | l + 1 => if a < 2 ^ l then (if b < 2 ^ l then hk l b a else 2 ^ l * 2 ^ l + hk l a (b - 2 ^ l))
    else if 2 ^ l ≤ b then 2 * (2 ^ l * 2 ^ l) + hk l (a - 2 ^ l) (b - 2 ^ l) else 3 * (2 ^ l * 2 ^ l) + hk l (2 ^ l - 1 - b) (2 * 2 ^ l - 1 - a)
/-- the weave's -/
def wk (l x y : Nat) : Nat := match l with
  | 0 => 0
  | l + 1 => (x / 2 ^ l % 2 + 2 * (y / 2 ^ l % 2)) * (2 ^ l * 2 ^ l) + wk l x y
theorem hk_00 {l a b : Nat} (h1 : a < 2 ^ l) (h2 : b < 2 ^ l) : hk (l + 1) a b = hk l b a := by
  show (if a < 2 ^ l then _ else _) = _
  rw [if_pos h1, if_pos h2]
theorem hk_01 {l a b : Nat} (h1 : a < 2 ^ l) (h2 : 2 ^ l ≤ b) : hk (l + 1) a b = 2 ^ l * 2 ^ l + hk l a (b - 2 ^ l) := by
  show (if a < 2 ^ l then _ else _) = _
  rw [if_pos h1, if_neg (by omega)]
theorem hk_11 {l a b : Nat} (h1 : 2 ^ l ≤ a) (h2 : 2 ^ l ≤ b) : hk (l + 1) a b = 2 * (2 ^ l * 2 ^ l) + hk l (a - 2 ^ l) (b - 2 ^ l) := by
  show (if a < 2 ^ l then _ else _) = _
  rw [if_neg (by omega), if_pos h2]
theorem hk_10 {l a b : Nat} (h1 : 2 ^ l ≤ a) (h2 : b < 2 ^ l) : hk (l + 1) a b = 3 * (2 ^ l * 2 ^ l) + hk l (2 ^ l - 1 - b) (2 * 2 ^ l - 1 - a) := by
  show (if a < 2 ^ l then _ else _) = _
  rw [if_neg (by omega), if_neg (by omega)]
theorem p4_s (l : Nat) : 2 ^ (l + 1) * 2 ^ (l + 1) = 4 * (2 ^ l * 2 ^ l) := by
  rw [Nat.pow_succ]
  generalize 2 ^ l = s
  rw [Nat.mul_assoc, Nat.mul_comm 2 (s * 2), Nat.mul_assoc s 2 2, ← Nat.mul_assoc s s]
  omega
theorem p4_pos (l : Nat) : 0 < 2 ^ l * 2 ^ l := Nat.mul_pos (Nat.two_pow_pos l) (Nat.two_pow_pos l)
theorem p4_eq (l : Nat) : 4 ^ l = 2 ^ l * 2 ^ l := by
  rw [show (4 : Nat) = 2 * 2 from rfl, Nat.mul_pow]
theorem p2_s (l : Nat) : 2 ^ (l + 1) = 2 * 2 ^ l := by rw [Nat.pow_succ, Nat.mul_comm]
theorem hk_lt (l : Nat) : ∀ a b, a < 2 ^ l → b < 2 ^ l → hk l a b < 2 ^ l * 2 ^ l := by
  induction l with
  | zero => intro a b _ _; show 0 < _; exact p4_pos 0
  | succ l ih =>
    intro a b ha hb
    rw [p2_s] at ha hb
    rw [p4_s]
    have h0 := p4_pos l
    rcases Nat.lt_or_ge a (2 ^ l) with h1 | h1 <;> rcases Nat.lt_or_ge b (2 ^ l) with h2 | h2
    · rw [hk_00 h1 h2]
      have := ih b a h2 h1
      omega
    · rw [hk_01 h1 h2]
      have := ih a (b - 2 ^ l) h1 (by omega)
      omega
    · rw [hk_10 h1 h2]
      have := ih (2 ^ l - 1 - b) (2 * 2 ^ l - 1 - a) (by omega) (by omega)
      omega
    · rw [hk_11 h1 h2]
      have := ih (a - 2 ^ l) (b - 2 ^ l) (by omega) (by omega)
      omega
theorem wk_lt (l : Nat) : ∀ x y, wk l x y < 2 ^ l * 2 ^ l := by
  induction l with
  | zero => intro a b; exact p4_pos 0
  | succ l ih =>
    intro x y
    rw [p4_s]
    show (x / 2 ^ l % 2 + 2 * (y / 2 ^ l % 2)) * (2 ^ l * 2 ^ l) + wk l x y < _
    have h1 := ih x y
    have h2 : x / 2 ^ l % 2 < 2 := Nat.mod_lt _ (by omega)
    have h3 : y / 2 ^ l % 2 < 2 := Nat.mod_lt _ (by omega)
    have h4 : (x / 2 ^ l % 2 + 2 * (y / 2 ^ l % 2)) * (2 ^ l * 2 ^ l) ≤ 3 * (2 ^ l * 2 ^ l) := Nat.mul_le_mul_right _ (by omega)
    omega
/-- how the turn lies in a square: 1 exchanges, 2 counts backwards -/
def tx (st s x y : Nat) : Nat := match st with
  | 0 => x
  | 1 => y
  | 2 => s - 1 - x
  | _ => s - 1 - y
def ty (st s x y : Nat) : Nat := match st with
  | 0 => y
  | 1 => x
  | 2 => s - 1 - y
  | _ => s - 1 - x
theorem hk_step (l : Nat) {st xb yb xr yr : Nat} (hst : st < 4) (hxb : xb < 2) (hyb : yb < 2) (hx : xr < 2 ^ l) (hy : yr < 2 ^ l) :
    hk (l + 1) (tx st (2 * 2 ^ l) (xr + 2 ^ l * xb) (yr + 2 ^ l * yb)) (ty st (2 * 2 ^ l) (xr + 2 ^ l * xb) (yr + 2 ^ l * yb)) =
      tSQ (4 * st + (2 * xb + yb)) * (2 ^ l * 2 ^ l) + hk l (tx (tSS (4 * st + tSQ (4 * st + (2 * xb + yb)))) (2 ^ l) xr yr) (ty (tSS (4 * st + tSQ (4 * st + (2 * xb + yb)))) (2 ^ l) xr yr) := by
  have e1 : st = 0 ∨ st = 1 ∨ st = 2 ∨ st = 3 := by omega
  have e2 : xb = 0 ∨ xb = 1 := by omega
  have e3 : yb = 0 ∨ yb = 1 := by omega
  rcases e1 with rfl | rfl | rfl | rfl <;> rcases e2 with rfl | rfl <;> rcases e3 with rfl | rfl <;>
    simp only [tx, ty, tSQ, tSS, List.getD_cons_zero, List.getD_cons_succ, Nat.mul_zero, Nat.mul_one, Nat.zero_add, Nat.add_zero, Nat.reduceAdd, Nat.reduceMul, Nat.zero_mul, Nat.one_mul] <;>
    first
    | (rw [hk_00 (by omega) (by omega)]; done)
    | (rw [hk_01 (by omega) (by omega)]; congr 2 <;> omega)
    | (rw [hk_11 (by omega) (by omega)]; congr 2 <;> omega)
    | (rw [hk_10 (by omega) (by omega)]; congr 2 <;> omega)
    | (rw [hk_00 (by omega) (by omega)]; congr 1 <;> omega)
/-- the class's walk: from the top down -/
def ck (l st k x y : Nat) : Nat := match l with
  | 0 => k
  | l + 1 => ck l (tSS (4 * st + tSQ (4 * st + (2 * (x / 2 ^ l % 2) + y / 2 ^ l % 2)))) (4 * k + tSQ (4 * st + (2 * (x / 2 ^ l % 2) + y / 2 ^ l % 2))) x y
theorem md_s (x l : Nat) : x % 2 ^ (l + 1) = x % 2 ^ l + 2 ^ l * (x / 2 ^ l % 2) := by
  rw [Nat.pow_succ, Nat.mod_mul]
theorem ck_turn (l : Nat) : ∀ st k x y, st < 4 → ck l st k x y = k * (2 ^ l * 2 ^ l) + hk l (tx st (2 ^ l) (x % 2 ^ l) (y % 2 ^ l)) (ty st (2 ^ l) (x % 2 ^ l) (y % 2 ^ l)) := by
  induction l with
  | zero => intro st k x y _; show k = k * (1 * 1) + 0; omega
  | succ l ih =>
    intro st k x y hst
    have h2 : x / 2 ^ l % 2 < 2 := Nat.mod_lt _ (by omega)
    have h3 : y / 2 ^ l % 2 < 2 := Nat.mod_lt _ (by omega)
    have hq := tSQ_lt (4 * st + (2 * (x / 2 ^ l % 2) + y / 2 ^ l % 2)) (by omega)
    show ck l _ _ x y = _
    rw [ih _ _ _ _ (tSS_lt4 _ (by omega)), md_s x, md_s y, p2_s, hk_step l hst h2 h3 (Nat.mod_lt _ (Nat.two_pow_pos l)) (Nat.mod_lt _ (Nat.two_pow_pos l))]
    generalize tSQ (4 * st + (2 * (x / 2 ^ l % 2) + y / 2 ^ l % 2)) = q
    rw [← Nat.add_assoc]
    congr 1
    rw [← p2_s, p4_s, Nat.add_mul, Nat.mul_comm 4 k, Nat.mul_assoc]
theorem sq_weave : ∀ a b, a < 2 → b < 2 → tSQ (4 * 4 + (2 * a + b)) = a + 2 * b := by
  intro a b ha hb
  have e2 : a = 0 ∨ a = 1 := by omega
  have e3 : b = 0 ∨ b = 1 := by omega
  rcases e2 with rfl | rfl <;> rcases e3 with rfl | rfl <;> rfl
theorem ss_weave : ∀ a, a < 4 → tSS (4 * 4 + a) = 4 := by
  intro a ha
  have e2 : a = 0 ∨ a = 1 ∨ a = 2 ∨ a = 3 := by omega
  rcases e2 with rfl | rfl | rfl | rfl <;> rfl
theorem ck_weave (l : Nat) : ∀ k x y, ck l 4 k x y = k * (2 ^ l * 2 ^ l) + wk l x y := by
  induction l with
  | zero => intro k x y; show k = k * (1 * 1) + 0; omega
  | succ l ih =>
    intro k x y
    have h2 : x / 2 ^ l % 2 < 2 := Nat.mod_lt _ (by omega)
    have h3 : y / 2 ^ l % 2 < 2 := Nat.mod_lt _ (by omega)
    show ck l (tSS (4 * 4 + tSQ (4 * 4 + (2 * (x / 2 ^ l % 2) + y / 2 ^ l % 2)))) _ x y = _
    rw [sq_weave _ _ h2 h3, ss_weave _ (by omega), ih]
    show _ = k * (2 ^ (l + 1) * 2 ^ (l + 1)) + ((x / 2 ^ l % 2 + 2 * (y / 2 ^ l % 2)) * (2 ^ l * 2 ^ l) + wk l x y)
    generalize x / 2 ^ l % 2 + 2 * (y / 2 ^ l % 2) = q
    rw [← Nat.add_assoc]
    congr 1
    rw [p4_s, Nat.add_mul, Nat.mul_comm 4 k, Nat.mul_assoc]
/-- the key of a cell by a curve -/
def kk (cu N x y : Nat) : Nat := if cu = 0 then wk N x y else hk N x y
def st0 (cu : Nat) : Nat := if cu = 0 then 4 else 0
theorem ck_kk {cu N x y : Nat} (hcu : cu < 2) (hx : x < 2 ^ N) (hy : y < 2 ^ N) : ck N (st0 cu) 0 x y = kk cu N x y := by
  have e : cu = 0 ∨ cu = 1 := by omega
  rcases e with rfl | rfl
  · show ck N 4 0 x y = wk N x y
    rw [ck_weave]; omega
  · show ck N 0 0 x y = hk N x y
    rw [ck_turn _ _ _ _ _ (by omega), Nat.mod_eq_of_lt hx, Nat.mod_eq_of_lt hy]
    show 0 * _ + hk N x y = _
    omega
theorem kk_lt {cu N x y : Nat} (hx : x < 2 ^ N) (hy : y < 2 ^ N) : kk cu N x y < 2 ^ N * 2 ^ N := by
  unfold kk
  split
  · exact wk_lt _ _ _
  · exact hk_lt _ _ _ hx hy
/-- the cell of a key: the reference's way, from the low bits up -/
def hcx (l k : Nat) : Nat × Nat := match l with
  | 0 => (0, 0)
  | l + 1 => match k / (2 ^ l * 2 ^ l) % 4 with
    | 0 => ((hcx l k).2, (hcx l k).1)
    | 1 => ((hcx l k).1, (hcx l k).2 + 2 ^ l)
    | 2 => ((hcx l k).1 + 2 ^ l, (hcx l k).2 + 2 ^ l)
    | _ => (2 * 2 ^ l - 1 - (hcx l k).2, 2 ^ l - 1 - (hcx l k).1)
def wcx (l k : Nat) : Nat × Nat := match l with
  | 0 => (0, 0)
  | l + 1 => ((wcx l k).1 + 2 ^ l * (k / (2 ^ l * 2 ^ l) % 4 % 2), (wcx l k).2 + 2 ^ l * (k / (2 ^ l * 2 ^ l) % 4 / 2))
theorem hcx_lt (l k : Nat) : (hcx l k).1 < 2 ^ l ∧ (hcx l k).2 < 2 ^ l := by
  induction l with
  | zero => exact ⟨by show 0 < 1; omega, by show 0 < 1; omega⟩
  | succ l ih =>
    obtain ⟨h1, h2⟩ := ih
    rw [p2_s]
    unfold hcx
    split <;> dsimp only <;> omega
theorem wcx_lt (l k : Nat) : (wcx l k).1 < 2 ^ l ∧ (wcx l k).2 < 2 ^ l := by
  induction l with
  | zero => exact ⟨by show 0 < 1; omega, by show 0 < 1; omega⟩
  | succ l ih =>
    obtain ⟨h1, h2⟩ := ih
    rw [p2_s]
    have a1 : k / (2 ^ l * 2 ^ l) % 4 % 2 = 0 ∨ k / (2 ^ l * 2 ^ l) % 4 % 2 = 1 := by omega
    have a2 : k / (2 ^ l * 2 ^ l) % 4 / 2 = 0 ∨ k / (2 ^ l * 2 ^ l) % 4 / 2 = 1 := by omega
    unfold wcx
    dsimp only
    rcases a1 with e | e <;> rcases a2 with e' | e' <;> rw [e, e'] <;> omega
