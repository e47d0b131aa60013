/-! squares of the grid: missed, held, cut into quarters -/
theorem cs_add (st l q r : Nat) : cs st l (q * (2 ^ l * 2 ^ l) + r) = cs st l r := by
  unfold cs
  rw [wcx_add, hcx_add]
theorem p22 (l : Nat) : 2 ^ (2 * l) = 2 ^ l * 2 ^ l := by rw [Nat.two_mul, Nat.pow_add]
theorem oI_pr {b : Nat} (h : 0 < b) : nI (b - 1) = oI b := by
  cases b with
  | zero => omega
  | succ b => rfl
def sqM (M : Nat → Bool) (F : fQ) (st l x y k : Nat) : Prop := ∀ r, r < 2 ^ l * 2 ^ l → M (k + r) = inF F.1 F.2.1 F.2.2.1 F.2.2.2 (x + (cs st l r).1) (y + (cs st l r).2)
theorem sqM_miss {M : Nat → Bool} {F : fQ} {st l x y k : Nat} (h : sqM M F st l x y k) (hm : F.2.2.1 < x ∨ x + 2 ^ l ≤ F.1 ∨ F.2.2.2 < y ∨ y + 2 ^ l ≤ F.2.1) (w : Int32) : rw_k w M (k + 2 ^ l * 2 ^ l) = rw_k w M k := by
  refine rw_k_no _ (fun j h1 h2 => ?_)
  obtain ⟨r, rfl⟩ : ∃ r, j = k + r := ⟨j - k, by omega⟩
  rw [h r (by omega)]
  obtain ⟨a1, a2⟩ := cs_lt (st := st) (l := l) (k := r)
  unfold inF
  rw [decide_eq_false_iff_not]
  omega
theorem sqM_hold {M : Nat → Bool} {F : fQ} {st l x y k : Nat} (h : sqM M F st l x y k) (h1 : inF F.1 F.2.1 F.2.2.1 F.2.2.2 x y = true) (h2 : inF F.1 F.2.1 F.2.2.1 F.2.2.2 (x + 2 ^ l - 1) (y + 2 ^ l - 1) = true) (w : Int32) : rw_k w M (k + 2 ^ l * 2 ^ l) = rw_j w k (k + 2 ^ l * 2 ^ l) (rw_k w M k) := by
  have hp := p4_pos l
  obtain ⟨n, hn⟩ : ∃ n, 2 ^ l * 2 ^ l = n + 1 := ⟨2 ^ l * 2 ^ l - 1, by omega⟩
  rw [hn]
  refine rw_k_all n (fun j g1 g2 => ?_)
  obtain ⟨r, rfl⟩ : ∃ r, j = k + r := ⟨j - k, by omega⟩
  rw [h r (by omega)]
  obtain ⟨a1, a2⟩ := cs_lt (st := st) (l := l) (k := r)
  unfold inF at h1 h2 ⊢
  rw [decide_eq_true_eq] at h1 h2 ⊢
  omega
/-- one cell is held or missed -/
theorem sq_one {F : fQ} {x y : Nat} (hm : ¬ (F.2.2.1 < x ∨ x + 2 ^ 0 ≤ F.1 ∨ F.2.2.2 < y ∨ y + 2 ^ 0 ≤ F.2.1)) : inF F.1 F.2.1 F.2.2.1 F.2.2.2 x y = true ∧ inF F.1 F.2.1 F.2.2.1 F.2.2.2 (x + 2 ^ 0 - 1) (y + 2 ^ 0 - 1) = true := by
  unfold inF
  rw [decide_eq_true_eq, decide_eq_true_eq]
  omega
theorem sqM_step {M : Nat → Bool} {F : fQ} {st l x y k q : Nat} (hst : st < 5) (hq : q < 4) (h : sqM M F st (l + 1) x y k) : sqM M F (tSS (4 * st + q)) l (x + tQS (4 * st + q) / 2 ^ 1 * 2 ^ l) (y + tQS (4 * st + q) % 2 * 2 ^ l) (k + q * 2 ^ (2 * l)) := by
  intro r hr
  have hb : q * (2 ^ l * 2 ^ l) + r < 2 ^ (l + 1) * 2 ^ (l + 1) := by
    rw [p4_s]
    have : q * (2 ^ l * 2 ^ l) ≤ 3 * (2 ^ l * 2 ^ l) := Nat.mul_le_mul_right _ (by omega)
    omega
  have e := h _ hb
  rw [cs_step hst, dg_of hq hr, cs_add] at e
  rw [p22, Nat.add_assoc, e]
  (try dsimp only)
  rw [Nat.pow_one, Nat.mul_comm (2 ^ l) (tQS (4 * st + q) / 2), Nat.mul_comm (2 ^ l) (tQS (4 * st + q) % 2), Nat.add_assoc, Nat.add_assoc]
theorem sqM_top {F : fQ} {cu N : Nat} (hcu : cu < 2) : sqM (fun k => inF F.1 F.2.1 F.2.2.1 F.2.2.2 (kc cu N k).1 (kc cu N k).2) F (st0 cu) N 0 0 0 := by
  intro r _
  rw [cs_kc hcu, Nat.zero_add, Nat.zero_add, Nat.zero_add]
