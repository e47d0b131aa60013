/-! the reference's state, and numbers of its loops -/
abbrev mS : Type := Nat × (Nat × (Nat → Nat) × (Nat → Nat)) × fQ × (Nat → Nat) × (Nat → Nat)
def okMo (u : mS) : Prop := (1 ≤ u.1 ∧ u.1 ≤ 15) ∧ okm u.1 u.2.1.1 u.2.1.2.1 u.2.1.2.2 ∧ (bd u.2.1.2.1 ∧ bd u.2.1.2.2) ∧ okF u.1 u.2.2.1 ∧ bd u.2.2.2.1 ∧ bd u.2.2.2.2
theorem wk_step (l k x y : Nat) : (4 * k + x / 2 ^ l % 2 + 2 * (y / 2 ^ l % 2)) * (2 ^ l * 2 ^ l) + wk l x y = k * (2 ^ (l + 1) * 2 ^ (l + 1)) + wk (l + 1) x y := by
  show _ = k * (2 ^ (l + 1) * 2 ^ (l + 1)) + ((x / 2 ^ l % 2 + 2 * (y / 2 ^ l % 2)) * (2 ^ l * 2 ^ l) + wk l x y)
  rw [p4_s, Nat.add_assoc (4 * k), Nat.add_mul, Nat.mul_comm 4 k, Nat.mul_assoc, Nat.add_assoc]
theorem half_s (l : Nat) : 2 ^ (l + 1) / 2 = 2 ^ l := by
  rw [p2_s]
  omega
theorem in_dm {L : Nat} {F : fQ} {c : Nat} : inc L F c = inF F.1 F.2.1 F.2.2.1 F.2.2.2 (c / 2 ^ L) (c % 2 ^ L) := rfl
section XL
variable {p : Program} {la : Launch} {e : Env} {R : Room} {s : State} {m : MethodId} {args : Array Value} {below : List Frame} {meth : Method} {c : Code} {H : Heap} {locs : List Loc} {cells slots : Nat} {Q : State → Prop}
variable {cc : ByteArray} {pc : Nat} {ls : Array Slot} {rest : List Value}
theorem x_if_le (hx : p.tables.exec = Jvm.exec) (hb : c.code = cc) {a : Nat} {off : Int} {tgt : Nat} (hdg : decode cc pc = .ok (.ifCond .le off, 3)) (ht : (pc : Int) + off = (tgt : Int)) (h1 : a < 2147483648) (kt : a = 0 → W p la e R s m args below meth c H locs cells slots Q (F0 m tgt ls rest)) (kf : a ≠ 0 → W p la e R s m args below meth c H locs cells slots Q (F0 m (pc + 3) ls rest)) : W p la e R s m args below meth c H locs cells slots Q (F0 m pc ls (.int (nI a) :: rest)) := lv_if_le hx hb hdg ht (fun h => kt (by
  rw [← nI_0, nI_leI h1 (by omega)] at h
  omega)) (fun h => kf (fun q => h (by rw [q, nI_0]; exact Int32.le_refl _)))
end XL
/-- the least so far, by distance and key -/
def nrM (L a b : Nat) (C : Nat → Nat) (q : Nat) (bb : Int32) (dd : Int64) : Prop :=
  (q = 0 ∧ bb = -1) ∨ ∃ j, j < q ∧ bb = nI j ∧ dd = lN (dq L a b (C j)) ∧ ∀ k, k < q → dq L a b (C j) < dq L a b (C k) ∨ (dq L a b (C j) = dq L a b (C k) ∧ ke 1 L (C j) ≤ ke 1 L (C k))
theorem nrM_new {L a b : Nat} {C : Nat → Nat} {q : Nat} {dd : Int64} {bb : Int32} (h : nrM L a b C q bb dd) (hq : q < 2147483648) (hn : bb < 0) : nrM L a b C (q + 1) (nI q) (lN (dq L a b (C q))) := by
  rcases h with ⟨rfl, -⟩ | ⟨j, h1, rfl, -⟩
  · exact Or.inr ⟨0, by omega, rfl, rfl, fun k hk => by obtain rfl : k = 0 := (by omega); exact Or.inr ⟨rfl, Nat.le_refl _⟩⟩
  · exact absurd hn (nI_pos (by omega))
theorem nrM_neg {L a b : Nat} {C : Nat → Nat} {q : Nat} {dd : Int64} {bb : Int32} (h : nrM L a b C q bb dd) : bb < 0 ∨ ∃ j, j < q ∧ bb = nI j ∧ dd = lN (dq L a b (C j)) := by
  rcases h with ⟨-, rfl⟩ | ⟨j, h1, rfl, h3, -⟩
  · exact Or.inl (by decide)
  · exact Or.inr ⟨j, h1, rfl, h3⟩
theorem nrM_at {L a b : Nat} {C : Nat → Nat} {q j : Nat} {dd : Int64} (h : nrM L a b C q (nI j) dd) (hj : j < q) (hq : q < 2147483648) : dd = lN (dq L a b (C j)) ∧ ∀ k, k < q → dq L a b (C j) < dq L a b (C k) ∨ (dq L a b (C j) = dq L a b (C k) ∧ ke 1 L (C j) ≤ ke 1 L (C k)) := by
  rcases h with ⟨rfl, e⟩ | ⟨i, h1, h2, h3, h4⟩
  · omega
  · rw [nI_eq (by omega) (by omega)] at h2
    subst h2
    exact ⟨h3, h4⟩
theorem nrM_take {L a b : Nat} {C : Nat → Nat} {q j : Nat} (h : ∀ k, k < q → dq L a b (C j) < dq L a b (C k) ∨ (dq L a b (C j) = dq L a b (C k) ∧ ke 1 L (C j) ≤ ke 1 L (C k))) (hl : dq L a b (C q) < dq L a b (C j) ∨ (dq L a b (C q) = dq L a b (C j) ∧ ke 1 L (C q) < ke 1 L (C j))) : nrM L a b C (q + 1) (nI q) (lN (dq L a b (C q))) := by
  refine Or.inr ⟨q, by omega, rfl, rfl, fun k hk => ?_⟩
  rcases Nat.lt_or_ge k q with g | g
  · have := h k g
    omega
  · obtain rfl : k = q := (by omega)
    exact Or.inr ⟨rfl, Nat.le_refl _⟩
theorem nrM_stay {L a b : Nat} {C : Nat → Nat} {q j : Nat} (hj : j < q) (h : ∀ k, k < q → dq L a b (C j) < dq L a b (C k) ∨ (dq L a b (C j) = dq L a b (C k) ∧ ke 1 L (C j) ≤ ke 1 L (C k))) (hl : dq L a b (C j) < dq L a b (C q) ∨ (dq L a b (C j) = dq L a b (C q) ∧ ke 1 L (C j) ≤ ke 1 L (C q))) : nrM L a b C (q + 1) (nI j) (lN (dq L a b (C j))) := by
  refine Or.inr ⟨j, by omega, rfl, rfl, fun k hk => ?_⟩
  rcases Nat.lt_or_ge k q with g | g
  · exact h k g
  · obtain rfl : k = q := (by omega)
    exact hl
theorem sqd_l' {a b : Nat} (ha : a < 65536) (hb : b < 65536) : (nI a - nI b).toInt64 * (nI a - nI b).toInt64 = lN (sqd b a) := by
  rw [sqd_l ha hb, sqd_sy]
theorem nrM_none {L a b n : Nat} {C : Nat → Nat} {bb : Int32} {dd : Int64} (h : nrM L a b C n bb dd) (hn : n < 2147483648) (hneg : bb < 0) : nearS L a b n C (-1) := by
  rcases h with ⟨rfl, -⟩ | ⟨j, h1, rfl, -⟩
  · exact Or.inl ⟨rfl, rfl⟩
  · exact absurd hneg (nI_pos (by omega))
theorem nthQ_k {L : Nat} {F : fQ} {n : Nat} {C : Nat → Nat} {k : Nat} {i r : Int32} (hk : k < 2) (h : nthS k L F n C i r) : nthQ L F n C n C (nI k) i r := by
  have e : k = 0 ∨ k = 1 := by omega
  rcases e with rfl | rfl
  · exact Or.inl ⟨rfl, h⟩
  · exact Or.inr (Or.inl ⟨rfl, h⟩)
theorem nth_neg {L : Nat} {F : fQ} {n : Nat} {C : Nat → Nat} {cu i : Int32} (hc : cuO cu) (hn : n ≤ 500) (hi : i < 0) : nthQ L F n C n C cu i (-1) := by
  obtain ⟨k, hk, rfl⟩ := hc
  refine nthQ_k hk (Or.inr ⟨fun j hj hin e => ?_, rfl⟩)
  rw [← e] at hi
  exact nI_pos (by have := rk_le (cu := k) (N := L) (F := F) (n := n) (C := C) (k := ke k L (C j)); omega) hi
section XL2
variable {p : Program} {la : Launch} {e : Env} {R : Room} {s : State} {m : MethodId} {args : Array Value} {below : List Frame} {meth : Method} {c : Code} {H : Heap} {locs : List Loc} {cells slots : Nat} {Q : State → Prop}
variable {cc : ByteArray} {pc : Nat} {ls : Array Slot} {rest : List Value}
theorem x_reL {x y : Int64} (h : x = y) (k : W p la e R s m args below meth c H locs cells slots Q (F0 m pc ls (.long y :: rest))) : W p la e R s m args below meth c H locs cells slots Q (F0 m pc ls (.long x :: rest)) := h ▸ k
end XL2
def hkf (l a b : Nat) : Nat := hk l a b
theorem hkf_00 {l a b : Nat} (h1 : a < 2 ^ l) (h2 : b < 2 ^ l) : hkf (l + 1) a b = hkf l b a := hk_00 h1 h2
theorem hkf_01 {l a b : Nat} (h1 : a < 2 ^ l) (h2 : 2 ^ l ≤ b) : hkf (l + 1) a b = 2 ^ l * 2 ^ l + hkf l a (b - 2 ^ l) := hk_01 h1 h2
theorem hkf_11 {l a b : Nat} (h1 : 2 ^ l ≤ a) (h2 : 2 ^ l ≤ b) : hkf (l + 1) a b = 2 * (2 ^ l * 2 ^ l) + hkf l (a - 2 ^ l) (b - 2 ^ l) := hk_11 h1 h2
theorem hkf_10 {l a b : Nat} (h1 : 2 ^ l ≤ a) (h2 : b < 2 ^ l) : hkf (l + 1) a b = 3 * (2 ^ l * 2 ^ l) + hkf l (2 ^ l - 1 - b) (2 * 2 ^ l - 1 - a) := hk_10 h1 h2
theorem rk_s1 {cu N : Nat} {F : fQ} {t k : Nat} {C : Nat → Nat} (h : inc N F (C t) = true) (h2 : ke cu N (C t) < k) : rk cu N F (t + 1) C k = rk cu N F t C k + 1 := by
  unfold rk
  rw [sg_s, if_pos ⟨h, h2⟩]
theorem rk_s0 {cu N : Nat} {F : fQ} {t k : Nat} {C : Nat → Nat} (h : ¬ (inc N F (C t) = true ∧ ke cu N (C t) < k)) : rk cu N F (t + 1) C k = rk cu N F t C k := by
  unfold rk
  rw [sg_s, if_neg h]
  rfl
theorem rk_s0a {cu N : Nat} {F : fQ} {t k : Nat} {C : Nat → Nat} (h : k ≤ ke cu N (C t)) : rk cu N F (t + 1) C k = rk cu N F t C k := rk_s0 (fun z => absurd z.2 (by omega))
theorem rk_s0b {cu N : Nat} {F : fQ} {t k : Nat} {C : Nat → Nat} (h : inc N F (C t) = false) : rk cu N F (t + 1) C k = rk cu N F t C k := rk_s0 (fun z => absurd (z.1.symm.trans h) (by decide))
