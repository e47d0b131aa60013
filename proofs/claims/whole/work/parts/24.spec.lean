/-! what each call must answer, in numbers; the class's state -/
def wM (cu N : Nat) (F : fQ) (k : Nat) : Bool := inF F.1 F.2.1 F.2.2.1 F.2.2.2 (kc cu N k).1 (kc cu N k).2
def cellsF (F : fQ) : Nat := (F.2.2.1 - F.1 + 1) * (F.2.2.2 - F.2.1 + 1)
def keyS (L : Nat) (cu x y r : Int32) : Prop := (∃ k a b, k < 2 ∧ a < 2 ^ L ∧ b < 2 ^ L ∧ cu = nI k ∧ x = nI a ∧ y = nI b ∧ r = nI (kk k L a b)) ∨ (¬ (cuO cu ∧ inC L x y) ∧ r = -1)
def isK (L : Nat) (x : Int32) : Prop := ∃ j, j < 2 ^ L * 2 ^ L ∧ x = nI j
def cellS (L : Nat) (cu x r : Int32) : Prop := (∃ k j, k < 2 ∧ j < 2 ^ L * 2 ^ L ∧ cu = nI k ∧ x = nI j ∧ r = nI ((kc k L j).1 * 2 ^ L + (kc k L j).2)) ∨ (¬ (cuO cu ∧ isK L x) ∧ r = -1)
def atS (L n : Nat) (C V : Nat → Nat) (x y r : Int32) : Prop := (∃ a b, a < 2 ^ L ∧ b < 2 ^ L ∧ x = nI a ∧ y = nI b ∧ r = nI (wt n C V (a * 2 ^ L + b))) ∨ (¬ inC L x y ∧ r = -1)
def nthQ (L : Nat) (F : fQ) (n : Nat) (C : Nat → Nat) (n' : Nat) (C' : Nat → Nat) (cu i r : Int32) : Prop := (cu = nI 0 ∧ nthS 0 L F n C i r) ∨ (cu = nI 1 ∧ nthS 1 L F n' C' i r) ∨ (¬ cuO cu ∧ r = -1)
def nearQ (L n : Nat) (C : Nat → Nat) (x y r : Int32) : Prop := (∃ a b, a < 2 ^ L ∧ b < 2 ^ L ∧ x = nI a ∧ y = nI b ∧ nearS L a b n C r) ∨ (¬ inC L x y ∧ r = -1)
def runsS (L : Nat) (F : fQ) (cu r : Int32) : Prop := (∃ k, k < 2 ∧ cu = nI k ∧ cellsF F ≤ 4096 ∧ r = nI (rw_k (-1) (wM k L F) (2 ^ L * 2 ^ L)).1) ∨ (¬ (cuO cu ∧ cellsF F ≤ 4096) ∧ r = -1)
def runS (L : Nat) (F : fQ) (cu i wh r : Int32) : Prop := (∃ k j, k < 2 ∧ cu = nI k ∧ j < 2147483648 ∧ i = nI j ∧ cellsF F ≤ 4096 ∧ ((wh = nI 0 ∧ r = oI (rw_k (nI j) (wM k L F) (2 ^ L * 2 ^ L)).2.2.1) ∨ (wh = nI 1 ∧ r = oI (rw_k (nI j) (wM k L F) (2 ^ L * 2 ^ L)).2.2.2))) ∨ (¬ (cuO cu ∧ cellsF F ≤ 4096 ∧ ¬ i < 0 ∧ (wh = nI 0 ∨ wh = nI 1)) ∧ r = -1)
def putO (L n : Nat) (C V : Nat → Nat) (x y w : Int32) : Prop := ∃ a b k, a < 2 ^ L ∧ b < 2 ^ L ∧ 1 ≤ k ∧ k ≤ 999 ∧ x = nI a ∧ y = nI b ∧ w = nI k ∧ (wt n C V (a * 2 ^ L + b) ≠ 0 ∨ n < 500)
def begO (n : Int32) : Prop := ∃ j, 1 ≤ j ∧ j ≤ 15 ∧ n = nI j
def winO (L : Nat) (x0 y0 x1 y1 : Int32) : Prop := ∃ a b a' b', a ≤ a' ∧ a' < 2 ^ L ∧ b ≤ b' ∧ b' < 2 ^ L ∧ x0 = nI a ∧ y0 = nI b ∧ x1 = nI a' ∧ y1 = nI b'
/-- the class's state: the level, the weave's row, the turn's row, the window -/
abbrev cS : Type := Nat × rS × rS × fQ
def okF (L : Nat) (F : fQ) : Prop := F.1 ≤ F.2.2.1 ∧ F.2.2.1 < 2 ^ L ∧ F.2.1 ≤ F.2.2.2 ∧ F.2.2.2 < 2 ^ L
def bdr (r : rS) : Prop := bd r.2.1 ∧ bd r.2.2.1 ∧ bd r.2.2.2
def okC (u : cS) : Prop := (1 ≤ u.1 ∧ u.1 ≤ 15) ∧ okr 0 u.1 u.2.1.1 u.2.1.2.1 u.2.1.2.2.1 u.2.1.2.2.2 ∧ okr 1 u.1 u.2.2.1.1 u.2.2.1.2.1 u.2.2.1.2.2.1 u.2.2.1.2.2.2 ∧ bdr u.2.1 ∧ bdr u.2.2.1 ∧ okF u.1 u.2.2.2 ∧ same u.2.1.1 u.2.1.2.2.1 u.2.1.2.2.2 u.2.2.1.1 u.2.2.1.2.2.1 u.2.2.1.2.2.2
theorem okF.b {L : Nat} {F : fQ} (h : okF L F) (hL : L ≤ 15) : F.1 < 32768 ∧ F.2.1 < 32768 ∧ F.2.2.1 < 32768 ∧ F.2.2.2 < 32768 := by
  have := p2_15 hL
  obtain ⟨a, b, c, d⟩ := h
  omega
theorem ke_31 {cu L c : Nat} (hL : L ≤ 15) (hc : c < 2 ^ L * 2 ^ L) : ke cu L c < 2147483648 := by
  have := ke_lt (cu := cu) hc
  have := p4_15 hL
  omega
theorem ins_1 {N : Nat} {F : fQ} {q : Nat} {C : Nat → Nat} (h : inc N F (C q) = true) : ins N F (q + 1) C = ins N F q C + 1 := by
  unfold ins
  rw [sg_s, if_pos h]
theorem ins_0 {N : Nat} {F : fQ} {q : Nat} {C : Nat → Nat} (h : inc N F (C q) = false) : ins N F (q + 1) C = ins N F q C := by
  unfold ins
  rw [sg_s, h, if_neg (by decide)]
  rfl
theorem sum_1 {N : Nat} {F : fQ} {q : Nat} {C V : Nat → Nat} (h : inc N F (C q) = true) : sum N F (q + 1) C V = sum N F q C V + V q := by
  unfold sum
  rw [sg_s, if_pos h]
theorem sum_0 {N : Nat} {F : fQ} {q : Nat} {C V : Nat → Nat} (h : inc N F (C q) = false) : sum N F (q + 1) C V = sum N F q C V := by
  unfold sum
  rw [sg_s, h, if_neg (by decide)]
  rfl
theorem ins_le {N : Nat} {F : fQ} {q : Nat} {C : Nat → Nat} : ins N F q C ≤ q := by
  have := sg_le (n := q) (f := fun i => if inc N F (C i) = true then 1 else 0) (g := fun _ => 1) (fun i _ => by (try dsimp only); split <;> omega)
  rwa [sg_one] at this
theorem rw_k_le (w : Int32) (M : Nat → Bool) (k : Nat) : (rw_k w M k).1 ≤ k ∧ (rw_k w M k).2.1 ≤ k := by
  induction k with
  | zero => exact ⟨Nat.le_refl _, Nat.le_refl _⟩
  | succ k ih =>
    show (if M k then rw_j w k (k + 1) (rw_k w M k) else rw_k w M k).1 ≤ k + 1 ∧ (if M k then rw_j w k (k + 1) (rw_k w M k) else rw_k w M k).2.1 ≤ k + 1
    split
    · unfold rw_j
      split
      · exact ⟨by show (rw_k w M k).1 + 1 ≤ k + 1; omega, Nat.le_refl _⟩
      · exact ⟨by show (rw_k w M k).1 ≤ k + 1; omega, Nat.le_refl _⟩
    · omega
theorem nI_m1 {a : Nat} (h : a < 2147483648) : nI a ≠ -1 := by
  intro e
  have : (nI a).toInt = -1 := by rw [e]; rfl
  rw [nI_toInt h] at this
  omega
theorem ng_lt {x : Int32} {b : Nat} (h : x < 0) (hb : b < 2147483648) : x < nI b := by
  rw [Int32.lt_iff_toInt_lt] at h ⊢
  rw [nI_toInt hb]
  have : (0 : Int32).toInt = 0 := rfl
  omega
theorem ng_le {x : Int32} {b : Nat} (h : x < 0) (hb : b < 2147483648) : x ≤ nI b := by
  rw [Int32.le_iff_toInt_le]
  rw [Int32.lt_iff_toInt_lt] at h
  rw [nI_toInt hb]
  have : (0 : Int32).toInt = 0 := rfl
  omega
theorem cuO_01 {x : Int32} (h : cuO x) : x = nI 0 ∨ x = nI 1 := by
  obtain ⟨k, hk, rfl⟩ := h
  have e : k = 0 ∨ k = 1 := by omega
  rcases e with rfl | rfl
  · exact Or.inl rfl
  · exact Or.inr rfl
theorem cuO_0 : cuO (nI 0) := ⟨0, by omega, rfl⟩
theorem cuO_1 : cuO (nI 1) := ⟨1, by omega, rfl⟩
theorem dq_lt {N x y c : Nat} (hN : N ≤ 15) (hx : x < 2 ^ N) (hy : y < 2 ^ N) (hc : c < 2 ^ N * 2 ^ N) : dq N x y c < 2 ^ 40 := by
  obtain ⟨a, b⟩ := cl_of hc
  have := p2_15 hN
  have h1 := sqd_lt (a := x) (b := c / 2 ^ N) (by omega) (by omega)
  have h2 := sqd_lt (a := y) (b := c % 2 ^ N) (by omega) (by omega)
  unfold dq
  omega
/-- the least so far, in the order of the turn's keys -/
def nrI (L a b : Nat) (C : Nat → Nat) (q : Nat) (bb : Int32) (dd : Int64) : Prop :=
  (q = 0 ∧ bb = -1) ∨ ∃ j, j < q ∧ bb = nI (C j) ∧ dd = lN (dq L a b (C j)) ∧ ∀ k, k < q → dq L a b (C j) < dq L a b (C k) ∨ (dq L a b (C j) = dq L a b (C k) ∧ j ≤ k)
theorem nrI_new {L a b : Nat} {C : Nat → Nat} {q : Nat} {bb : Int32} {dd : Int64} (h : nrI L a b C q bb dd) (hb : ∀ j, j < q → C j < 2147483648) (he : bb = -1) : nrI L a b C (q + 1) (nI (C q)) (lN (dq L a b (C q))) := by
  rcases h with ⟨rfl, -⟩ | ⟨j, h1, h2, -⟩
  · exact Or.inr ⟨0, by omega, rfl, rfl, fun k hk => by obtain rfl : k = 0 := (by omega); exact Or.inr ⟨rfl, Nat.le_refl _⟩⟩
  · exact absurd (h2.symm.trans he) (nI_m1 (hb j h1))
theorem nrI_lt {L a b : Nat} {C : Nat → Nat} {q : Nat} {bb : Int32} {dd : Int64} (h : nrI L a b C q bb dd) (hd : ∀ j, j ≤ q → dq L a b (C j) < 2 ^ 40) (hne : ¬ bb = -1) (hlt : lN (dq L a b (C q)) < dd) : nrI L a b C (q + 1) (nI (C q)) (lN (dq L a b (C q))) := by
  rcases h with ⟨rfl, e⟩ | ⟨j, h1, h2, h3, h4⟩
  · exact absurd e hne
  · rw [h3, pk_lLT (by have := hd q (by omega); omega) (by have := hd j (by omega); omega)] at hlt
    refine Or.inr ⟨q, by omega, rfl, rfl, fun k hk => ?_⟩
    rcases Nat.lt_or_ge k q with g | g
    · rcases h4 k g with z | z <;> exact Or.inl (by omega)
    · obtain rfl : k = q := (by omega)
      exact Or.inr ⟨rfl, Nat.le_refl _⟩
theorem nrI_ge {L a b : Nat} {C : Nat → Nat} {q : Nat} {bb : Int32} {dd : Int64} (h : nrI L a b C q bb dd) (hd : ∀ j, j ≤ q → dq L a b (C j) < 2 ^ 40) (hne : ¬ bb = -1) (hge : dd ≤ lN (dq L a b (C q))) : nrI L a b C (q + 1) bb dd := by
  rcases h with ⟨rfl, e⟩ | ⟨j, h1, h2, h3, h4⟩
  · exact absurd e hne
  · rw [h3, pk_lLE (by have := hd j (by omega); omega) (by have := hd q (by omega); omega)] at hge
    refine Or.inr ⟨j, by omega, h2, h3, fun k hk => ?_⟩
    rcases Nat.lt_or_ge k q with g | g
    · exact h4 k g
    · obtain rfl : k = q := (by omega)
      rcases Nat.lt_or_ge (dq L a b (C j)) (dq L a b (C k)) with z | z
      · exact Or.inl z
      · exact Or.inr ⟨by omega, by omega⟩
theorem nrI_end {L a b n : Nat} {K C V : Nat → Nat} {bb : Int32} {dd : Int64} (hr : okr 1 L n K C V) (h : nrI L a b C n bb dd) : nearS L a b n C bb := by
  rcases h with ⟨rfl, e⟩ | ⟨j, h1, h2, h3, h4⟩
  · exact Or.inl ⟨rfl, e⟩
  · refine Or.inr ⟨j, h1, h2, fun k hk => ?_⟩
    rcases h4 k hk with z | ⟨z1, z2⟩
    · exact Or.inl z
    · refine Or.inr ⟨z1, ?_⟩
      rcases Nat.lt_or_ge j k with g | g
      · have := hr.2.2 j k g hk
        rw [(hr.2.1 j h1).2.1, (hr.2.1 k hk).2.1] at this
        omega
      · obtain rfl : j = k := (by omega)
        exact Nat.le_refl _
theorem lg_lt_of {x y : Int64} (h : ¬ 0 ≤ lg_cmp x y) : x < y := by
  rw [lg_cmp_ge] at h
  rcases lg_tri x y with g | g | g
  · exact g
  · exact absurd (by rw [g]; exact Int64.le_refl _) h
  · exact absurd (Int64.le_iff_toInt_le.mpr (by rw [Int64.lt_iff_toInt_lt] at g; omega)) h
