/-! sums over the first n numbers; two rows that hold the same points -/
def sg (n : Nat) (f : Nat → Nat) : Nat := match n with
  | 0 => 0
  | n + 1 => sg n f + f n
theorem sg_0 (f : Nat → Nat) : sg 0 f = 0 := rfl
theorem sg_s (n : Nat) (f : Nat → Nat) : sg (n + 1) f = sg n f + f n := rfl
theorem sg_congr {n : Nat} {f g : Nat → Nat} (h : ∀ i, i < n → f i = g i) : sg n f = sg n g := by
  induction n with
  | zero => rfl
  | succ n ih => rw [sg_s, sg_s, ih (fun i hi => h i (by omega)), h n (by omega)]
theorem sg_zero {n : Nat} {f : Nat → Nat} (h : ∀ i, i < n → f i = 0) : sg n f = 0 := by
  induction n with
  | zero => rfl
  | succ n ih => rw [sg_s, ih (fun i hi => h i (by omega)), h n (by omega)]
theorem sg_one (n : Nat) : sg n (fun _ => 1) = n := by
  induction n with
  | zero => rfl
  | succ n ih => rw [sg_s, ih]
theorem sg_add (n : Nat) (f g : Nat → Nat) : sg n (fun i => f i + g i) = sg n f + sg n g := by
  induction n with
  | zero => rfl
  | succ n ih => rw [sg_s, sg_s, sg_s, ih]; omega
theorem sg_le {n : Nat} {f g : Nat → Nat} (h : ∀ i, i < n → f i ≤ g i) : sg n f ≤ sg n g := by
  induction n with
  | zero => exact Nat.le_refl _
  | succ n ih =>
    have h1 := ih (fun i hi => h i (by omega))
    have h2 := h n (by omega)
    rw [sg_s, sg_s]
    omega
theorem sg_get {n : Nat} {f : Nat → Nat} {i : Nat} (hi : i < n) : f i ≤ sg n f := by
  induction n with
  | zero => omega
  | succ n ih =>
    rw [sg_s]
    by_cases h : i = n
    · subst h; omega
    · have := ih (by omega); omega
theorem sg_lt {n : Nat} {f g : Nat → Nat} (h : ∀ i, i < n → f i ≤ g i) {j : Nat} (hj : j < n) (hlt : f j < g j) : sg n f < sg n g := by
  induction n with
  | zero => omega
  | succ n ih =>
    rw [sg_s, sg_s]
    have h2 := h n (by omega)
    by_cases e : j = n
    · subst e
      have := sg_le (n := j) (f := f) (g := g) (fun i hi => h i (by omega))
      omega
    · have := ih (fun i hi => h i (by omega)) (by omega)
      omega
theorem sg_ex {n : Nat} {f : Nat → Nat} (h : sg n f ≠ 0) : ∃ i, i < n ∧ f i ≠ 0 := by
  induction n with
  | zero => exact absurd rfl h
  | succ n ih =>
    rw [sg_s] at h
    by_cases e : f n = 0
    · obtain ⟨i, h1, h2⟩ := ih (by omega)
      exact ⟨i, by omega, h2⟩
    · exact ⟨n, by omega, e⟩
/-- only one of them counts -/
theorem sg_only {n : Nat} {f : Nat → Nat} {i : Nat} (hi : i < n) (h : ∀ j, j < n → j ≠ i → f j = 0) : sg n f = f i := by
  induction n with
  | zero => omega
  | succ n ih =>
    rw [sg_s]
    by_cases e : i = n
    · subst e
      rw [sg_zero (fun j hj => h j (by omega) (by omega))]
      omega
    · rw [ih (by omega) (fun j hj hne => h j (by omega) hne), h n (by omega) (by omega)]
      omega
theorem sg_split (a b : Nat) (f : Nat → Nat) : sg (a + b) f = sg a f + sg b (fun i => f (a + i)) := by
  induction b with
  | zero => rfl
  | succ b ih => rw [← Nat.add_assoc, sg_s, sg_s, ih]; omega
/-- one is put in at a place -/
theorem sg_ins {n p : Nat} {f g : Nat → Nat} (hp : p ≤ n) (h1 : ∀ i, i < p → g i = f i) (h2 : ∀ i, p ≤ i → i < n → g (i + 1) = f i) : sg (n + 1) g = sg n f + g p := by
  have e : n + 1 = p + (1 + (n - p)) := by omega
  have e2 : n = p + (n - p) := by omega
  rw [e, sg_split, sg_split]
  conv => rhs; rw [e2, sg_split]
  have a1 : sg p g = sg p f := sg_congr h1
  have a2 : sg (n - p) (fun i => g (p + (1 + i))) = sg (n - p) (fun i => f (p + i)) := sg_congr (fun i hi => by
    have := h2 (p + i) (by omega) (by omega)
    rw [← this]
    congr 1
    omega)
  have a3 : sg 1 (fun i => g (p + i)) = g p := by
    show 0 + g (p + 0) = g p
    simp
  rw [a1, a2, a3]
  omega
/-- one changes -/
theorem sg_put {n p : Nat} {f g : Nat → Nat} (hp : p < n) (h : ∀ i, i < n → i ≠ p → g i = f i) : sg n g + f p = sg n f + g p := by
  induction n with
  | zero => omega
  | succ n ih =>
    rw [sg_s, sg_s]
    by_cases e : p = n
    · subst e
      rw [sg_congr (f := g) (g := f) (fun i hi => h i (by omega) (by omega))]
      omega
    · have := ih (by omega) (fun i hi hne => h i (by omega) hne)
      have := h n (by omega) (by omega)
      omega
theorem sg_if_split (n : Nat) (f : Nat → Nat) (P : Nat → Prop) [DecidablePred P] : sg n f = sg n (fun i => if P i then f i else 0) + sg n (fun i => if P i then 0 else f i) := by
  rw [← sg_add]
  refine sg_congr (fun i _ => ?_)
  by_cases h : P i <;> simp [h]
/-- two rows of points, cells and weights, hold the same: every sum over one is that over the other -/
def same (n : Nat) (C V : Nat → Nat) (n' : Nat) (C' V' : Nat → Nat) : Prop := ∀ f : Nat → Nat → Nat, sg n (fun i => f (C i) (V i)) = sg n' (fun i => f (C' i) (V' i))
theorem same.rf {n : Nat} {C V : Nat → Nat} : same n C V n C V := fun _ => rfl
theorem same.sy {n : Nat} {C V : Nat → Nat} {n' : Nat} {C' V' : Nat → Nat} (h : same n C V n' C' V') : same n' C' V' n C V := fun f => (h f).symm
theorem same.tr {n : Nat} {C V : Nat → Nat} {n' : Nat} {C' V' : Nat → Nat} {n2 : Nat} {C2 V2 : Nat → Nat} (h : same n C V n' C' V') (h2 : same n' C' V' n2 C2 V2) : same n C V n2 C2 V2 := fun f => (h f).trans (h2 f)
theorem same.many {n : Nat} {C V : Nat → Nat} {n' : Nat} {C' V' : Nat → Nat} (h : same n C V n' C' V') : n = n' := by
  have := h (fun _ _ => 1)
  rwa [sg_one, sg_one] at this
/-- a property of all points goes over -/
theorem same.all {n : Nat} {C V : Nat → Nat} {n' : Nat} {C' V' : Nat → Nat} (h : same n C V n' C' V') {P : Nat → Nat → Prop} (hP : ∀ i, i < n → P (C i) (V i)) : ∀ i, i < n' → P (C' i) (V' i) := by
  intro i hi
  apply Classical.byContradiction
  intro hn
  have hd : ∀ a b, Decidable (P a b) := fun a b => Classical.propDecidable _
  have e := h (fun a b => if P a b then 0 else 1)
  rw [sg_zero (fun j hj => by simp [hP j hj])] at e
  have := sg_get (f := fun j => if P (C' j) (V' j) then 0 else 1) hi
  rw [← e] at this
  simp [hn] at this
theorem same.ex {n : Nat} {C V : Nat → Nat} {n' : Nat} {C' V' : Nat → Nat} (h : same n C V n' C' V') {i : Nat} (hi : i < n) : ∃ j, j < n' ∧ C' j = C i ∧ V' j = V i := by
  apply Classical.byContradiction
  intro hn
  refine absurd rfl (same.all h.sy (P := fun a b => ¬ (a = C i ∧ b = V i)) (fun j hj q => hn ⟨j, hj, q⟩) i hi ∘ fun (_ : (0:Nat) = 0) => ⟨rfl, rfl⟩)
/-- the weight at a cell; 0 where there is none -/
def wt (n : Nat) (C V : Nat → Nat) (c : Nat) : Nat := sg n (fun i => if C i = c then V i else 0)
def inj (n : Nat) (C : Nat → Nat) : Prop := ∀ i j, i < n → j < n → C i = C j → i = j
theorem same.wt {n : Nat} {C V : Nat → Nat} {n' : Nat} {C' V' : Nat → Nat} (h : same n C V n' C' V') (c : Nat) : wt n C V c = wt n' C' V' c := h (fun a b => if a = c then b else 0)
theorem wt_at {n : Nat} {C V : Nat → Nat} {c i : Nat} (hj : inj n C) (hi : i < n) (hc : C i = c) : wt n C V c = V i := by
  have := sg_only (f := fun j => if C j = c then V j else 0) hi (fun j h1 h2 => by
    rw [if_neg]
    intro q
    exact h2 (hj j i h1 hi (q.trans hc.symm)))
  rw [if_pos hc] at this
  exact this
theorem wt_none {n : Nat} {C V : Nat → Nat} {c : Nat} (h : ∀ i, i < n → C i ≠ c) : wt n C V c = 0 := sg_zero (fun i hi => by rw [if_neg (h i hi)])
theorem up_ne {f : Nat → Nat} {k j v : Nat} (h : j ≠ k) : va_up f k v j = f j := va_up_ne f v h
