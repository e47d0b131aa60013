section
-- ===== PART A: goes FIRST, ahead of the names: the tables' words, and 'selects' of the private methods out of them =====
/-- a private method of a class that the tables say can be made, by its rows of tables_1 -/
def lw_okq (q : MethodName × Nat) : Prop := (q.1.cls ≠ "java/lang/invoke/MethodHandle" ∧ q.1.cls ≠ "java/lang/invoke/VarHandle") ∧ Cond.instantiable q.1.cls q.2 ∈ tables_1 ∧ Cond.privateMethod q.1 ∈ tables_1 ∧ Cond.instanceMethod q.1 ∈ tables_1
theorem lw_p0 : lw_okq (⟨"CurveIndex$Row", "clear", "()V"⟩, 4) := ⟨⟨by decide +kernel, by decide +kernel⟩, List.mem_of_getElem? (i := 16) (by decide +kernel), List.mem_of_getElem? (i := 75) (by decide +kernel), List.mem_of_getElem? (i := 76) (by decide +kernel)⟩
theorem lw_p1 : lw_okq (⟨"CurveIndex", "isCell", "(II)Z"⟩, 4) := ⟨⟨by decide +kernel, by decide +kernel⟩, List.mem_of_getElem? (i := 8) (by decide +kernel), List.mem_of_getElem? (i := 86) (by decide +kernel), List.mem_of_getElem? (i := 87) (by decide +kernel)⟩
theorem lw_p2 : lw_okq (⟨"CurveIndex", "keyOf", "(III)I"⟩, 4) := ⟨⟨by decide +kernel, by decide +kernel⟩, List.mem_of_getElem? (i := 8) (by decide +kernel), List.mem_of_getElem? (i := 90) (by decide +kernel), List.mem_of_getElem? (i := 91) (by decide +kernel)⟩
theorem lw_p3 : lw_okq (⟨"CurveIndex", "isKey", "(I)Z"⟩, 4) := ⟨⟨by decide +kernel, by decide +kernel⟩, List.mem_of_getElem? (i := 8) (by decide +kernel), List.mem_of_getElem? (i := 105) (by decide +kernel), List.mem_of_getElem? (i := 106) (by decide +kernel)⟩
theorem lw_p4 : lw_okq (⟨"CurveIndex", "cellOf", "(II)I"⟩, 4) := ⟨⟨by decide +kernel, by decide +kernel⟩, List.mem_of_getElem? (i := 8) (by decide +kernel), List.mem_of_getElem? (i := 109) (by decide +kernel), List.mem_of_getElem? (i := 110) (by decide +kernel)⟩
theorem lw_p5 : lw_okq (⟨"CurveIndex", "cellNumber", "(II)I"⟩, 4) := ⟨⟨by decide +kernel, by decide +kernel⟩, List.mem_of_getElem? (i := 8) (by decide +kernel), List.mem_of_getElem? (i := 115) (by decide +kernel), List.mem_of_getElem? (i := 116) (by decide +kernel)⟩
theorem lw_p6 : lw_okq (⟨"CurveIndex$Row", "weightOf", "(I)I"⟩, 4) := ⟨⟨by decide +kernel, by decide +kernel⟩, List.mem_of_getElem? (i := 16) (by decide +kernel), List.mem_of_getElem? (i := 123) (by decide +kernel), List.mem_of_getElem? (i := 124) (by decide +kernel)⟩
theorem lw_p7 : lw_okq (⟨"CurveIndex$Row", "placeOf", "(I)I"⟩, 4) := ⟨⟨by decide +kernel, by decide +kernel⟩, List.mem_of_getElem? (i := 16) (by decide +kernel), List.mem_of_getElem? (i := 127) (by decide +kernel), List.mem_of_getElem? (i := 128) (by decide +kernel)⟩
theorem lw_p8 : lw_okq (⟨"CurveIndex$Row", "isKeyAt", "(II)Z"⟩, 4) := ⟨⟨by decide +kernel, by decide +kernel⟩, List.mem_of_getElem? (i := 16) (by decide +kernel), List.mem_of_getElem? (i := 131) (by decide +kernel), List.mem_of_getElem? (i := 132) (by decide +kernel)⟩
theorem lw_p9 : lw_okq (⟨"CurveIndex$Row", "isFull", "()Z"⟩, 4) := ⟨⟨by decide +kernel, by decide +kernel⟩, List.mem_of_getElem? (i := 16) (by decide +kernel), List.mem_of_getElem? (i := 135) (by decide +kernel), List.mem_of_getElem? (i := 136) (by decide +kernel)⟩
theorem lw_p10 : lw_okq (⟨"CurveIndex$Row", "keep", "(III)V"⟩, 4) := ⟨⟨by decide +kernel, by decide +kernel⟩, List.mem_of_getElem? (i := 16) (by decide +kernel), List.mem_of_getElem? (i := 139) (by decide +kernel), List.mem_of_getElem? (i := 140) (by decide +kernel)⟩
theorem lw_p11 : lw_okq (⟨"CurveIndex$Row", "moveTail", "(II)V"⟩, 4) := ⟨⟨by decide +kernel, by decide +kernel⟩, List.mem_of_getElem? (i := 16) (by decide +kernel), List.mem_of_getElem? (i := 144) (by decide +kernel), List.mem_of_getElem? (i := 145) (by decide +kernel)⟩
theorem lw_p12 : lw_okq (⟨"CurveIndex$Row", "drop", "(I)V"⟩, 4) := ⟨⟨by decide +kernel, by decide +kernel⟩, List.mem_of_getElem? (i := 16) (by decide +kernel), List.mem_of_getElem? (i := 155) (by decide +kernel), List.mem_of_getElem? (i := 156) (by decide +kernel)⟩
theorem lw_p13 : lw_okq (⟨"CurveIndex", "isInFrame", "(I)Z"⟩, 4) := ⟨⟨by decide +kernel, by decide +kernel⟩, List.mem_of_getElem? (i := 8) (by decide +kernel), List.mem_of_getElem? (i := 175) (by decide +kernel), List.mem_of_getElem? (i := 176) (by decide +kernel)⟩
theorem lw_p14 : lw_okq (⟨"CurveIndex", "xOf", "(I)I"⟩, 4) := ⟨⟨by decide +kernel, by decide +kernel⟩, List.mem_of_getElem? (i := 8) (by decide +kernel), List.mem_of_getElem? (i := 179) (by decide +kernel), List.mem_of_getElem? (i := 180) (by decide +kernel)⟩
theorem lw_p15 : lw_okq (⟨"CurveIndex", "yOf", "(I)I"⟩, 4) := ⟨⟨by decide +kernel, by decide +kernel⟩, List.mem_of_getElem? (i := 8) (by decide +kernel), List.mem_of_getElem? (i := 183) (by decide +kernel), List.mem_of_getElem? (i := 184) (by decide +kernel)⟩
def lw_privs_1 : List (MethodName × Nat) := [(⟨"CurveIndex$Row", "clear", "()V"⟩, 4), (⟨"CurveIndex", "isCell", "(II)Z"⟩, 4), (⟨"CurveIndex", "keyOf", "(III)I"⟩, 4), (⟨"CurveIndex", "isKey", "(I)Z"⟩, 4), (⟨"CurveIndex", "cellOf", "(II)I"⟩, 4), (⟨"CurveIndex", "cellNumber", "(II)I"⟩, 4), (⟨"CurveIndex$Row", "weightOf", "(I)I"⟩, 4), (⟨"CurveIndex$Row", "placeOf", "(I)I"⟩, 4), (⟨"CurveIndex$Row", "isKeyAt", "(II)Z"⟩, 4), (⟨"CurveIndex$Row", "isFull", "()Z"⟩, 4), (⟨"CurveIndex$Row", "keep", "(III)V"⟩, 4), (⟨"CurveIndex$Row", "moveTail", "(II)V"⟩, 4), (⟨"CurveIndex$Row", "drop", "(I)V"⟩, 4), (⟨"CurveIndex", "isInFrame", "(I)Z"⟩, 4), (⟨"CurveIndex", "xOf", "(I)I"⟩, 4), (⟨"CurveIndex", "yOf", "(I)I"⟩, 4)]
theorem lw_r1 : ∀ q ∈ lw_privs_1, lw_okq q := List.forall_mem_cons.mpr ⟨lw_p0, List.forall_mem_cons.mpr ⟨lw_p1, List.forall_mem_cons.mpr ⟨lw_p2, List.forall_mem_cons.mpr ⟨lw_p3, List.forall_mem_cons.mpr ⟨lw_p4, List.forall_mem_cons.mpr ⟨lw_p5, List.forall_mem_cons.mpr ⟨lw_p6, List.forall_mem_cons.mpr ⟨lw_p7, List.forall_mem_cons.mpr ⟨lw_p8, List.forall_mem_cons.mpr ⟨lw_p9, List.forall_mem_cons.mpr ⟨lw_p10, List.forall_mem_cons.mpr ⟨lw_p11, List.forall_mem_cons.mpr ⟨lw_p12, List.forall_mem_cons.mpr ⟨lw_p13, List.forall_mem_cons.mpr ⟨lw_p14, List.forall_mem_cons.mpr ⟨lw_p15, fun _ h => absurd h List.not_mem_nil⟩⟩⟩⟩⟩⟩⟩⟩⟩⟩⟩⟩⟩⟩⟩⟩
theorem lw_p16 : lw_okq (⟨"CurveIndex$Frame", "holds", "(II)Z"⟩, 4) := ⟨⟨by decide +kernel, by decide +kernel⟩, List.mem_of_getElem? (i := 39) (by decide +kernel), List.mem_of_getElem? (i := 187) (by decide +kernel), List.mem_of_getElem? (i := 188) (by decide +kernel)⟩
theorem lw_p17 : lw_okq (⟨"CurveIndex", "hasRuns", "(I)Z"⟩, 4) := ⟨⟨by decide +kernel, by decide +kernel⟩, List.mem_of_getElem? (i := 8) (by decide +kernel), List.mem_of_getElem? (i := 203) (by decide +kernel), List.mem_of_getElem? (i := 204) (by decide +kernel)⟩
theorem lw_p18 : lw_okq (⟨"CurveIndex$Frame", "cellCount", "()I"⟩, 4) := ⟨⟨by decide +kernel, by decide +kernel⟩, List.mem_of_getElem? (i := 39) (by decide +kernel), List.mem_of_getElem? (i := 207) (by decide +kernel), List.mem_of_getElem? (i := 208) (by decide +kernel)⟩
theorem lw_p19 : lw_okq (⟨"CurveIndex", "walkRuns", "(II)LCurveIndex$RunWalk;"⟩, 4) := ⟨⟨by decide +kernel, by decide +kernel⟩, List.mem_of_getElem? (i := 8) (by decide +kernel), List.mem_of_getElem? (i := 211) (by decide +kernel), List.mem_of_getElem? (i := 212) (by decide +kernel)⟩
theorem lw_p20 : lw_okq (⟨"CurveIndex$Frame", "missesSquare", "(III)Z"⟩, 4) := ⟨⟨by decide +kernel, by decide +kernel⟩, List.mem_of_getElem? (i := 39) (by decide +kernel), List.mem_of_getElem? (i := 246) (by decide +kernel), List.mem_of_getElem? (i := 247) (by decide +kernel)⟩
theorem lw_p21 : lw_okq (⟨"CurveIndex$Frame", "holdsSquare", "(III)Z"⟩, 4) := ⟨⟨by decide +kernel, by decide +kernel⟩, List.mem_of_getElem? (i := 39) (by decide +kernel), List.mem_of_getElem? (i := 250) (by decide +kernel), List.mem_of_getElem? (i := 251) (by decide +kernel)⟩
theorem lw_p22 : lw_okq (⟨"CurveIndex$RunWalk", "join", "(II)V"⟩, 6) := ⟨⟨by decide +kernel, by decide +kernel⟩, List.mem_of_getElem? (i := 215) (by decide +kernel), List.mem_of_getElem? (i := 255) (by decide +kernel), List.mem_of_getElem? (i := 256) (by decide +kernel)⟩
theorem lw_p23 : lw_okq (⟨"CurveIndex", "squaredDistance", "(III)J"⟩, 4) := ⟨⟨by decide +kernel, by decide +kernel⟩, List.mem_of_getElem? (i := 8) (by decide +kernel), List.mem_of_getElem? (i := 270) (by decide +kernel), List.mem_of_getElem? (i := 271) (by decide +kernel)⟩
theorem lw_p24 : lw_okq (⟨"CurveIndexModel", "isCell", "(II)Z"⟩, 10) := ⟨⟨by decide +kernel, by decide +kernel⟩, List.mem_of_getElem? (i := 274) (by decide +kernel), List.mem_of_getElem? (i := 322) (by decide +kernel), List.mem_of_getElem? (i := 323) (by decide +kernel)⟩
theorem lw_p25 : lw_okq (⟨"CurveIndexModel", "side", "()I"⟩, 10) := ⟨⟨by decide +kernel, by decide +kernel⟩, List.mem_of_getElem? (i := 274) (by decide +kernel), List.mem_of_getElem? (i := 326) (by decide +kernel), List.mem_of_getElem? (i := 327) (by decide +kernel)⟩
theorem lw_p26 : lw_okq (⟨"CurveIndexModel", "keyOf", "(III)I"⟩, 10) := ⟨⟨by decide +kernel, by decide +kernel⟩, List.mem_of_getElem? (i := 274) (by decide +kernel), List.mem_of_getElem? (i := 330) (by decide +kernel), List.mem_of_getElem? (i := 331) (by decide +kernel)⟩
theorem lw_p27 : lw_okq (⟨"CurveIndexModel", "cellOf", "(II)I"⟩, 10) := ⟨⟨by decide +kernel, by decide +kernel⟩, List.mem_of_getElem? (i := 274) (by decide +kernel), List.mem_of_getElem? (i := 338) (by decide +kernel), List.mem_of_getElem? (i := 339) (by decide +kernel)⟩
theorem lw_p28 : lw_okq (⟨"CurveIndexModel", "find", "(I)I"⟩, 10) := ⟨⟨by decide +kernel, by decide +kernel⟩, List.mem_of_getElem? (i := 274) (by decide +kernel), List.mem_of_getElem? (i := 346) (by decide +kernel), List.mem_of_getElem? (i := 347) (by decide +kernel)⟩
theorem lw_p29 : lw_okq (⟨"CurveIndexModel", "isInside", "(I)Z"⟩, 10) := ⟨⟨by decide +kernel, by decide +kernel⟩, List.mem_of_getElem? (i := 274) (by decide +kernel), List.mem_of_getElem? (i := 370) (by decide +kernel), List.mem_of_getElem? (i := 371) (by decide +kernel)⟩
theorem lw_p30 : lw_okq (⟨"CurveIndexModel", "keyAt", "(II)I"⟩, 10) := ⟨⟨by decide +kernel, by decide +kernel⟩, List.mem_of_getElem? (i := 274) (by decide +kernel), List.mem_of_getElem? (i := 382) (by decide +kernel), List.mem_of_getElem? (i := 383) (by decide +kernel)⟩
theorem lw_p31 : lw_okq (⟨"CurveIndexModel", "sort", "(I)I"⟩, 10) := ⟨⟨by decide +kernel, by decide +kernel⟩, List.mem_of_getElem? (i := 274) (by decide +kernel), List.mem_of_getElem? (i := 390) (by decide +kernel), List.mem_of_getElem? (i := 391) (by decide +kernel)⟩
def lw_privs_2 : List (MethodName × Nat) := [(⟨"CurveIndex$Frame", "holds", "(II)Z"⟩, 4), (⟨"CurveIndex", "hasRuns", "(I)Z"⟩, 4), (⟨"CurveIndex$Frame", "cellCount", "()I"⟩, 4), (⟨"CurveIndex", "walkRuns", "(II)LCurveIndex$RunWalk;"⟩, 4), (⟨"CurveIndex$Frame", "missesSquare", "(III)Z"⟩, 4), (⟨"CurveIndex$Frame", "holdsSquare", "(III)Z"⟩, 4), (⟨"CurveIndex$RunWalk", "join", "(II)V"⟩, 6), (⟨"CurveIndex", "squaredDistance", "(III)J"⟩, 4), (⟨"CurveIndexModel", "isCell", "(II)Z"⟩, 10), (⟨"CurveIndexModel", "side", "()I"⟩, 10), (⟨"CurveIndexModel", "keyOf", "(III)I"⟩, 10), (⟨"CurveIndexModel", "cellOf", "(II)I"⟩, 10), (⟨"CurveIndexModel", "find", "(I)I"⟩, 10), (⟨"CurveIndexModel", "isInside", "(I)Z"⟩, 10), (⟨"CurveIndexModel", "keyAt", "(II)I"⟩, 10), (⟨"CurveIndexModel", "sort", "(I)I"⟩, 10)]
theorem lw_r2 : ∀ q ∈ lw_privs_2, lw_okq q := List.forall_mem_cons.mpr ⟨lw_p16, List.forall_mem_cons.mpr ⟨lw_p17, List.forall_mem_cons.mpr ⟨lw_p18, List.forall_mem_cons.mpr ⟨lw_p19, List.forall_mem_cons.mpr ⟨lw_p20, List.forall_mem_cons.mpr ⟨lw_p21, List.forall_mem_cons.mpr ⟨lw_p22, List.forall_mem_cons.mpr ⟨lw_p23, List.forall_mem_cons.mpr ⟨lw_p24, List.forall_mem_cons.mpr ⟨lw_p25, List.forall_mem_cons.mpr ⟨lw_p26, List.forall_mem_cons.mpr ⟨lw_p27, List.forall_mem_cons.mpr ⟨lw_p28, List.forall_mem_cons.mpr ⟨lw_p29, List.forall_mem_cons.mpr ⟨lw_p30, List.forall_mem_cons.mpr ⟨lw_p31, fun _ h => absurd h List.not_mem_nil⟩⟩⟩⟩⟩⟩⟩⟩⟩⟩⟩⟩⟩⟩⟩⟩
def lw_privs : List (MethodName × Nat) := lw_privs_1 ++ (lw_privs_2)
def lw_tbl : List Cond := k2_sels lw_privs ++ tables_1
theorem lw_privs_ok : ∀ q ∈ lw_privs, lw_okq q := by
  show ∀ q ∈ lw_privs_1 ++ (lw_privs_2), lw_okq q
  exact List.forall_mem_append.mpr ⟨lw_r1, lw_r2⟩
end
section
/-! sums over the first n numbers; two rows that hold the same points -/
def sg (n : Nat) (f : Nat → Nat) : Nat := match n with
  | 0 => 0
  | n + 1 => sg n f + f n
theorem sg_0 (f : Nat → Nat) : sg 0 f = 0 := rfl
theorem sg_s (n : Nat) (f : Nat → Nat) : sg (n + 1) f = sg n f + f n := rfl
theorem sg_congr {n : Nat} {f g : Nat → Nat} (h : ∀ i, i < n → f i = g i) : sg n f = sg n g := by
  induction n with
  | zero => rfl
  | succ n ih => rw [sg_s, sg_s, ih (fun i hi => h i (by omega)), h n (by omega)]
theorem sg_zero {n : Nat} {f : Nat → Nat} (h : ∀ i, i < n → f i = 0) : sg n f = 0 := by
  induction n with
  | zero => rfl
  | succ n ih => rw [sg_s, ih (fun i hi => h i (by omega)), h n (by omega)]
theorem sg_one (n : Nat) : sg n (fun _ => 1) = n := by
  induction n with
  | zero => rfl
  | succ n ih => rw [sg_s, ih]
theorem sg_add (n : Nat) (f g : Nat → Nat) : sg n (fun i => f i + g i) = sg n f + sg n g := by
  induction n with
  | zero => rfl
  | succ n ih => rw [sg_s, sg_s, sg_s, ih]; omega
theorem sg_le {n : Nat} {f g : Nat → Nat} (h : ∀ i, i < n → f i ≤ g i) : sg n f ≤ sg n g := by
  induction n with
  | zero => exact Nat.le_refl _
  | succ n ih =>
    have h1 := ih (fun i hi => h i (by omega))
    have h2 := h n (by omega)
    rw [sg_s, sg_s]
    omega
theorem sg_get {n : Nat} {f : Nat → Nat} {i : Nat} (hi : i < n) : f i ≤ sg n f := by
  induction n with
  | zero => omega
  | succ n ih =>
    rw [sg_s]
    by_cases h : i = n
    · subst h; omega
    · have := ih (by omega); omega
theorem sg_lt {n : Nat} {f g : Nat → Nat} (h : ∀ i, i < n → f i ≤ g i) {j : Nat} (hj : j < n) (hlt : f j < g j) : sg n f < sg n g := by
  induction n with
  | zero => omega
  | succ n ih =>
    rw [sg_s, sg_s]
    have h2 := h n (by omega)
    by_cases e : j = n
    · subst e
      have := sg_le (n := j) (f := f) (g := g) (fun i hi => h i (by omega))
      omega
    · have := ih (fun i hi => h i (by omega)) (by omega)
      omega
theorem sg_ex {n : Nat} {f : Nat → Nat} (h : sg n f ≠ 0) : ∃ i, i < n ∧ f i ≠ 0 := by
  induction n with
  | zero => exact absurd rfl h
  | succ n ih =>
    rw [sg_s] at h
    by_cases e : f n = 0
    · obtain ⟨i, h1, h2⟩ := ih (by omega)
      exact ⟨i, by omega, h2⟩
    · exact ⟨n, by omega, e⟩
/-- only one of them counts -/
theorem sg_only {n : Nat} {f : Nat → Nat} {i : Nat} (hi : i < n) (h : ∀ j, j < n → j ≠ i → f j = 0) : sg n f = f i := by
  induction n with
  | zero => omega
  | succ n ih =>
    rw [sg_s]
    by_cases e : i = n
    · subst e
      rw [sg_zero (fun j hj => h j (by omega) (by omega))]
      omega
    · rw [ih (by omega) (fun j hj hne => h j (by omega) hne), h n (by omega) (by omega)]
      omega
theorem sg_split (a b : Nat) (f : Nat → Nat) : sg (a + b) f = sg a f + sg b (fun i => f (a + i)) := by
  induction b with
  | zero => rfl
  | succ b ih => rw [← Nat.add_assoc, sg_s, sg_s, ih]; omega
/-- one is put in at a place -/
theorem sg_ins {n p : Nat} {f g : Nat → Nat} (hp : p ≤ n) (h1 : ∀ i, i < p → g i = f i) (h2 : ∀ i, p ≤ i → i < n → g (i + 1) = f i) : sg (n + 1) g = sg n f + g p := by
  have e : n + 1 = p + (1 + (n - p)) := by omega
  have e2 : n = p + (n - p) := by omega
  rw [e, sg_split, sg_split]
  conv => rhs; rw [e2, sg_split]
  have a1 : sg p g = sg p f := sg_congr h1
  have a2 : sg (n - p) (fun i => g (p + (1 + i))) = sg (n - p) (fun i => f (p + i)) := sg_congr (fun i hi => by
    have := h2 (p + i) (by omega) (by omega)
    rw [← this]
    congr 1
    omega)
  have a3 : sg 1 (fun i => g (p + i)) = g p := by
    show 0 + g (p + 0) = g p
    simp
  rw [a1, a2, a3]
  omega
/-- one changes -/
theorem sg_put {n p : Nat} {f g : Nat → Nat} (hp : p < n) (h : ∀ i, i < n → i ≠ p → g i = f i) : sg n g + f p = sg n f + g p := by
  induction n with
  | zero => omega
  | succ n ih =>
    rw [sg_s, sg_s]
    by_cases e : p = n
    · subst e
      rw [sg_congr (f := g) (g := f) (fun i hi => h i (by omega) (by omega))]
      omega
    · have := ih (by omega) (fun i hi hne => h i (by omega) hne)
      have := h n (by omega) (by omega)
      omega
theorem sg_if_split (n : Nat) (f : Nat → Nat) (P : Nat → Prop) [DecidablePred P] : sg n f = sg n (fun i => if P i then f i else 0) + sg n (fun i => if P i then 0 else f i) := by
  rw [← sg_add]
  refine sg_congr (fun i _ => ?_)
  by_cases h : P i <;> simp [h]
/-- two rows of points, cells and weights, hold the same: every sum over one is that over the other -/
def same (n : Nat) (C V : Nat → Nat) (n' : Nat) (C' V' : Nat → Nat) : Prop := ∀ f : Nat → Nat → Nat, sg n (fun i => f (C i) (V i)) = sg n' (fun i => f (C' i) (V' i))
theorem same.rf {n : Nat} {C V : Nat → Nat} : same n C V n C V := fun _ => rfl
theorem same.sy {n : Nat} {C V : Nat → Nat} {n' : Nat} {C' V' : Nat → Nat} (h : same n C V n' C' V') : same n' C' V' n C V := fun f => (h f).symm
theorem same.tr {n : Nat} {C V : Nat → Nat} {n' : Nat} {C' V' : Nat → Nat} {n2 : Nat} {C2 V2 : Nat → Nat} (h : same n C V n' C' V') (h2 : same n' C' V' n2 C2 V2) : same n C V n2 C2 V2 := fun f => (h f).trans (h2 f)
theorem same.many {n : Nat} {C V : Nat → Nat} {n' : Nat} {C' V' : Nat → Nat} (h : same n C V n' C' V') : n = n' := by
  have := h (fun _ _ => 1)
  rwa [sg_one, sg_one] at this
/-- a property of all points goes over -/
theorem same.all {n : Nat} {C V : Nat → Nat} {n' : Nat} {C' V' : Nat → Nat} (h : same n C V n' C' V') {P : Nat → Nat → Prop} (hP : ∀ i, i < n → P (C i) (V i)) : ∀ i, i < n' → P (C' i) (V' i) := by
  intro i hi
  apply Classical.byContradiction
  intro hn
  have hd : ∀ a b, Decidable (P a b) := fun a b => Classical.propDecidable _
  have e := h (fun a b => if P a b then 0 else 1)
  rw [sg_zero (fun j hj => by simp [hP j hj])] at e
  have := sg_get (f := fun j => if P (C' j) (V' j) then 0 else 1) hi
  rw [← e] at this
  simp [hn] at this
theorem same.ex {n : Nat} {C V : Nat → Nat} {n' : Nat} {C' V' : Nat → Nat} (h : same n C V n' C' V') {i : Nat} (hi : i < n) : ∃ j, j < n' ∧ C' j = C i ∧ V' j = V i := by
  apply Classical.byContradiction
  intro hn
  refine absurd rfl (same.all h.sy (P := fun a b => ¬ (a = C i ∧ b = V i)) (fun j hj q => hn ⟨j, hj, q⟩) i hi ∘ fun (_ : (0:Nat) = 0) => ⟨rfl, rfl⟩)
/-- the weight at a cell; 0 where there is none -/
def wt (n : Nat) (C V : Nat → Nat) (c : Nat) : Nat := sg n (fun i => if C i = c then V i else 0)
def inj (n : Nat) (C : Nat → Nat) : Prop := ∀ i j, i < n → j < n → C i = C j → i = j
theorem same.wt {n : Nat} {C V : Nat → Nat} {n' : Nat} {C' V' : Nat → Nat} (h : same n C V n' C' V') (c : Nat) : wt n C V c = wt n' C' V' c := h (fun a b => if a = c then b else 0)
theorem wt_at {n : Nat} {C V : Nat → Nat} {c i : Nat} (hj : inj n C) (hi : i < n) (hc : C i = c) : wt n C V c = V i := by
  have := sg_only (f := fun j => if C j = c then V j else 0) hi (fun j h1 h2 => by
    rw [if_neg]
    intro q
    exact h2 (hj j i h1 hi (q.trans hc.symm)))
  rw [if_pos hc] at this
  exact this
theorem wt_none {n : Nat} {C V : Nat → Nat} {c : Nat} (h : ∀ i, i < n → C i ≠ c) : wt n C V c = 0 := sg_zero (fun i hi => by rw [if_neg (h i hi)])
theorem up_ne {f : Nat → Nat} {k j v : Nat} (h : j ≠ k) : va_up f k v j = f j := va_up_ne f v h
end
section
/-! the two curves, as numbers -/
def tSQ (i : Nat) : Nat := [0, 1, 3, 2, 0, 3, 1, 2, 2, 3, 1, 0, 2, 1, 3, 0, 0, 2, 1, 3].getD i 0
def tQS (i : Nat) : Nat := [0, 1, 3, 2, 0, 2, 3, 1, 3, 2, 0, 1, 3, 1, 0, 2, 0, 2, 1, 3].getD i 0
def tSS (i : Nat) : Nat := [1, 0, 0, 3, 0, 1, 1, 2, 3, 2, 2, 1, 2, 3, 3, 0, 4, 4, 4, 4].getD i 0
theorem tSQ_lt : ∀ i, i < 20 → tSQ i < 4 := by decide
theorem tQS_lt : ∀ i, i < 20 → tQS i < 4 := by decide
theorem tSS_lt : ∀ i, i < 20 → tSS i < 5 := by decide
theorem tSS_lt4 : ∀ i, i < 16 → tSS i < 4 := by decide
/-- the turn's key on a side of 2^l -/
def hk (l a b : Nat) : Nat := match l with
  | 0 => 0
  | l + 1 => if a < 2 ^ l then (if b < 2 ^ l then hk l b a else 2 ^ l * 2 ^ l + hk l a (b - 2 ^ l))
    else if 2 ^ l ≤ b then 2 * (2 ^ l * 2 ^ l) + hk l (a - 2 ^ l) (b - 2 ^ l) else 3 * (2 ^ l * 2 ^ l) + hk l (2 ^ l - 1 - b) (2 * 2 ^ l - 1 - a)
/-- the weave's -/
def wk (l x y : Nat) : Nat := match l with
  | 0 => 0
  | l + 1 => (x / 2 ^ l % 2 + 2 * (y / 2 ^ l % 2)) * (2 ^ l * 2 ^ l) + wk l x y
theorem hk_00 {l a b : Nat} (h1 : a < 2 ^ l) (h2 : b < 2 ^ l) : hk (l + 1) a b = hk l b a := by
  show (if a < 2 ^ l then _ else _) = _
  rw [if_pos h1, if_pos h2]
theorem hk_01 {l a b : Nat} (h1 : a < 2 ^ l) (h2 : 2 ^ l ≤ b) : hk (l + 1) a b = 2 ^ l * 2 ^ l + hk l a (b - 2 ^ l) := by
  show (if a < 2 ^ l then _ else _) = _
  rw [if_pos h1, if_neg (by omega)]
theorem hk_11 {l a b : Nat} (h1 : 2 ^ l ≤ a) (h2 : 2 ^ l ≤ b) : hk (l + 1) a b = 2 * (2 ^ l * 2 ^ l) + hk l (a - 2 ^ l) (b - 2 ^ l) := by
  show (if a < 2 ^ l then _ else _) = _
  rw [if_neg (by omega), if_pos h2]
theorem hk_10 {l a b : Nat} (h1 : 2 ^ l ≤ a) (h2 : b < 2 ^ l) : hk (l + 1) a b = 3 * (2 ^ l * 2 ^ l) + hk l (2 ^ l - 1 - b) (2 * 2 ^ l - 1 - a) := by
  show (if a < 2 ^ l then _ else _) = _
  rw [if_neg (by omega), if_neg (by omega)]
theorem p4_s (l : Nat) : 2 ^ (l + 1) * 2 ^ (l + 1) = 4 * (2 ^ l * 2 ^ l) := by
  rw [Nat.pow_succ]
  generalize 2 ^ l = s
  rw [Nat.mul_assoc, Nat.mul_comm 2 (s * 2), Nat.mul_assoc s 2 2, ← Nat.mul_assoc s s]
  omega
theorem p4_pos (l : Nat) : 0 < 2 ^ l * 2 ^ l := Nat.mul_pos (Nat.two_pow_pos l) (Nat.two_pow_pos l)
theorem p4_eq (l : Nat) : 4 ^ l = 2 ^ l * 2 ^ l := by
  rw [show (4 : Nat) = 2 * 2 from rfl, Nat.mul_pow]
theorem p2_s (l : Nat) : 2 ^ (l + 1) = 2 * 2 ^ l := by rw [Nat.pow_succ, Nat.mul_comm]
theorem hk_lt (l : Nat) : ∀ a b, a < 2 ^ l → b < 2 ^ l → hk l a b < 2 ^ l * 2 ^ l := by
  induction l with
  | zero => intro a b _ _; show 0 < _; exact p4_pos 0
  | succ l ih =>
    intro a b ha hb
    rw [p2_s] at ha hb
    rw [p4_s]
    have h0 := p4_pos l
    rcases Nat.lt_or_ge a (2 ^ l) with h1 | h1 <;> rcases Nat.lt_or_ge b (2 ^ l) with h2 | h2
    · rw [hk_00 h1 h2]
      have := ih b a h2 h1
      omega
    · rw [hk_01 h1 h2]
      have := ih a (b - 2 ^ l) h1 (by omega)
      omega
    · rw [hk_10 h1 h2]
      have := ih (2 ^ l - 1 - b) (2 * 2 ^ l - 1 - a) (by omega) (by omega)
      omega
    · rw [hk_11 h1 h2]
      have := ih (a - 2 ^ l) (b - 2 ^ l) (by omega) (by omega)
      omega
theorem wk_lt (l : Nat) : ∀ x y, wk l x y < 2 ^ l * 2 ^ l := by
  induction l with
  | zero => intro a b; exact p4_pos 0
  | succ l ih =>
    intro x y
    rw [p4_s]
    show (x / 2 ^ l % 2 + 2 * (y / 2 ^ l % 2)) * (2 ^ l * 2 ^ l) + wk l x y < _
    have h1 := ih x y
    have h2 : x / 2 ^ l % 2 < 2 := Nat.mod_lt _ (by omega)
    have h3 : y / 2 ^ l % 2 < 2 := Nat.mod_lt _ (by omega)
    have h4 : (x / 2 ^ l % 2 + 2 * (y / 2 ^ l % 2)) * (2 ^ l * 2 ^ l) ≤ 3 * (2 ^ l * 2 ^ l) := Nat.mul_le_mul_right _ (by omega)
    omega
/-- how the turn lies in a square: 1 exchanges, 2 counts backwards -/
def tx (st s x y : Nat) : Nat := match st with
  | 0 => x
  | 1 => y
  | 2 => s - 1 - x
  | _ => s - 1 - y
def ty (st s x y : Nat) : Nat := match st with
  | 0 => y
  | 1 => x
  | 2 => s - 1 - y
  | _ => s - 1 - x
theorem hk_step (l : Nat) {st xb yb xr yr : Nat} (hst : st < 4) (hxb : xb < 2) (hyb : yb < 2) (hx : xr < 2 ^ l) (hy : yr < 2 ^ l) :
    hk (l + 1) (tx st (2 * 2 ^ l) (xr + 2 ^ l * xb) (yr + 2 ^ l * yb)) (ty st (2 * 2 ^ l) (xr + 2 ^ l * xb) (yr + 2 ^ l * yb)) =
      tSQ (4 * st + (2 * xb + yb)) * (2 ^ l * 2 ^ l) + hk l (tx (tSS (4 * st + tSQ (4 * st + (2 * xb + yb)))) (2 ^ l) xr yr) (ty (tSS (4 * st + tSQ (4 * st + (2 * xb + yb)))) (2 ^ l) xr yr) := by
  have e1 : st = 0 ∨ st = 1 ∨ st = 2 ∨ st = 3 := by omega
  have e2 : xb = 0 ∨ xb = 1 := by omega
  have e3 : yb = 0 ∨ yb = 1 := by omega
  rcases e1 with rfl | rfl | rfl | rfl <;> rcases e2 with rfl | rfl <;> rcases e3 with rfl | rfl <;>
    simp only [tx, ty, tSQ, tSS, List.getD_cons_zero, List.getD_cons_succ, Nat.mul_zero, Nat.mul_one, Nat.zero_add, Nat.add_zero, Nat.reduceAdd, Nat.reduceMul, Nat.zero_mul, Nat.one_mul] <;>
    first
    | (rw [hk_00 (by omega) (by omega)]; done)
    | (rw [hk_01 (by omega) (by omega)]; congr 2 <;> omega)
    | (rw [hk_11 (by omega) (by omega)]; congr 2 <;> omega)
    | (rw [hk_10 (by omega) (by omega)]; congr 2 <;> omega)
    | (rw [hk_00 (by omega) (by omega)]; congr 1 <;> omega)
/-- the class's walk: from the top down -/
def ck (l st k x y : Nat) : Nat := match l with
  | 0 => k
  | l + 1 => ck l (tSS (4 * st + tSQ (4 * st + (2 * (x / 2 ^ l % 2) + y / 2 ^ l % 2)))) (4 * k + tSQ (4 * st + (2 * (x / 2 ^ l % 2) + y / 2 ^ l % 2))) x y
theorem md_s (x l : Nat) : x % 2 ^ (l + 1) = x % 2 ^ l + 2 ^ l * (x / 2 ^ l % 2) := by
  rw [Nat.pow_succ, Nat.mod_mul]
theorem ck_turn (l : Nat) : ∀ st k x y, st < 4 → ck l st k x y = k * (2 ^ l * 2 ^ l) + hk l (tx st (2 ^ l) (x % 2 ^ l) (y % 2 ^ l)) (ty st (2 ^ l) (x % 2 ^ l) (y % 2 ^ l)) := by
  induction l with
  | zero => intro st k x y _; show k = k * (1 * 1) + 0; omega
  | succ l ih =>
    intro st k x y hst
    have h2 : x / 2 ^ l % 2 < 2 := Nat.mod_lt _ (by omega)
    have h3 : y / 2 ^ l % 2 < 2 := Nat.mod_lt _ (by omega)
    have hq := tSQ_lt (4 * st + (2 * (x / 2 ^ l % 2) + y / 2 ^ l % 2)) (by omega)
    show ck l _ _ x y = _
    rw [ih _ _ _ _ (tSS_lt4 _ (by omega)), md_s x, md_s y, p2_s, hk_step l hst h2 h3 (Nat.mod_lt _ (Nat.two_pow_pos l)) (Nat.mod_lt _ (Nat.two_pow_pos l))]
    generalize tSQ (4 * st + (2 * (x / 2 ^ l % 2) + y / 2 ^ l % 2)) = q
    rw [← Nat.add_assoc]
    congr 1
    rw [← p2_s, p4_s, Nat.add_mul, Nat.mul_comm 4 k, Nat.mul_assoc]
theorem sq_weave : ∀ a b, a < 2 → b < 2 → tSQ (4 * 4 + (2 * a + b)) = a + 2 * b := by
  intro a b ha hb
  have e2 : a = 0 ∨ a = 1 := by omega
  have e3 : b = 0 ∨ b = 1 := by omega
  rcases e2 with rfl | rfl <;> rcases e3 with rfl | rfl <;> rfl
theorem ss_weave : ∀ a, a < 4 → tSS (4 * 4 + a) = 4 := by
  intro a ha
  have e2 : a = 0 ∨ a = 1 ∨ a = 2 ∨ a = 3 := by omega
  rcases e2 with rfl | rfl | rfl | rfl <;> rfl
theorem ck_weave (l : Nat) : ∀ k x y, ck l 4 k x y = k * (2 ^ l * 2 ^ l) + wk l x y := by
  induction l with
  | zero => intro k x y; show k = k * (1 * 1) + 0; omega
  | succ l ih =>
    intro k x y
    have h2 : x / 2 ^ l % 2 < 2 := Nat.mod_lt _ (by omega)
    have h3 : y / 2 ^ l % 2 < 2 := Nat.mod_lt _ (by omega)
    show ck l (tSS (4 * 4 + tSQ (4 * 4 + (2 * (x / 2 ^ l % 2) + y / 2 ^ l % 2)))) _ x y = _
    rw [sq_weave _ _ h2 h3, ss_weave _ (by omega), ih]
    show _ = k * (2 ^ (l + 1) * 2 ^ (l + 1)) + ((x / 2 ^ l % 2 + 2 * (y / 2 ^ l % 2)) * (2 ^ l * 2 ^ l) + wk l x y)
    generalize x / 2 ^ l % 2 + 2 * (y / 2 ^ l % 2) = q
    rw [← Nat.add_assoc]
    congr 1
    rw [p4_s, Nat.add_mul, Nat.mul_comm 4 k, Nat.mul_assoc]
/-- the key of a cell by a curve -/
def kk (cu N x y : Nat) : Nat := if cu = 0 then wk N x y else hk N x y
def st0 (cu : Nat) : Nat := if cu = 0 then 4 else 0
theorem ck_kk {cu N x y : Nat} (hcu : cu < 2) (hx : x < 2 ^ N) (hy : y < 2 ^ N) : ck N (st0 cu) 0 x y = kk cu N x y := by
  have e : cu = 0 ∨ cu = 1 := by omega
  rcases e with rfl | rfl
  · show ck N 4 0 x y = wk N x y
    rw [ck_weave]; omega
  · show ck N 0 0 x y = hk N x y
    rw [ck_turn _ _ _ _ _ (by omega), Nat.mod_eq_of_lt hx, Nat.mod_eq_of_lt hy]
    show 0 * _ + hk N x y = _
    omega
theorem kk_lt {cu N x y : Nat} (hx : x < 2 ^ N) (hy : y < 2 ^ N) : kk cu N x y < 2 ^ N * 2 ^ N := by
  unfold kk
  split
  · exact wk_lt _ _ _
  · exact hk_lt _ _ _ hx hy
/-- the cell of a key: the reference's way, from the low bits up -/
def hcx (l k : Nat) : Nat × Nat := match l with
  | 0 => (0, 0)
  | l + 1 => match k / (2 ^ l * 2 ^ l) % 4 with
    | 0 => ((hcx l k).2, (hcx l k).1)
    | 1 => ((hcx l k).1, (hcx l k).2 + 2 ^ l)
    | 2 => ((hcx l k).1 + 2 ^ l, (hcx l k).2 + 2 ^ l)
    | _ => (2 * 2 ^ l - 1 - (hcx l k).2, 2 ^ l - 1 - (hcx l k).1)
def wcx (l k : Nat) : Nat × Nat := match l with
  | 0 => (0, 0)
  | l + 1 => ((wcx l k).1 + 2 ^ l * (k / (2 ^ l * 2 ^ l) % 4 % 2), (wcx l k).2 + 2 ^ l * (k / (2 ^ l * 2 ^ l) % 4 / 2))
theorem hcx_lt (l k : Nat) : (hcx l k).1 < 2 ^ l ∧ (hcx l k).2 < 2 ^ l := by
  induction l with
  | zero => exact ⟨by show 0 < 1; omega, by show 0 < 1; omega⟩
  | succ l ih =>
    obtain ⟨h1, h2⟩ := ih
    rw [p2_s]
    unfold hcx
    split <;> dsimp only <;> omega
theorem wcx_lt (l k : Nat) : (wcx l k).1 < 2 ^ l ∧ (wcx l k).2 < 2 ^ l := by
  induction l with
  | zero => exact ⟨by show 0 < 1; omega, by show 0 < 1; omega⟩
  | succ l ih =>
    obtain ⟨h1, h2⟩ := ih
    rw [p2_s]
    have a1 : k / (2 ^ l * 2 ^ l) % 4 % 2 = 0 ∨ k / (2 ^ l * 2 ^ l) % 4 % 2 = 1 := by omega
    have a2 : k / (2 ^ l * 2 ^ l) % 4 / 2 = 0 ∨ k / (2 ^ l * 2 ^ l) % 4 / 2 = 1 := by omega
    unfold wcx
    dsimp only
    rcases a1 with e | e <;> rcases a2 with e' | e' <;> rw [e, e'] <;> omega
end
section
/-! keys and cells, both ways -/
theorem hcx_add (l : Nat) : ∀ q r, hcx l (q * (2 ^ l * 2 ^ l) + r) = hcx l r := by
  induction l with
  | zero => intro q r; rfl
  | succ l ih =>
    intro q r
    have e : q * (2 ^ (l + 1) * 2 ^ (l + 1)) + r = r + (q * 4) * (2 ^ l * 2 ^ l) := by
      rw [p4_s, ← Nat.mul_assoc, Nat.add_comm]
    have e1 : (q * (2 ^ (l + 1) * 2 ^ (l + 1)) + r) / (2 ^ l * 2 ^ l) % 4 = r / (2 ^ l * 2 ^ l) % 4 := by
      rw [e, Nat.add_mul_div_right _ _ (p4_pos l)]
      omega
    have e2 : hcx l (q * (2 ^ (l + 1) * 2 ^ (l + 1)) + r) = hcx l r := by
      rw [e, Nat.add_comm]
      exact ih (q * 4) r
    unfold hcx
    rw [e1, e2]
theorem wcx_add (l : Nat) : ∀ q r, wcx l (q * (2 ^ l * 2 ^ l) + r) = wcx l r := by
  induction l with
  | zero => intro q r; rfl
  | succ l ih =>
    intro q r
    have e : q * (2 ^ (l + 1) * 2 ^ (l + 1)) + r = r + (q * 4) * (2 ^ l * 2 ^ l) := by
      rw [p4_s, ← Nat.mul_assoc, Nat.add_comm]
    have e1 : (q * (2 ^ (l + 1) * 2 ^ (l + 1)) + r) / (2 ^ l * 2 ^ l) % 4 = r / (2 ^ l * 2 ^ l) % 4 := by
      rw [e, Nat.add_mul_div_right _ _ (p4_pos l)]
      omega
    have e2 : wcx l (q * (2 ^ (l + 1) * 2 ^ (l + 1)) + r) = wcx l r := by
      rw [e, Nat.add_comm]
      exact ih (q * 4) r
    unfold wcx
    rw [e1, e2]
theorem dg_of {l q r : Nat} (hq : q < 4) (hr : r < 2 ^ l * 2 ^ l) : (q * (2 ^ l * 2 ^ l) + r) / (2 ^ l * 2 ^ l) % 4 = q := by
  rw [Nat.add_comm, Nat.add_mul_div_right _ _ (p4_pos l), Nat.div_eq_of_lt hr]
  omega
theorem hcx_0 {l k : Nat} (h : k / (2 ^ l * 2 ^ l) % 4 = 0) : hcx (l + 1) k = ((hcx l k).2, (hcx l k).1) := by
  show (match k / (2 ^ l * 2 ^ l) % 4 with | 0 => _ | 1 => _ | 2 => _ | _ => _) = _
  rw [h]
  rfl
theorem hcx_1 {l k : Nat} (h : k / (2 ^ l * 2 ^ l) % 4 = 1) : hcx (l + 1) k = ((hcx l k).1, (hcx l k).2 + 2 ^ l) := by
  show (match k / (2 ^ l * 2 ^ l) % 4 with | 0 => _ | 1 => _ | 2 => _ | _ => _) = _
  rw [h]
  rfl
theorem hcx_2 {l k : Nat} (h : k / (2 ^ l * 2 ^ l) % 4 = 2) : hcx (l + 1) k = ((hcx l k).1 + 2 ^ l, (hcx l k).2 + 2 ^ l) := by
  show (match k / (2 ^ l * 2 ^ l) % 4 with | 0 => _ | 1 => _ | 2 => _ | _ => _) = _
  rw [h]
  rfl
theorem hcx_3 {l k : Nat} (h : k / (2 ^ l * 2 ^ l) % 4 = 3) : hcx (l + 1) k = (2 * 2 ^ l - 1 - (hcx l k).2, 2 ^ l - 1 - (hcx l k).1) := by
  show (match k / (2 ^ l * 2 ^ l) % 4 with | 0 => _ | 1 => _ | 2 => _ | _ => _) = _
  rw [h]
  rfl
theorem hcx_hk (l : Nat) : ∀ a b, a < 2 ^ l → b < 2 ^ l → hcx l (hk l a b) = (a, b) := by
  induction l with
  | zero =>
    intro a b ha hb
    rw [Nat.pow_zero] at ha hb
    obtain rfl : a = 0 := by omega
    obtain rfl : b = 0 := by omega
    rfl
  | succ l ih =>
    intro a b ha hb
    rw [p2_s] at ha hb
    rcases Nat.lt_or_ge a (2 ^ l) with h1 | h1 <;> rcases Nat.lt_or_ge b (2 ^ l) with h2 | h2
    · rw [hk_00 h1 h2]
      have hl := hk_lt l b a h2 h1
      have hd := dg_of (l := l) (q := 0) (r := hk l b a) (by omega) hl
      rw [Nat.zero_mul, Nat.zero_add] at hd
      rw [hcx_0 hd, ih b a h2 h1]
    · rw [hk_01 h1 h2]
      have hl := hk_lt l a (b - 2 ^ l) h1 (by omega)
      have hd := dg_of (l := l) (q := 1) (by omega) hl
      have ha := hcx_add l 1 (hk l a (b - 2 ^ l))
      rw [Nat.one_mul] at hd ha
      rw [hcx_1 hd, ha, ih a (b - 2 ^ l) h1 (by omega)]
      show (a, b - 2 ^ l + 2 ^ l) = (a, b)
      rw [Nat.sub_add_cancel h2]
    · rw [hk_10 h1 h2]
      have hl := hk_lt l (2 ^ l - 1 - b) (2 * 2 ^ l - 1 - a) (by omega) (by omega)
      have hd := dg_of (l := l) (q := 3) (by omega) hl
      have ha := hcx_add l 3 (hk l (2 ^ l - 1 - b) (2 * 2 ^ l - 1 - a))
      rw [hcx_3 hd, ha, ih _ _ (by omega) (by omega)]
      show (2 * 2 ^ l - 1 - (2 * 2 ^ l - 1 - a), 2 ^ l - 1 - (2 ^ l - 1 - b)) = (a, b)
      congr 1 <;> omega
    · rw [hk_11 h1 h2]
      have hl := hk_lt l (a - 2 ^ l) (b - 2 ^ l) (by omega) (by omega)
      have hd := dg_of (l := l) (q := 2) (by omega) hl
      have ha := hcx_add l 2 (hk l (a - 2 ^ l) (b - 2 ^ l))
      rw [hcx_2 hd, ha, ih _ _ (by omega) (by omega)]
      show (a - 2 ^ l + 2 ^ l, b - 2 ^ l + 2 ^ l) = (a, b)
      rw [Nat.sub_add_cancel h1, Nat.sub_add_cancel h2]
theorem md4_s (k l : Nat) : k % (2 ^ (l + 1) * 2 ^ (l + 1)) = k % (2 ^ l * 2 ^ l) + (k / (2 ^ l * 2 ^ l) % 4) * (2 ^ l * 2 ^ l) := by
  rw [p4_s, Nat.mul_comm 4, Nat.mod_mul, Nat.mul_comm (2 ^ l * 2 ^ l) (k / (2 ^ l * 2 ^ l) % 4)]
theorem hk_hcx (l : Nat) : ∀ k, hk l (hcx l k).1 (hcx l k).2 = k % (2 ^ l * 2 ^ l) := by
  induction l with
  | zero => intro k; show 0 = k % (1 * 1); omega
  | succ l ih =>
    intro k
    rw [md4_s]
    obtain ⟨h1, h2⟩ := hcx_lt l k
    have h0 := ih k
    have hq : k / (2 ^ l * 2 ^ l) % 4 = 0 ∨ k / (2 ^ l * 2 ^ l) % 4 = 1 ∨ k / (2 ^ l * 2 ^ l) % 4 = 2 ∨ k / (2 ^ l * 2 ^ l) % 4 = 3 := by omega
    rcases hq with h | h | h | h
    · rw [hcx_0 h, h]
      dsimp only
      rw [hk_00 h2 h1, h0]
      omega
    · rw [hcx_1 h, h]
      dsimp only
      rw [hk_01 h1 (by omega), Nat.add_sub_cancel, h0]
      omega
    · rw [hcx_2 h, h]
      dsimp only
      rw [hk_11 (by omega) (by omega), Nat.add_sub_cancel, Nat.add_sub_cancel, h0]
      omega
    · rw [hcx_3 h, h]
      dsimp only
      rw [hk_10 (by omega) (by omega), show 2 ^ l - 1 - (2 ^ l - 1 - (hcx l k).1) = (hcx l k).1 by omega, show 2 * 2 ^ l - 1 - (2 * 2 ^ l - 1 - (hcx l k).2) = (hcx l k).2 by omega, h0]
      omega
theorem wk_hi (l : Nat) : ∀ x y b c, wk l (x + 2 ^ l * b) (y + 2 ^ l * c) = wk l x y := by
  induction l with
  | zero => intro x y b c; rfl
  | succ l ih =>
    intro x y b c
    have ex : ∀ z d, z + 2 ^ (l + 1) * d = z + 2 ^ l * (2 * d) := by
      intro z d
      rw [p2_s, Nat.mul_comm 2 (2 ^ l), Nat.mul_assoc]
    have ed : ∀ z d, (z + 2 ^ l * (2 * d)) / 2 ^ l % 2 = z / 2 ^ l % 2 := by
      intro z d
      rw [Nat.add_mul_div_left _ _ (Nat.two_pow_pos l)]
      omega
    show (_ / 2 ^ l % 2 + 2 * (_ / 2 ^ l % 2)) * (2 ^ l * 2 ^ l) + wk l _ _ = (x / 2 ^ l % 2 + 2 * (y / 2 ^ l % 2)) * (2 ^ l * 2 ^ l) + wk l x y
    rw [ex, ex, ed, ed, ih]
theorem bit_of {l z b : Nat} (hz : z < 2 ^ l) (hb : b < 2) : (z + 2 ^ l * b) / 2 ^ l % 2 = b := by
  rw [Nat.add_mul_div_left _ _ (Nat.two_pow_pos l), Nat.div_eq_of_lt hz]
  omega
theorem wk_wcx (l : Nat) : ∀ k, wk l (wcx l k).1 (wcx l k).2 = k % (2 ^ l * 2 ^ l) := by
  induction l with
  | zero => intro k; show 0 = k % (1 * 1); omega
  | succ l ih =>
    intro k
    rw [md4_s]
    obtain ⟨h1, h2⟩ := wcx_lt l k
    show ((_ + 2 ^ l * (k / (2 ^ l * 2 ^ l) % 4 % 2)) / 2 ^ l % 2 + 2 * ((_ + 2 ^ l * (k / (2 ^ l * 2 ^ l) % 4 / 2)) / 2 ^ l % 2)) * (2 ^ l * 2 ^ l) + wk l (_ + 2 ^ l * _) (_ + 2 ^ l * _) = _
    rw [bit_of h1 (by omega), bit_of h2 (by omega), wk_hi, ih, Nat.add_comm]
    congr 2
    omega
theorem wcx_wk (l : Nat) : ∀ x y, x < 2 ^ l → y < 2 ^ l → wcx l (wk l x y) = (x, y) := by
  have gen : ∀ x y, wcx l (wk l x y) = (x % 2 ^ l, y % 2 ^ l) := by
    induction l with
    | zero => intro x y; show (0, 0) = (x % 1, y % 1); rw [Nat.mod_one, Nat.mod_one]
    | succ l ih =>
      intro x y
      have h2 : x / 2 ^ l % 2 < 2 := Nat.mod_lt _ (by omega)
      have h3 : y / 2 ^ l % 2 < 2 := Nat.mod_lt _ (by omega)
      have hd := dg_of (l := l) (q := x / 2 ^ l % 2 + 2 * (y / 2 ^ l % 2)) (by omega) (wk_lt l x y)
      show ((wcx l ((x / 2 ^ l % 2 + 2 * (y / 2 ^ l % 2)) * (2 ^ l * 2 ^ l) + wk l x y)).1 + 2 ^ l * (((x / 2 ^ l % 2 + 2 * (y / 2 ^ l % 2)) * (2 ^ l * 2 ^ l) + wk l x y) / (2 ^ l * 2 ^ l) % 4 % 2), (wcx l ((x / 2 ^ l % 2 + 2 * (y / 2 ^ l % 2)) * (2 ^ l * 2 ^ l) + wk l x y)).2 + 2 ^ l * (((x / 2 ^ l % 2 + 2 * (y / 2 ^ l % 2)) * (2 ^ l * 2 ^ l) + wk l x y) / (2 ^ l * 2 ^ l) % 4 / 2)) = _
      rw [hd, wcx_add, ih, md_s, md_s]
      dsimp only
      congr 2
      · congr 1; omega
      · congr 1; omega
  intro x y hx hy
  rw [gen, Nat.mod_eq_of_lt hx, Nat.mod_eq_of_lt hy]
/-- the cell of a key, in a square where the curve lies as the state says -/
def cs (st l k : Nat) : Nat × Nat := if st = 4 then wcx l k else (tx st (2 ^ l) (hcx l k).1 (hcx l k).2, ty st (2 ^ l) (hcx l k).1 (hcx l k).2)
theorem cs_lt {st l k : Nat} : (cs st l k).1 < 2 ^ l ∧ (cs st l k).2 < 2 ^ l := by
  obtain ⟨h1, h2⟩ := hcx_lt l k
  unfold cs
  split
  · exact wcx_lt l k
  · dsimp only
    unfold tx ty
    split <;> omega
theorem cs_step {st l k : Nat} (hst : st < 5) : cs st (l + 1) k = (2 ^ l * (tQS (4 * st + k / (2 ^ l * 2 ^ l) % 4) / 2) + (cs (tSS (4 * st + k / (2 ^ l * 2 ^ l) % 4)) l k).1, 2 ^ l * (tQS (4 * st + k / (2 ^ l * 2 ^ l) % 4) % 2) + (cs (tSS (4 * st + k / (2 ^ l * 2 ^ l) % 4)) l k).2) := by
  obtain ⟨h1, h2⟩ := hcx_lt l k
  have hq : k / (2 ^ l * 2 ^ l) % 4 = 0 ∨ k / (2 ^ l * 2 ^ l) % 4 = 1 ∨ k / (2 ^ l * 2 ^ l) % 4 = 2 ∨ k / (2 ^ l * 2 ^ l) % 4 = 3 := by omega
  have e1 : st = 4 ∨ st = 0 ∨ st = 1 ∨ st = 2 ∨ st = 3 := by omega
  rcases e1 with rfl | e1
  · have hw : wcx (l + 1) k = ((wcx l k).1 + 2 ^ l * (k / (2 ^ l * 2 ^ l) % 4 % 2), (wcx l k).2 + 2 ^ l * (k / (2 ^ l * 2 ^ l) % 4 / 2)) := rfl
    have c4 : ∀ n, cs 4 n k = wcx n k := fun n => rfl
    rw [c4, hw]
    rcases hq with h | h | h | h <;> rw [h] <;> simp only [tQS, tSS, List.getD_cons_zero, List.getD_cons_succ, Nat.reduceAdd, Nat.reduceMul, Nat.reduceDiv, Nat.reduceMod, c4] <;> congr 1 <;> omega
  · have hn : ∀ a n, a < 4 → cs a n k = (tx a (2 ^ n) (hcx n k).1 (hcx n k).2, ty a (2 ^ n) (hcx n k).1 (hcx n k).2) := fun a n ha => by unfold cs; rw [if_neg (by omega)]
    rw [hn st (l + 1) (by omega), hn (tSS (4 * st + k / (2 ^ l * 2 ^ l) % 4)) l (tSS_lt4 _ (by omega)), p2_s]
    rcases hq with h | h | h | h
    · rw [hcx_0 h, h]
      rcases e1 with rfl | rfl | rfl | rfl <;> simp only [tx, ty, tQS, tSS, List.getD_cons_zero, List.getD_cons_succ, Nat.reduceAdd, Nat.reduceMul, Nat.reduceDiv, Nat.reduceMod, Nat.mul_zero, Nat.mul_one, Nat.zero_add, Nat.add_zero] <;> congr 1 <;> omega
    · rw [hcx_1 h, h]
      rcases e1 with rfl | rfl | rfl | rfl <;> simp only [tx, ty, tQS, tSS, List.getD_cons_zero, List.getD_cons_succ, Nat.reduceAdd, Nat.reduceMul, Nat.reduceDiv, Nat.reduceMod, Nat.mul_zero, Nat.mul_one, Nat.zero_add, Nat.add_zero] <;> congr 1 <;> omega
    · rw [hcx_2 h, h]
      rcases e1 with rfl | rfl | rfl | rfl <;> simp only [tx, ty, tQS, tSS, List.getD_cons_zero, List.getD_cons_succ, Nat.reduceAdd, Nat.reduceMul, Nat.reduceDiv, Nat.reduceMod, Nat.mul_zero, Nat.mul_one, Nat.zero_add, Nat.add_zero] <;> congr 1 <;> omega
    · rw [hcx_3 h, h]
      rcases e1 with rfl | rfl | rfl | rfl <;> simp only [tx, ty, tQS, tSS, List.getD_cons_zero, List.getD_cons_succ, Nat.reduceAdd, Nat.reduceMul, Nat.reduceDiv, Nat.reduceMod, Nat.mul_zero, Nat.mul_one, Nat.zero_add, Nat.add_zero] <;> congr 1 <;> omega
/-- the class's walk to a cell -/
def cw (l st x y k : Nat) : Nat × Nat := match l with
  | 0 => (x, y)
  | l + 1 => cw l (tSS (4 * st + k / (2 ^ l * 2 ^ l) % 4)) (2 * x + tQS (4 * st + k / (2 ^ l * 2 ^ l) % 4) / 2) (2 * y + tQS (4 * st + k / (2 ^ l * 2 ^ l) % 4) % 2) k
theorem cw_eq (l : Nat) : ∀ st x y k, st < 5 → cw l st x y k = (2 ^ l * x + (cs st l k).1, 2 ^ l * y + (cs st l k).2) := by
  induction l with
  | zero =>
    intro st x y k _
    obtain ⟨h1, h2⟩ := cs_lt (st := st) (l := 0) (k := k)
    rw [Nat.pow_zero] at h1 h2
    show (x, y) = (1 * x + _, 1 * y + _)
    congr 1 <;> omega
  | succ l ih =>
    intro st x y k hst
    show cw l _ _ _ k = _
    rw [ih _ _ _ _ (tSS_lt _ (by omega)), cs_step hst, p2_s]
    generalize tQS (4 * st + k / (2 ^ l * 2 ^ l) % 4) / 2 = a
    generalize tQS (4 * st + k / (2 ^ l * 2 ^ l) % 4) % 2 = b
    dsimp only
    rw [Nat.mul_add, Nat.mul_add, ← Nat.mul_assoc, ← Nat.mul_assoc, Nat.mul_comm (2 ^ l) 2, Nat.add_assoc, Nat.add_assoc]
/-- the cell of a key by a curve -/
def kc (cu N k : Nat) : Nat × Nat := if cu = 0 then wcx N k else hcx N k
theorem cs_kc {cu N k : Nat} (hcu : cu < 2) : cs (st0 cu) N k = kc cu N k := by
  have e : cu = 0 ∨ cu = 1 := by omega
  rcases e with rfl | rfl <;> rfl
theorem kc_lt {cu N k : Nat} : (kc cu N k).1 < 2 ^ N ∧ (kc cu N k).2 < 2 ^ N := by
  unfold kc
  split
  · exact wcx_lt N k
  · exact hcx_lt N k
theorem kc_kk {cu N x y : Nat} (hx : x < 2 ^ N) (hy : y < 2 ^ N) : kc cu N (kk cu N x y) = (x, y) := by
  unfold kc kk
  split
  · exact wcx_wk _ _ _ hx hy
  · exact hcx_hk _ _ _ hx hy
theorem kk_kc {cu N k : Nat} (hk : k < 2 ^ N * 2 ^ N) : kk cu N (kc cu N k).1 (kc cu N k).2 = k := by
  unfold kc kk
  split
  · rw [wk_wcx, Nat.mod_eq_of_lt hk]
  · rw [hk_hcx, Nat.mod_eq_of_lt hk]
theorem kk_inj {cu N x y x' y' : Nat} (hx : x < 2 ^ N) (hy : y < 2 ^ N) (hx' : x' < 2 ^ N) (hy' : y' < 2 ^ N) (h : kk cu N x y = kk cu N x' y') : x = x' ∧ y = y' := by
  have a := kc_kk (cu := cu) hx hy
  rw [h, kc_kk hx' hy'] at a
  exact ⟨(Prod.mk.inj a).1.symm, (Prod.mk.inj a).2.symm⟩
/-- the key of a cell's number -/
def ke (cu N c : Nat) : Nat := kk cu N (c / 2 ^ N) (c % 2 ^ N)
theorem cl_of {N c : Nat} (hc : c < 2 ^ N * 2 ^ N) : c / 2 ^ N < 2 ^ N ∧ c % 2 ^ N < 2 ^ N := ⟨Nat.div_lt_of_lt_mul hc, Nat.mod_lt _ (Nat.two_pow_pos N)⟩
theorem cl_mk {N x y : Nat} (hx : x < 2 ^ N) (hy : y < 2 ^ N) : x * 2 ^ N + y < 2 ^ N * 2 ^ N ∧ (x * 2 ^ N + y) / 2 ^ N = x ∧ (x * 2 ^ N + y) % 2 ^ N = y := by
  refine ⟨?_, ?_, ?_⟩
  · have : (x + 1) * 2 ^ N ≤ 2 ^ N * 2 ^ N := Nat.mul_le_mul_right _ hx
    rw [Nat.add_mul] at this
    omega
  · rw [Nat.add_comm, Nat.add_mul_div_right _ _ (Nat.two_pow_pos N), Nat.div_eq_of_lt hy, Nat.zero_add]
  · rw [Nat.add_comm, Nat.add_mul_mod_self_right, Nat.mod_eq_of_lt hy]
theorem ke_lt {cu N c : Nat} (hc : c < 2 ^ N * 2 ^ N) : ke cu N c < 2 ^ N * 2 ^ N := kk_lt (cl_of hc).1 (cl_of hc).2
theorem ke_inj {cu N c c' : Nat} (hc : c < 2 ^ N * 2 ^ N) (hc' : c' < 2 ^ N * 2 ^ N) (h : ke cu N c = ke cu N c') : c = c' := by
  obtain ⟨a, b⟩ := kk_inj (cl_of hc).1 (cl_of hc).2 (cl_of hc').1 (cl_of hc').2 h
  rw [← Nat.div_add_mod c (2 ^ N), a, b, Nat.div_add_mod]
theorem ke_mk {cu N x y : Nat} (hx : x < 2 ^ N) (hy : y < 2 ^ N) : ke cu N (x * 2 ^ N + y) = kk cu N x y := by
  obtain ⟨-, a, b⟩ := cl_mk hx hy
  unfold ke
  rw [a, b]
end
section
/-! runs: a walk along the keys of a window. A state: how many runs, where the last one ends (one behind its last key), the wanted one's first key and last key, each one more, 0 when there is none -/
abbrev rw_S : Type := Nat × Nat × Nat × Nat
def rw_j (w : Int32) (a b : Nat) (u : rw_S) : rw_S :=
  if u.1 = 0 ∨ a ≠ u.2.1 then (u.1 + 1, b, if nI u.1 = w then a + 1 else u.2.2.1, if nI u.1 = w then b else u.2.2.2)
  else (u.1, b, u.2.2.1, if nI (u.1 - 1) = w then b else u.2.2.2)
theorem rw_j_new {w : Int32} {a b : Nat} {u : rw_S} (h : u.1 = 0 ∨ a ≠ u.2.1) : rw_j w a b u = (u.1 + 1, b, if nI u.1 = w then a + 1 else u.2.2.1, if nI u.1 = w then b else u.2.2.2) := by
  unfold rw_j; rw [if_pos h]
theorem rw_j_old {w : Int32} {a b : Nat} {u : rw_S} (h0 : u.1 ≠ 0) (h : a = u.2.1) : rw_j w a b u = (u.1, b, u.2.2.1, if nI (u.1 - 1) = w then b else u.2.2.2) := by
  unfold rw_j; rw [if_neg (fun q => q.elim h0 (fun z => z h))]
/-- two joins side by side are one -/
theorem rw_j_j {w : Int32} {a b c : Nat} {u : rw_S} : rw_j w b c (rw_j w a b u) = rw_j w a c u := by
  by_cases h : u.1 = 0 ∨ a ≠ u.2.1
  · rw [rw_j_new h, rw_j_new h, rw_j_old (u := (u.1 + 1, b, if nI u.1 = w then a + 1 else u.2.2.1, if nI u.1 = w then b else u.2.2.2)) (Nat.succ_ne_zero _) rfl]
    dsimp only
    rw [Nat.add_sub_cancel]
    split <;> rfl
  · have h0 : u.1 ≠ 0 := fun q => h (Or.inl q)
    have h1 : a = u.2.1 := Classical.byContradiction (fun q => h (Or.inr q))
    rw [rw_j_old h0 h1, rw_j_old h0 h1, rw_j_old (u := (u.1, b, u.2.2.1, if nI (u.1 - 1) = w then b else u.2.2.2)) h0 rfl]
    dsimp only
    split <;> rfl
/-- all keys below k -/
def rw_k (w : Int32) (M : Nat → Bool) (k : Nat) : rw_S := match k with
  | 0 => (0, 0, 0, 0)
  | k + 1 => if M k then rw_j w k (k + 1) (rw_k w M k) else rw_k w M k
theorem rw_k_no {w : Int32} {M : Nat → Bool} {a : Nat} : ∀ n, (∀ j, a ≤ j → j < a + n → M j = false) → rw_k w M (a + n) = rw_k w M a
  | 0, _ => rfl
  | n + 1, h => by
    show (if M (a + n) then _ else rw_k w M (a + n)) = _
    rw [h (a + n) (by omega) (by omega)]
    exact rw_k_no n (fun j h1 h2 => h j h1 (by omega))
theorem rw_k_all {w : Int32} {M : Nat → Bool} {a : Nat} : ∀ n, (∀ j, a ≤ j → j < a + (n + 1) → M j = true) → rw_k w M (a + (n + 1)) = rw_j w a (a + (n + 1)) (rw_k w M a)
  | 0, h => by
    show (if M a then _ else _) = _
    rw [h a (by omega) (by omega)]
    rfl
  | n + 1, h => by
    show (if M (a + (n + 1)) then rw_j w (a + (n + 1)) (a + (n + 1) + 1) (rw_k w M (a + (n + 1))) else _) = _
    rw [h (a + (n + 1)) (by omega) (by omega), rw_k_all n (fun j h1 h2 => h j h1 (by omega))]
    exact rw_j_j
/-- the keys of a row, one after the other -/
def rw_a (w : Int32) (a : Nat → Nat) (j : Nat) : rw_S := match j with
  | 0 => (0, 0, 0, 0)
  | j + 1 => rw_j w (a j) (a j + 1) (rw_a w a j)
theorem rw_ka {w : Int32} {M : Nat → Bool} {a : Nat → Nat} {m E : Nat} (hs : ∀ i j, i < j → j < m → a i < a j) (hM : ∀ k, k < E → (M k = true ↔ ∃ i, i < m ∧ a i = k)) (hE : ∀ i, i < m → a i < E) : rw_k w M E = rw_a w a m := by
  have gen : ∀ K, K ≤ E → ∃ j, j ≤ m ∧ (∀ i, i < m → (a i < K ↔ i < j)) ∧ rw_k w M K = rw_a w a j := by
    intro K
    induction K with
    | zero => intro _; exact ⟨0, by omega, fun i hi => by omega, rfl⟩
    | succ K ih =>
      intro hK
      obtain ⟨j, hj, hlt, he⟩ := ih (by omega)
      by_cases hm : M K = true
      · obtain ⟨i, hi, hai⟩ := (hM K (by omega)).1 hm
        have hij : j ≤ i := by
          have := hlt i hi
          omega
        have haj : a j = K := by
          rcases Nat.lt_or_ge j i with h | h
          · have h1 := hs j i h hi
            have h2 := hlt j (by omega)
            omega
          · have : i = j := by omega
            subst this
            exact hai
        refine ⟨j + 1, by omega, fun x hx => ?_, ?_⟩
        · have h1 := hlt x hx
          rcases Nat.lt_trichotomy x j with h | h | h
          · omega
          · subst h; omega
          · have := hs j x h hx
            omega
        · show (if M K then _ else _) = rw_j w (a j) (a j + 1) (rw_a w a j)
          rw [hm, if_pos rfl, he, haj]
      · refine ⟨j, hj, fun x hx => ?_, ?_⟩
        · have h1 := hlt x hx
          have : a x ≠ K := fun q => hm ((hM K (by omega)).2 ⟨x, hx, q⟩)
          omega
        · show (if M K then _ else rw_k w M K) = _
          rw [if_neg hm, he]
  obtain ⟨j, hj, hlt, he⟩ := gen E (Nat.le_refl _)
  have : j = m := by
    rcases Nat.lt_or_ge j m with h | h
    · have := (hlt j h).1 (hE j h)
      omega
    · omega
  rw [he, this]
/-- the reference's words: a run begins at j -/
def rw_b (a : Nat → Nat) (j : Nat) : Prop := j = 0 ∨ a (j - 1) + 1 < a j
theorem rw_a_e {w : Int32} {a : Nat → Nat} (j : Nat) : (rw_a w a (j + 1)).2.1 = a j + 1 := by
  show (rw_j w (a j) (a j + 1) (rw_a w a j)).2.1 = _
  unfold rw_j
  split <;> rfl
theorem rw_a_pos {w : Int32} {a : Nat → Nat} (j : Nat) : (rw_a w a (j + 1)).1 ≠ 0 := by
  show (rw_j w (a j) (a j + 1) (rw_a w a j)).1 ≠ 0
  unfold rw_j
  split
  · exact Nat.succ_ne_zero _
  · rename_i h
    exact fun q => h (Or.inl q)
theorem rw_a_new {w : Int32} {a : Nat → Nat} {j m : Nat} (hs : ∀ i j, i < j → j < m → a i < a j) (hj : j < m) (h : rw_b a j) : rw_a w a (j + 1) = ((rw_a w a j).1 + 1, a j + 1, if nI (rw_a w a j).1 = w then a j + 1 else (rw_a w a j).2.2.1, if nI (rw_a w a j).1 = w then a j + 1 else (rw_a w a j).2.2.2) := by
  refine rw_j_new ?_
  cases j with
  | zero => exact Or.inl rfl
  | succ j =>
    right
    rw [rw_a_e]
    rcases h with h | h
    · omega
    · rw [Nat.add_sub_cancel] at h
      omega
theorem rw_a_old {w : Int32} {a : Nat → Nat} {j m : Nat} (hs : ∀ i j, i < j → j < m → a i < a j) (hj : j < m) (h : ¬ rw_b a j) : j ≠ 0 ∧ rw_a w a (j + 1) = ((rw_a w a j).1, a j + 1, (rw_a w a j).2.2.1, if nI ((rw_a w a j).1 - 1) = w then a j + 1 else (rw_a w a j).2.2.2) := by
  cases j with
  | zero => exact absurd (Or.inl rfl) h
  | succ j =>
    refine ⟨by omega, rw_j_old (rw_a_pos j) ?_⟩
    rw [rw_a_e]
    have h1 := hs j (j + 1) (by omega) hj
    have h2 : ¬ a j + 1 < a (j + 1) := fun q => h (Or.inr q)
    omega
theorem rw_a_le {w : Int32} {a : Nat → Nat} (j : Nat) : (rw_a w a j).1 ≤ j := by
  induction j with
  | zero => exact Nat.le_refl _
  | succ j ih =>
    show (rw_j w (a j) (a j + 1) (rw_a w a j)).1 ≤ _
    unfold rw_j
    split
    · show (rw_a w a j).1 + 1 ≤ _
      omega
    · show (rw_a w a j).1 ≤ _
      omega
theorem rw_a_mono {w : Int32} {a : Nat → Nat} (j : Nat) : ∀ n, (rw_a w a j).1 ≤ (rw_a w a (j + n)).1
  | 0 => Nat.le_refl _
  | n + 1 => by
    refine Nat.le_trans (rw_a_mono j n) ?_
    show _ ≤ (rw_j w (a (j + n)) (a (j + n) + 1) (rw_a w a (j + n))).1
    unfold rw_j
    split
    · exact Nat.le_succ _
    · exact Nat.le_refl _
/-- behind the wanted run nothing of it changes any more: the first key -/
theorem rw_a_f {i : Nat} {a : Nat → Nat} {j : Nat} (hi : i < 2147483648) (hc : i < (rw_a (nI i) a j).1) : ∀ n, j + n < 2 ^ 30 → (rw_a (nI i) a (j + n)).2.2.1 = (rw_a (nI i) a j).2.2.1
  | 0, _ => rfl
  | n + 1, h => by
    rw [← rw_a_f hi hc n (by omega)]
    have h1 := rw_a_mono (w := nI i) (a := a) j n
    have h2 := rw_a_le (w := nI i) (a := a) (j + n)
    show (rw_j (nI i) (a (j + n)) (a (j + n) + 1) (rw_a (nI i) a (j + n))).2.2.1 = _
    unfold rw_j
    split
    · dsimp only
      rw [if_neg]
      rw [nI_eq (by omega) (by omega)]
      omega
    · rfl
/-- the last key -/
theorem rw_a_l {i : Nat} {a : Nat → Nat} {j : Nat} (hi : i < 2147483648) (hc : i + 1 < (rw_a (nI i) a j).1) : ∀ n, j + n < 2 ^ 30 → (rw_a (nI i) a (j + n)).2.2.2 = (rw_a (nI i) a j).2.2.2
  | 0, _ => rfl
  | n + 1, h => by
    rw [← rw_a_l hi hc n (by omega)]
    have h1 := rw_a_mono (w := nI i) (a := a) j n
    have h2 := rw_a_le (w := nI i) (a := a) (j + n)
    show (rw_j (nI i) (a (j + n)) (a (j + n) + 1) (rw_a (nI i) a (j + n))).2.2.2 = _
    unfold rw_j
    split
    · dsimp only
      rw [if_neg]
      rw [nI_eq (by omega) (by omega)]
      omega
    · dsimp only
      rw [if_neg]
      rw [nI_eq (by omega) (by omega)]
      omega
/-- before the wanted run there is none -/
theorem rw_a_n {i : Nat} {a : Nat → Nat} (hi : i < 2147483648) : ∀ j, j < 2 ^ 30 → (rw_a (nI i) a j).1 ≤ i → (rw_a (nI i) a j).2.2.1 = 0 ∧ (rw_a (nI i) a j).2.2.2 = 0
  | 0, _, _ => ⟨rfl, rfl⟩
  | j + 1, hj, hc => by
    have h1 := rw_a_mono (w := nI i) (a := a) j 1
    have h2 := rw_a_le (w := nI i) (a := a) j
    obtain ⟨g1, g2⟩ := rw_a_n (a := a) hi j (by omega) (by omega)
    have hc : (rw_j (nI i) (a j) (a j + 1) (rw_a (nI i) a j)).1 ≤ i := hc
    show (rw_j (nI i) (a j) (a j + 1) (rw_a (nI i) a j)).2.2.1 = 0 ∧ (rw_j (nI i) (a j) (a j + 1) (rw_a (nI i) a j)).2.2.2 = 0
    unfold rw_j at hc ⊢
    split
    · rename_i hs
      rw [if_pos hs] at hc
      dsimp only at hc ⊢
      have hne : ¬ nI (rw_a (nI i) a j).1 = nI i := by
        rw [nI_eq (by omega) (by omega)]
        omega
      rw [if_neg hne, if_neg hne]
      exact ⟨g1, g2⟩
    · rename_i hs
      rw [if_neg hs] at hc
      dsimp only at hc ⊢
      have h0 : (rw_a (nI i) a j).1 ≠ 0 := fun q => hs (Or.inl q)
      have hne : ¬ nI ((rw_a (nI i) a j).1 - 1) = nI i := by
        rw [nI_eq (by omega) (by omega)]
        omega
      rw [if_neg hne]
      exact ⟨g1, g2⟩
/-- a number that may be wanting: 0 is NONE, f + 1 is f -/
def oI (n : Nat) : Int32 := match n with
  | 0 => -1
  | n + 1 => nI n
theorem oI_inc (n : Nat) : oI n + 1 = nI n := by
  cases n with
  | zero => rfl
  | succ n => exact (nI_succ n).symm
theorem oI_dec (n : Nat) : nI n + (-1) = oI n := by
  cases n with
  | zero => rfl
  | succ n => exact pk_m1 n
end
section
/-! the reference's sort, as numbers: merging two sorted stretches; passes; what comes out -/
def mg (K o : Nat → Nat) (f mid e a b k : Nat) : Prop :=
  (f ≤ a ∧ a ≤ mid ∧ mid ≤ b ∧ b ≤ e ∧ k + mid = a + b) ∧
  (∀ p q, f ≤ p → p < q → q < k → o p ≤ o q) ∧
  (∀ p q, f ≤ p → p < k → a ≤ q → q < mid → o p ≤ K q) ∧
  (∀ p q, f ≤ p → p < k → b ≤ q → q < e → o p ≤ K q) ∧
  (∀ g : Nat → Nat, sg k (fun i => g (o i)) + sg f (fun i => g (K i)) + sg mid (fun i => g (K i)) = sg f (fun i => g (o i)) + sg a (fun i => g (K i)) + sg b (fun i => g (K i)))
theorem mg_0 {K o : Nat → Nat} {f mid e : Nat} (h1 : f ≤ mid) (h2 : mid ≤ e) : mg K o f mid e f mid f :=
  ⟨⟨by omega, by omega, by omega, by omega, rfl⟩, fun p q _ _ _ => by omega, fun p q _ _ _ _ => by omega, fun p q _ _ _ _ => by omega, fun g => rfl⟩
theorem sg_up_lt {o : Nat → Nat} {k v n : Nat} (h : n ≤ k) (g : Nat → Nat) : sg n (fun i => g (va_up o k v i)) = sg n (fun i => g (o i)) := sg_congr (fun i hi => by rw [up_ne (by omega)])
theorem mg_a {K o : Nat → Nat} {f mid e a b k : Nat} (h : mg K o f mid e a b k) (hs1 : ∀ p q, f ≤ p → p < q → q < mid → K p ≤ K q) (hs2 : ∀ p q, mid ≤ p → p < q → q < e → K p ≤ K q) (ha : a < mid) (hab : b = e ∨ K a ≤ K b) : mg K (va_up o k (K a)) f mid e (a + 1) b (k + 1) := by
  obtain ⟨⟨i1, i2, i3, i4, i5⟩, h1, h2, h3, h4⟩ := h
  refine ⟨⟨by omega, by omega, by omega, by omega, by omega⟩, fun p q hp hpq hq => ?_, fun p q hp hpk haq hq => ?_, fun p q hp hpk hbq hq => ?_, fun g => ?_⟩
  · by_cases e1 : q = k
    · subst e1
      rw [va_up_self, up_ne (by omega)]
      exact h2 p a hp hpq (by omega) ha
    · rw [up_ne (by omega), up_ne (by omega)]
      exact h1 p q hp hpq (by omega)
  · by_cases e1 : p = k
    · subst e1
      rw [va_up_self]
      exact hs1 a q i1 (by omega) hq
    · rw [up_ne (by omega)]
      exact h2 p q hp (by omega) (by omega) hq
  · by_cases e1 : p = k
    · subst e1
      rw [va_up_self]
      rcases hab with hab | hab
      · omega
      · by_cases e2 : q = b
        · subst e2; exact hab
        · exact Nat.le_trans hab (hs2 b q i3 (by omega) hq)
    · rw [up_ne (by omega)]
      exact h3 p q hp (by omega) (by omega) hq
  · have := h4 g
    rw [sg_s, sg_s, sg_up_lt (Nat.le_refl k), sg_up_lt (by omega : f ≤ k)]
    try dsimp only
    rw [va_up_self]
    omega
theorem mg_b {K o : Nat → Nat} {f mid e a b k : Nat} (h : mg K o f mid e a b k) (hs1 : ∀ p q, f ≤ p → p < q → q < mid → K p ≤ K q) (hs2 : ∀ p q, mid ≤ p → p < q → q < e → K p ≤ K q) (hb : b < e) (hab : a = mid ∨ K b ≤ K a) : mg K (va_up o k (K b)) f mid e a (b + 1) (k + 1) := by
  obtain ⟨⟨i1, i2, i3, i4, i5⟩, h1, h2, h3, h4⟩ := h
  refine ⟨⟨by omega, by omega, by omega, by omega, by omega⟩, fun p q hp hpq hq => ?_, fun p q hp hpk haq hq => ?_, fun p q hp hpk hbq hq => ?_, fun g => ?_⟩
  · by_cases e1 : q = k
    · subst e1
      rw [va_up_self, up_ne (by omega)]
      exact h3 p b hp hpq (by omega) hb
    · rw [up_ne (by omega), up_ne (by omega)]
      exact h1 p q hp hpq (by omega)
  · by_cases e1 : p = k
    · subst e1
      rw [va_up_self]
      rcases hab with hab | hab
      · omega
      · by_cases e2 : q = a
        · subst e2; exact hab
        · exact Nat.le_trans hab (hs1 a q i1 (by omega) hq)
    · rw [up_ne (by omega)]
      exact h2 p q hp (by omega) (by omega) hq
  · by_cases e1 : p = k
    · subst e1
      rw [va_up_self]
      exact hs2 b q i3 (by omega) hq
    · rw [up_ne (by omega)]
      exact h3 p q hp (by omega) (by omega) hq
  · have := h4 g
    rw [sg_s, sg_s, sg_up_lt (Nat.le_refl k), sg_up_lt (by omega : f ≤ k)]
    try dsimp only
    rw [va_up_self]
    omega
/-- sorted in blocks of w -/
def bs (w n : Nat) (K : Nat → Nat) : Prop := ∀ p q, p < q → q < n → p / w = q / w → K p ≤ K q
/-- the same numbers, up to n -/
def eqs (n : Nat) (K o : Nat → Nat) : Prop := ∀ g : Nat → Nat, sg n (fun i => g (o i)) = sg n (fun i => g (K i))
theorem bs_1 {n : Nat} {K : Nat → Nat} : bs 1 n K := fun p q h1 h2 h3 => by rw [Nat.div_one, Nat.div_one] at h3; omega
theorem bs_all {w n : Nat} {K : Nat → Nat} (h : bs w n K) (hw : n ≤ w) : ∀ p q, p < q → q < n → K p ≤ K q := fun p q h1 h2 => h p q h1 h2 (by rw [Nat.div_eq_of_lt (by omega), Nat.div_eq_of_lt (by omega)])
/-- the stretches of a block are sorted -/
theorem bs_lo {w n : Nat} {K : Nat → Nat} (h : bs w n K) (hw : 0 < w) {j mid : Nat} (hm : mid ≤ 2 * w * j + w) (hn : mid ≤ n) : ∀ p q, 2 * w * j ≤ p → p < q → q < mid → K p ≤ K q := by
  intro p q h1 h2 h3
  refine h p q h2 (by omega) ?_
  have e : 2 * w * j = w * (2 * j) := by rw [Nat.mul_comm 2 w, Nat.mul_assoc]
  rw [e] at h1 hm
  have a : ∀ x, w * (2 * j) ≤ x → x < w * (2 * j) + w → x / w = 2 * j := fun x g1 g2 => by
    rw [show x = (x - w * (2 * j)) + w * (2 * j) by omega, Nat.add_mul_div_left _ _ hw, Nat.div_eq_of_lt (by omega), Nat.zero_add]
  rw [a p h1 (by omega), a q (by omega) (by omega)]
theorem bs_hi {w n : Nat} {K : Nat → Nat} (h : bs w n K) (hw : 0 < w) {j e : Nat} (he : e ≤ 2 * w * j + 2 * w) (hn : e ≤ n) : ∀ p q, 2 * w * j + w ≤ p → p < q → q < e → K p ≤ K q := by
  intro p q h1 h2 h3
  refine h p q h2 (by omega) ?_
  have e1 : 2 * w * j = w * (2 * j) := by rw [Nat.mul_comm 2 w, Nat.mul_assoc]
  have e2 : w * (2 * j + 1) = w * (2 * j) + w := by rw [Nat.mul_add, Nat.mul_one]
  rw [e1] at h1 he
  have a : ∀ x, w * (2 * j) + w ≤ x → x < w * (2 * j) + 2 * w → x / w = 2 * j + 1 := fun x g1 g2 => by
    rw [show x = (x - w * (2 * j + 1)) + w * (2 * j + 1) by omega, Nat.add_mul_div_left _ _ hw, Nat.div_eq_of_lt (by omega), Nat.zero_add]
  rw [a p h1 (by omega), a q (by omega) (by omega)]
/-- a block more is merged -/
theorem mg_end {K o o' : Nat → Nat} {w j mid e m : Nat} (hw : 0 < w) (hf : 2 * w * j ≤ m) (he : e = min (2 * w * j + 2 * w) m) (hk : ∀ i, i < 2 * w * j → o' i = o i) (h : mg K o' (2 * w * j) mid e mid e e) (hb : bs (2 * w) (2 * w * j) o) (hq : eqs (2 * w * j) K o) : bs (2 * w) e o' ∧ eqs e K o' := by
  obtain ⟨-, h1, -, -, h4⟩ := h
  constructor
  · intro p q g1 g2 g3
    by_cases c : q < 2 * w * j
    · rw [hk p (by omega), hk q c]
      exact hb p q g1 c g3
    · by_cases c2 : 2 * w * j ≤ p
      · exact h1 p q c2 g1 g2
      · exfalso
        have a1 : p / (2 * w) < j := Nat.div_lt_of_lt_mul (by omega)
        have a2 : j ≤ q / (2 * w) := (Nat.le_div_iff_mul_le (by omega)).2 (by rw [Nat.mul_comm]; omega)
        omega
  · intro g
    have a1 := h4 g
    have a2 := hq g
    have a3 : sg (2 * w * j) (fun i => g (o' i)) = sg (2 * w * j) (fun i => g (o i)) := sg_congr (fun i hi => by rw [hk i hi])
    omega
theorem eqs.rf {n : Nat} {K : Nat → Nat} : eqs n K K := fun _ => rfl
theorem eqs.tr {n : Nat} {K o u : Nat → Nat} (h : eqs n K o) (h2 : eqs n o u) : eqs n K u := fun g => (h2 g).trans (h g)
theorem eqs_mem {n : Nat} {K o : Nat → Nat} (h : eqs n K o) (v : Nat) : (∃ i, i < n ∧ o i = v) ↔ ∃ i, i < n ∧ K i = v := by
  have e := h (fun x => if x = v then 1 else 0)
  constructor
  · rintro ⟨i, h1, h2⟩
    have := sg_get (f := fun i => if o i = v then 1 else 0) h1
    rw [if_pos h2, e] at this
    obtain ⟨j, g1, g2⟩ := sg_ex (n := n) (f := fun i => if K i = v then 1 else 0) (by omega)
    refine ⟨j, g1, Classical.byContradiction fun q => g2 (if_neg q)⟩
  · rintro ⟨i, h1, h2⟩
    have := sg_get (f := fun i => if K i = v then 1 else 0) h1
    rw [if_pos h2, ← e] at this
    obtain ⟨j, g1, g2⟩ := sg_ex (n := n) (f := fun i => if o i = v then 1 else 0) (by omega)
    refine ⟨j, g1, Classical.byContradiction fun q => g2 (if_neg q)⟩
/-- no number twice: sorted is strictly sorted -/
theorem eqs_strict {n : Nat} {K o : Nat → Nat} (h : eqs n K o) (hi : inj n K) (hs : ∀ p q, p < q → q < n → o p ≤ o q) : ∀ p q, p < q → q < n → o p < o q := by
  intro p q h1 h2
  rcases Nat.lt_or_ge (o p) (o q) with c | c
  · exact c
  · exfalso
    have e0 : o p = o q := Nat.le_antisymm (hs p q h1 h2) c
    have e := h (fun x => if x = o p then 1 else 0)
    have l1 : sg n (fun i => if K i = o p then 1 else 0) ≤ 1 := by
      by_cases c2 : ∃ i, i < n ∧ K i = o p
      · obtain ⟨i, g1, g2⟩ := c2
        rw [sg_only (f := fun i => if K i = o p then 1 else 0) g1 (fun j g3 g4 => if_neg (fun g5 => g4 (hi j i g3 g1 (g5.trans g2.symm))))]
        split <;> omega
      · rw [sg_zero (fun i g1 => if_neg (fun g2 => c2 ⟨i, g1, g2⟩))]
        omega
    have l2 := sg_put (n := n) (p := p) (f := fun i => if o i = o p then 1 else 0) (g := fun i => if i = p then 0 else if o i = o p then 1 else 0) (by omega) (fun i _ hne => if_neg hne)
    have l3 := sg_get (n := n) (f := fun i => if i = p then 0 else if o i = o p then 1 else 0) h2
    try dsimp only at l2 l3 e
    rw [if_neg (by omega), if_pos e0.symm] at l3
    rw [if_pos rfl, if_pos rfl] at l2
    omega
/-! the window's keys, row by row -/
def wkey (cu N left low h i : Nat) : Nat := kk cu N (left + i / h) (low + i % h)
def inF (x0 y0 x1 y1 x y : Nat) : Bool := decide (x0 ≤ x ∧ x ≤ x1 ∧ y0 ≤ y ∧ y ≤ y1)
theorem wkey_inj {cu N x0 y0 x1 y1 : Nat} (hx : x0 ≤ x1) (hy : y0 ≤ y1) (hX : x1 < 2 ^ N) (hY : y1 < 2 ^ N) : inj ((x1 - x0 + 1) * (y1 - y0 + 1)) (wkey cu N x0 y0 (y1 - y0 + 1)) := by
  intro i j hi hj he
  have b1 : ∀ i, i < (x1 - x0 + 1) * (y1 - y0 + 1) → i / (y1 - y0 + 1) < x1 - x0 + 1 := fun i h => Nat.div_lt_of_lt_mul (by rw [Nat.mul_comm]; exact h)
  have b2 : ∀ i, i % (y1 - y0 + 1) < y1 - y0 + 1 := fun i => Nat.mod_lt _ (by omega)
  have := b1 i hi
  have := b1 j hj
  have := b2 i
  have := b2 j
  obtain ⟨e1, e2⟩ := kk_inj (by omega) (by omega) (by omega) (by omega) he
  rw [← Nat.div_add_mod i (y1 - y0 + 1), ← Nat.div_add_mod j (y1 - y0 + 1), show i / (y1 - y0 + 1) = j / (y1 - y0 + 1) by omega, show i % (y1 - y0 + 1) = j % (y1 - y0 + 1) by omega]
theorem wkey_lt {cu N x0 y0 x1 y1 : Nat} (hx : x0 ≤ x1) (hy : y0 ≤ y1) (hX : x1 < 2 ^ N) (hY : y1 < 2 ^ N) {i : Nat} (hi : i < (x1 - x0 + 1) * (y1 - y0 + 1)) : wkey cu N x0 y0 (y1 - y0 + 1) i < 2 ^ N * 2 ^ N := by
  have b1 : i / (y1 - y0 + 1) < x1 - x0 + 1 := Nat.div_lt_of_lt_mul (by rw [Nat.mul_comm]; exact hi)
  have b2 : i % (y1 - y0 + 1) < y1 - y0 + 1 := Nat.mod_lt _ (by omega)
  exact kk_lt (by omega) (by omega)
theorem wkey_mem {cu N x0 y0 x1 y1 : Nat} (hx : x0 ≤ x1) (hy : y0 ≤ y1) (hX : x1 < 2 ^ N) (hY : y1 < 2 ^ N) {k : Nat} (hk : k < 2 ^ N * 2 ^ N) : inF x0 y0 x1 y1 (kc cu N k).1 (kc cu N k).2 = true ↔ ∃ i, i < (x1 - x0 + 1) * (y1 - y0 + 1) ∧ wkey cu N x0 y0 (y1 - y0 + 1) i = k := by
  unfold inF
  rw [decide_eq_true_eq]
  constructor
  · rintro ⟨h1, h2, h3, h4⟩
    refine ⟨(y1 - y0 + 1) * ((kc cu N k).1 - x0) + ((kc cu N k).2 - y0), ?_, ?_⟩
    · have : (y1 - y0 + 1) * ((kc cu N k).1 - x0 + 1) ≤ (y1 - y0 + 1) * (x1 - x0 + 1) := Nat.mul_le_mul_left _ (by omega)
      rw [Nat.mul_add, Nat.mul_one] at this
      rw [Nat.mul_comm (x1 - x0 + 1)]
      omega
    · unfold wkey
      rw [Nat.mul_add_div (by omega), Nat.div_eq_of_lt (by omega), Nat.mul_add_mod, Nat.mod_eq_of_lt (by omega), show x0 + ((kc cu N k).1 - x0 + 0) = (kc cu N k).1 by omega, show y0 + ((kc cu N k).2 - y0) = (kc cu N k).2 by omega]
      exact kk_kc hk
  · rintro ⟨i, hi, he⟩
    have b1 : i / (y1 - y0 + 1) < x1 - x0 + 1 := Nat.div_lt_of_lt_mul (by rw [Nat.mul_comm]; exact hi)
    have b2 : i % (y1 - y0 + 1) < y1 - y0 + 1 := Nat.mod_lt _ (by omega)
    have e := kc_kk (cu := cu) (N := N) (x := x0 + i / (y1 - y0 + 1)) (y := y0 + i % (y1 - y0 + 1)) (by omega) (by omega)
    have he : kk cu N (x0 + i / (y1 - y0 + 1)) (y0 + i % (y1 - y0 + 1)) = k := he
    rw [he] at e
    rw [e]
    dsimp only
    generalize i / (y1 - y0 + 1) = A at b1 ⊢
    generalize i % (y1 - y0 + 1) = B at b2 ⊢
    omega
/-- the sorted keys and the walk over all keys say the same -/
theorem walk_sorted {cu N x0 y0 x1 y1 : Nat} (hx : x0 ≤ x1) (hy : y0 ≤ y1) (hX : x1 < 2 ^ N) (hY : y1 < 2 ^ N) {a : Nat → Nat} (he : eqs ((x1 - x0 + 1) * (y1 - y0 + 1)) (wkey cu N x0 y0 (y1 - y0 + 1)) a) (hs : ∀ p q, p < q → q < (x1 - x0 + 1) * (y1 - y0 + 1) → a p ≤ a q) (w : Int32) :
    (∀ p q, p < q → q < (x1 - x0 + 1) * (y1 - y0 + 1) → a p < a q) ∧ (∀ i, i < (x1 - x0 + 1) * (y1 - y0 + 1) → a i < 2 ^ N * 2 ^ N) ∧ rw_k w (fun k => inF x0 y0 x1 y1 (kc cu N k).1 (kc cu N k).2) (2 ^ N * 2 ^ N) = rw_a w a ((x1 - x0 + 1) * (y1 - y0 + 1)) := by
  have h1 := eqs_strict he (wkey_inj hx hy hX hY) hs
  have h2 : ∀ i, i < (x1 - x0 + 1) * (y1 - y0 + 1) → a i < 2 ^ N * 2 ^ N := by
    intro i hi
    obtain ⟨j, g1, g2⟩ := (eqs_mem he (a i)).1 ⟨i, hi, rfl⟩
    rw [← g2]
    exact wkey_lt hx hy hX hY g1
  refine ⟨h1, h2, rw_ka h1 (fun k hk => ?_) h2⟩
  rw [wkey_mem hx hy hX hY hk, eqs_mem he k]
end
section
/-! a row of the class: keys rise strictly; what keep and drop do to it. The reference's row: what put and take do -/
abbrev rS : Type := Nat × (Nat → Nat) × (Nat → Nat) × (Nat → Nat)
def bd (K : Nat → Nat) : Prop := ∀ j, K j < 2147483648
theorem bd_up {K : Nat → Nat} {p v : Nat} (h : bd K) (hv : v < 2147483648) : bd (va_up K p v) := by
  intro j
  unfold va_up
  split
  · exact hv
  · exact h j
theorem bd_cpy {K K' : Nat → Nat} {a b n : Nat} (h : bd K) (h' : bd K') : bd (va_cpy K K' a b n) := by
  intro j
  unfold va_cpy
  split
  · exact h _
  · exact h' j
def okr (cu N n : Nat) (K C V : Nat → Nat) : Prop := n ≤ 500 ∧ (∀ i, i < n → C i < 2 ^ N * 2 ^ N ∧ K i = ke cu N (C i) ∧ 1 ≤ V i ∧ V i ≤ 999) ∧ (∀ i j, i < j → j < n → K i < K j)
def atp (n : Nat) (K : Nat → Nat) (key p : Nat) : Prop := p ≤ n ∧ (∀ i, i < p → K i < key) ∧ (p < n → key ≤ K p)
theorem okr.inj {cu N n : Nat} {K C V : Nat → Nat} (h : okr cu N n K C V) : inj n C := by
  intro i j hi hj he
  have a := (h.2.1 i hi).2.1
  have b := (h.2.1 j hj).2.1
  rw [he, ← b] at a
  rcases Nat.lt_trichotomy i j with c | c | c
  · have := h.2.2 i j c hj; omega
  · exact c
  · have := h.2.2 j i c hi; omega
theorem okr.hit {cu N n : Nat} {K C V : Nat → Nat} {c p : Nat} (h : okr cu N n K C V) (hc : c < 2 ^ N * 2 ^ N) (hp : p < n) (he : K p = ke cu N c) : C p = c := ke_inj (h.2.1 p hp).1 hc ((h.2.1 p hp).2.1.symm.trans he)
theorem okr.miss {cu N n : Nat} {K C V : Nat → Nat} {c p : Nat} (h : okr cu N n K C V) (ha : atp n K (ke cu N c) p) (hn : ¬ (p < n ∧ K p = ke cu N c)) : ∀ i, i < n → C i ≠ c := by
  intro i hi he
  obtain ⟨a1, a2, a3⟩ := ha
  have b := (h.2.1 i hi).2.1
  rw [he] at b
  rcases Nat.lt_or_ge i p with q | q
  · have := a2 i q; omega
  · apply hn
    have a4 := a3 (by omega)
    refine ⟨by omega, ?_⟩
    rcases Nat.lt_or_ge p i with g | g
    · have := h.2.2 p i g hi; omega
    · have : p = i := by omega
      subst this
      exact b
theorem okr.wt1 {cu N n : Nat} {K C V : Nat → Nat} {c p : Nat} (h : okr cu N n K C V) (hc : c < 2 ^ N * 2 ^ N) (hp : p < n) (he : K p = ke cu N c) : wt n C V c = V p := wt_at h.inj hp (h.hit hc hp he)
theorem okr.wt0 {cu N n : Nat} {K C V : Nat → Nat} {c p : Nat} (h : okr cu N n K C V) (ha : atp n K (ke cu N c) p) (hn : ¬ (p < n ∧ K p = ke cu N c)) : wt n C V c = 0 := wt_none (h.miss ha hn)
def keepR (n : Nat) (K C V : Nat → Nat) (key c w : Nat) (u : rS) : Prop := ∃ p, atp n K key p ∧
  ((p < n ∧ K p = key ∧ u = (n, va_up K p key, va_up C p c, va_up V p w)) ∨
   (¬ (p < n ∧ K p = key) ∧ n < 500 ∧ u = (n + 1, va_up (va_cpy K K p (p + 1) (n - p)) p key, va_up (va_cpy C C p (p + 1) (n - p)) p c, va_up (va_cpy V V p (p + 1) (n - p)) p w)) ∨
   (¬ (p < n ∧ K p = key) ∧ 500 ≤ n ∧ u = (n, K, C, V)))
def dropR (n : Nat) (K C V : Nat → Nat) (key : Nat) (u : rS) : Prop := ∃ p, atp n K key p ∧
  ((p < n ∧ K p = key ∧ u = (n - 1, va_cpy K K (p + 1) p (n - (p + 1)), va_cpy C C (p + 1) p (n - (p + 1)), va_cpy V V (p + 1) p (n - (p + 1)))) ∨
   (¬ (p < n ∧ K p = key) ∧ u = (n, K, C, V)))
/-- the points of u are those of the row, but that the cell c has the weight w -/
def putS (n : Nat) (C V : Nat → Nat) (c w n' : Nat) (C' V' : Nat → Nat) : Prop := ∀ f : Nat → Nat → Nat, sg n' (fun i => f (C' i) (V' i)) + (if wt n C V c = 0 then 0 else f c (wt n C V c)) = sg n (fun i => f (C i) (V i)) + f c w
/-- but that the cell c has none -/
def takS (n : Nat) (C V : Nat → Nat) (c n' : Nat) (C' V' : Nat → Nat) : Prop := ∀ f : Nat → Nat → Nat, sg n' (fun i => f (C' i) (V' i)) + (if wt n C V c = 0 then 0 else f c (wt n C V c)) = sg n (fun i => f (C i) (V i))
theorem ins_lo {K : Nat → Nat} {p n v i : Nat} (h : i < p) : va_up (va_cpy K K p (p + 1) (n - p)) p v i = K i := by
  rw [up_ne (by omega), pk_cpy_out (by omega)]
theorem ins_hi {K : Nat → Nat} {p n v i : Nat} (h : p ≤ i) (hn : i < n) : va_up (va_cpy K K p (p + 1) (n - p)) p v (i + 1) = K i := by
  rw [up_ne (by omega), pk_cpy_in (by omega) (by omega)]
  congr 1
  omega
theorem del_lo {K : Nat → Nat} {p n i : Nat} (h : i < p) : va_cpy K K (p + 1) p (n - (p + 1)) i = K i := pk_cpy_out (by omega)
theorem del_hi {K : Nat → Nat} {p n i : Nat} (h : p ≤ i) (hn : i + 1 < n) : va_cpy K K (p + 1) p (n - (p + 1)) i = K (i + 1) := by
  rw [pk_cpy_in (by omega) (by omega)]
  congr 1
  omega
theorem keep_ok {cu N n : Nat} {K C V : Nat → Nat} {c w : Nat} {u : rS} (h : okr cu N n K C V) (hc : c < 2 ^ N * 2 ^ N) (hw : 1 ≤ w ∧ w ≤ 999) (hk : keepR n K C V (ke cu N c) c w u) (hf : wt n C V c ≠ 0 ∨ n < 500) : okr cu N u.1 u.2.1 u.2.2.1 u.2.2.2 ∧ putS n C V c w u.1 u.2.2.1 u.2.2.2 := by
  obtain ⟨p, ha, ⟨h1, h2, rfl⟩ | ⟨h1, h2, rfl⟩ | ⟨h1, h2, rfl⟩⟩ := hk
  · have hC := h.hit hc h1 h2
    have hV := h.wt1 hc h1 h2
    have hpos := (h.2.1 p h1).2.2
    refine ⟨⟨h.1, fun i hi => ?_, fun i j hi hj => ?_⟩, fun f => ?_⟩
    · (try dsimp only at hi ⊢)
      by_cases e : i = p
      · subst e
        rw [va_up_self, va_up_self, va_up_self]
        exact ⟨hc, rfl, hw⟩
      · rw [up_ne e, up_ne e, up_ne e]
        exact h.2.1 i hi
    · (try dsimp only at hj ⊢)
      have g := h.2.2 i j hi hj
      by_cases e : i = p
      · subst e
        rw [va_up_self, up_ne (by omega), ← h2]
        exact g
      · by_cases e2 : j = p
        · subst e2
          rw [va_up_self, up_ne e, ← h2]
          exact g
        · rw [up_ne e, up_ne e2]
          exact g
    · (try dsimp only)
      rw [hV, if_neg (by omega)]
      have g := sg_put (n := n) (p := p) (f := fun i => f (C i) (V i)) (g := fun i => f (va_up C p c i) (va_up V p w i)) h1 (fun i _ e => by (try dsimp only); rw [up_ne e, up_ne e])
      (try dsimp only at g)
      rw [va_up_self, va_up_self, hC] at g
      exact g
  · have hV := h.wt0 ha h1
    obtain ⟨a1, a2, a3⟩ := ha
    refine ⟨⟨by (try dsimp only); omega, fun i hi => ?_, fun i j hi hj => ?_⟩, fun f => ?_⟩
    · (try dsimp only at hi ⊢)
      rcases Nat.lt_trichotomy i p with e | e | e
      · rw [ins_lo e, ins_lo e, ins_lo e]
        exact h.2.1 i (by omega)
      · subst e
        rw [va_up_self, va_up_self, va_up_self]
        exact ⟨hc, rfl, hw⟩
      · obtain ⟨j, rfl⟩ : ∃ j, i = j + 1 := ⟨i - 1, by omega⟩
        rw [ins_hi (by omega) (by omega), ins_hi (by omega) (by omega), ins_hi (by omega) (by omega)]
        exact h.2.1 j (by omega)
    · (try dsimp only at hj ⊢)
      rcases Nat.lt_trichotomy j p with e | e | e
      · rw [ins_lo e, ins_lo (by omega)]
        exact h.2.2 i j hi (by omega)
      · subst e
        rw [va_up_self, ins_lo hi]
        exact a2 i hi
      · obtain ⟨j, rfl⟩ : ∃ q, j = q + 1 := ⟨j - 1, by omega⟩
        rw [ins_hi (by omega) (by omega)]
        rcases Nat.lt_trichotomy i p with e2 | e2 | e2
        · rw [ins_lo e2]
          exact h.2.2 i j (by omega) (by omega)
        · subst e2
          rw [va_up_self]
          have b1 := a3 (by omega)
          have b2 : ¬ K i = ke cu N c := fun q => h1 ⟨by omega, q⟩
          rcases Nat.lt_or_ge i j with g | g
          · have := h.2.2 i j g (by omega); omega
          · have : i = j := by omega
            subst this
            omega
        · obtain ⟨i, rfl⟩ : ∃ q, i = q + 1 := ⟨i - 1, by omega⟩
          rw [ins_hi (by omega) (by omega)]
          exact h.2.2 i j (by omega) (by omega)
    · (try dsimp only)
      rw [hV, if_pos rfl]
      have g := sg_ins (n := n) (p := p) (f := fun i => f (C i) (V i)) (g := fun i => f (va_up (va_cpy C C p (p + 1) (n - p)) p c i) (va_up (va_cpy V V p (p + 1) (n - p)) p w i)) a1 (fun i e => by (try dsimp only); rw [ins_lo e, ins_lo e]) (fun i e e2 => by (try dsimp only); rw [ins_hi e e2, ins_hi e e2])
      (try dsimp only at g)
      rw [va_up_self, va_up_self] at g
      exact g
  · have hV := h.wt0 ha h1
    rcases hf with g | g
    · exact absurd hV g
    · omega
theorem drop_ok {cu N n : Nat} {K C V : Nat → Nat} {c : Nat} {u : rS} (h : okr cu N n K C V) (hc : c < 2 ^ N * 2 ^ N) (hk : dropR n K C V (ke cu N c) u) : okr cu N u.1 u.2.1 u.2.2.1 u.2.2.2 ∧ takS n C V c u.1 u.2.2.1 u.2.2.2 := by
  obtain ⟨p, ha, ⟨h1, h2, rfl⟩ | ⟨h1, rfl⟩⟩ := hk
  · have hC := h.hit hc h1 h2
    have hV := h.wt1 hc h1 h2
    have hpos := (h.2.1 p h1).2.2
    have hn := h.1
    refine ⟨⟨by (try dsimp only); omega, fun i hi => ?_, fun i j hi hj => ?_⟩, fun f => ?_⟩
    · (try dsimp only at hi ⊢)
      rcases Nat.lt_or_ge i p with e | e
      · rw [del_lo e, del_lo e, del_lo e]
        exact h.2.1 i (by omega)
      · rw [del_hi e (by omega), del_hi e (by omega), del_hi e (by omega)]
        exact h.2.1 (i + 1) (by omega)
    · (try dsimp only at hj ⊢)
      rcases Nat.lt_or_ge j p with e | e
      · rw [del_lo e, del_lo (by omega)]
        exact h.2.2 i j hi (by omega)
      · rw [del_hi e (by omega)]
        rcases Nat.lt_or_ge i p with e2 | e2
        · rw [del_lo e2]
          exact h.2.2 i (j + 1) (by omega) (by omega)
        · rw [del_hi e2 (by omega)]
          exact h.2.2 (i + 1) (j + 1) (by omega) (by omega)
    · (try dsimp only)
      rw [hV, if_neg (by omega)]
      have g := sg_ins (n := n - 1) (p := p) (g := fun i => f (C i) (V i)) (f := fun i => f (va_cpy C C (p + 1) p (n - (p + 1)) i) (va_cpy V V (p + 1) p (n - (p + 1)) i)) (by omega) (fun i e => by (try dsimp only); rw [del_lo e, del_lo e]) (fun i e e2 => by (try dsimp only); rw [del_hi e (by omega), del_hi e (by omega)])
      rw [show n - 1 + 1 = n by omega] at g
      (try dsimp only at g)
      rw [hC] at g
      exact g.symm
  · have hV := h.wt0 ha h1
    refine ⟨h, fun f => ?_⟩
    (try dsimp only)
    rw [hV, if_pos rfl]
    rfl
/-! the reference's row -/
def okm (N n : Nat) (C V : Nat → Nat) : Prop := n ≤ 500 ∧ (∀ i, i < n → C i < 2 ^ N * 2 ^ N ∧ 1 ≤ V i ∧ V i ≤ 999) ∧ inj n C
def fnd (n : Nat) (C : Nat → Nat) (c k : Nat) : Prop := k ≤ n ∧ (∀ i, i < k → C i ≠ c) ∧ (k < n → C k = c)
theorem okm.wt1 {N n : Nat} {C V : Nat → Nat} {c k : Nat} (h : okm N n C V) (hf : fnd n C c k) (hk : k < n) : wt n C V c = V k := wt_at h.2.2 hk (hf.2.2 hk)
theorem fnd.wt0 {n : Nat} {C V : Nat → Nat} {c k : Nat} (hf : fnd n C c k) (hk : ¬ k < n) : wt n C V c = 0 := wt_none (fun i hi => hf.2.1 i (by omega))
theorem mput_ok {N n : Nat} {C V : Nat → Nat} {c w k : Nat} (h : okm N n C V) (hc : c < 2 ^ N * 2 ^ N) (hw : 1 ≤ w ∧ w ≤ 999) (hf : fnd n C c k) (hk : k < 500) : okm N (if k = n then n + 1 else n) (va_up C k c) (va_up V k w) ∧ putS n C V c w (if k = n then n + 1 else n) (va_up C k c) (va_up V k w) := by
  by_cases e : k = n
  · subst e
    rw [if_pos rfl]
    have hV := hf.wt0 (V := V) (Nat.lt_irrefl k)
    refine ⟨⟨by omega, fun i hi => ?_, fun i j hi hj he => ?_⟩, fun f => ?_⟩
    · by_cases e : i = k
      · subst e
        rw [va_up_self, va_up_self]
        exact ⟨hc, hw⟩
      · rw [up_ne e, up_ne e]
        exact h.2.1 i (by omega)
    · by_cases e : i = k
      · by_cases e2 : j = k
        · omega
        · subst e
          rw [va_up_self, up_ne e2] at he
          exact absurd he.symm (hf.2.1 j (by omega))
      · by_cases e2 : j = k
        · subst e2
          rw [va_up_self, up_ne e] at he
          exact absurd he (hf.2.1 i (by omega))
        · rw [up_ne e, up_ne e2] at he
          exact h.2.2 i j (by omega) (by omega) he
    · rw [hV, if_pos rfl, sg_s, va_up_self, va_up_self, sg_congr (f := fun i => f (va_up C k c i) (va_up V k w i)) (g := fun i => f (C i) (V i)) (fun i hi => by (try dsimp only); rw [up_ne (by omega), up_ne (by omega)])]
      omega
  · rw [if_neg e]
    have hkn : k < n := by have := hf.1; omega
    have hC := hf.2.2 hkn
    have hV := h.wt1 hf hkn
    have hpos := (h.2.1 k hkn).2
    refine ⟨⟨h.1, fun i hi => ?_, fun i j hi hj he => ?_⟩, fun f => ?_⟩
    · by_cases e : i = k
      · subst e
        rw [va_up_self, va_up_self]
        exact ⟨hc, hw⟩
      · rw [up_ne e, up_ne e]
        exact h.2.1 i hi
    · have a : ∀ x, va_up C k c x = C x := fun x => by
        by_cases e : x = k
        · subst e; rw [va_up_self, hC]
        · rw [up_ne e]
      rw [a, a] at he
      exact h.2.2 i j hi hj he
    · rw [hV, if_neg (by omega)]
      have g := sg_put (n := n) (p := k) (f := fun i => f (C i) (V i)) (g := fun i => f (va_up C k c i) (va_up V k w i)) hkn (fun i _ e => by (try dsimp only); rw [up_ne e, up_ne e])
      (try dsimp only at g)
      rw [va_up_self, va_up_self, hC] at g
      exact g
theorem mtake_ok {N n : Nat} {C V : Nat → Nat} {c k : Nat} (h : okm N n C V) (hf : fnd n C c k) (hk : k < n) : okm N (n - 1) (va_up C k (C (n - 1))) (va_up V k (V (n - 1))) ∧ takS n C V c (n - 1) (va_up C k (C (n - 1))) (va_up V k (V (n - 1))) := by
  have hC := hf.2.2 hk
  have hV := h.wt1 hf hk
  have hpos := (h.2.1 k hk).2
  have hn := h.1
  refine ⟨⟨by omega, fun i hi => ?_, fun i j hi hj he => ?_⟩, fun f => ?_⟩
  · by_cases e : i = k
    · subst e
      rw [va_up_self, va_up_self]
      exact h.2.1 (n - 1) (by omega)
    · rw [up_ne e, up_ne e]
      exact h.2.1 i (by omega)
  · by_cases e : i = k
    · by_cases e2 : j = k
      · omega
      · subst e
        rw [va_up_self, up_ne e2] at he
        have := h.2.2 (n - 1) j (by omega) (by omega) he
        omega
    · by_cases e2 : j = k
      · subst e2
        rw [va_up_self, up_ne e] at he
        have := h.2.2 i (n - 1) (by omega) (by omega) he
        omega
      · rw [up_ne e, up_ne e2] at he
        exact h.2.2 i j (by omega) (by omega) he
  · rw [hV, if_neg (by omega)]
    have g := sg_put (n := n) (p := k) (f := fun i => f (C i) (V i)) (g := fun i => f (va_up C k (C (n - 1)) i) (va_up V k (V (n - 1)) i)) hk (fun i _ e => by (try dsimp only); rw [up_ne e, up_ne e])
    obtain ⟨q, rfl⟩ : ∃ q, n = q + 1 := ⟨n - 1, by omega⟩
    rw [Nat.add_sub_cancel] at g ⊢
    rw [sg_s, sg_s] at g
    (try dsimp only at g)
    rw [va_up_self, va_up_self, hC] at g
    rw [sg_s]
    by_cases e : q = k
    · subst e
      rw [va_up_self, va_up_self, hC] at g
      rw [hC]
      omega
    · rw [up_ne e, up_ne e] at g
      omega
theorem same.put {n : Nat} {C V : Nat → Nat} {n' : Nat} {C' V' : Nat → Nat} (h : same n C V n' C' V') {c w a : Nat} {Ca Va : Nat → Nat} {b : Nat} {Cb Vb : Nat → Nat} (h1 : putS n C V c w a Ca Va) (h2 : putS n' C' V' c w b Cb Vb) : same a Ca Va b Cb Vb := by
  intro f
  have e1 := h1 f
  have e2 := h2 f
  rw [← h.wt c, ← h f] at e2
  omega
theorem same.take {n : Nat} {C V : Nat → Nat} {n' : Nat} {C' V' : Nat → Nat} (h : same n C V n' C' V') {c a : Nat} {Ca Va : Nat → Nat} {b : Nat} {Cb Vb : Nat → Nat} (h1 : takS n C V c a Ca Va) (h2 : takS n' C' V' c b Cb Vb) : same a Ca Va b Cb Vb := by
  intro f
  have e1 := h1 f
  have e2 := h2 f
  rw [← h.wt c, ← h f] at e2
  omega
end
section
/-! the window's points in order, and the nearest: what is asked, and that two rows with the same points answer alike -/
abbrev fQ : Type := Nat × Nat × Nat × Nat
def inc (N : Nat) (F : fQ) (c : Nat) : Bool := inF F.1 F.2.1 F.2.2.1 F.2.2.2 (c / 2 ^ N) (c % 2 ^ N)
def ins (N : Nat) (F : fQ) (n : Nat) (C : Nat → Nat) : Nat := sg n (fun i => if inc N F (C i) = true then 1 else 0)
def sum (N : Nat) (F : fQ) (n : Nat) (C V : Nat → Nat) : Nat := sg n (fun i => if inc N F (C i) = true then V i else 0)
theorem same.ins {n : Nat} {C V : Nat → Nat} {n' : Nat} {C' V' : Nat → Nat} (h : same n C V n' C' V') (N : Nat) (F : fQ) : ins N F n C = ins N F n' C' := h (fun c _ => if inc N F c = true then 1 else 0)
theorem same.sum {n : Nat} {C V : Nat → Nat} {n' : Nat} {C' V' : Nat → Nat} (h : same n C V n' C' V') (N : Nat) (F : fQ) : sum N F n C V = sum N F n' C' V' := h (fun c w => if inc N F c = true then w else 0)
/-- how many of the window's points have a lesser key -/
def rk (cu N : Nat) (F : fQ) (n : Nat) (C : Nat → Nat) (k : Nat) : Nat := sg n (fun i => if inc N F (C i) = true ∧ ke cu N (C i) < k then 1 else 0)
theorem rk_le {cu N : Nat} {F : fQ} {n : Nat} {C : Nat → Nat} {k : Nat} : rk cu N F n C k ≤ n := by
  have := sg_le (n := n) (f := fun i => if inc N F (C i) = true ∧ ke cu N (C i) < k then 1 else 0) (g := fun _ => 1) (fun i _ => by (try dsimp only); split <;> omega)
  rwa [sg_one] at this
theorem rk_lt {cu N : Nat} {F : fQ} {n : Nat} {C : Nat → Nat} {k : Nat} {i : Nat} (hi : i < n) (hc : inc N F (C i) = true) (hk : ke cu N (C i) < k) : rk cu N F n C (ke cu N (C i)) < rk cu N F n C k := by
  refine sg_lt (fun j _ => ?_) hi ?_
  · (try dsimp only)
    by_cases h : inc N F (C j) = true ∧ ke cu N (C j) < ke cu N (C i)
    · rw [if_pos h, if_pos ⟨h.1, by omega⟩]
      omega
    · rw [if_neg h]
      omega
  · (try dsimp only)
    rw [if_neg (fun q => Nat.lt_irrefl _ q.2), if_pos ⟨hc, hk⟩]
    omega
theorem same.rk {n : Nat} {C V : Nat → Nat} {n' : Nat} {C' V' : Nat → Nat} (h : same n C V n' C' V') (cu N : Nat) (F : fQ) (k : Nat) : rk cu N F n C k = rk cu N F n' C' k := h (fun c _ => if inc N F c = true ∧ ke cu N c < k then 1 else 0)
def nthS (cu N : Nat) (F : fQ) (n : Nat) (C : Nat → Nat) (i r : Int32) : Prop :=
  (∃ j, j < n ∧ inc N F (C j) = true ∧ nI (rk cu N F n C (ke cu N (C j))) = i ∧ r = nI (C j)) ∨ ((∀ j, j < n → inc N F (C j) = true → nI (rk cu N F n C (ke cu N (C j))) ≠ i) ∧ r = -1)
theorem same.nth {n : Nat} {C V : Nat → Nat} {n' : Nat} {C' V' : Nat → Nat} (h : same n C V n' C' V') {cu N : Nat} {F : fQ} {i r r' : Int32} (hn : n ≤ 500) (hC : ∀ j, j < n → C j < 2 ^ N * 2 ^ N) (h1 : nthS cu N F n C i r) (h2 : nthS cu N F n' C' i r') : r = r' := by
  rcases h1 with ⟨j, a1, a2, a3, rfl⟩ | ⟨a1, rfl⟩
  · rcases h2 with ⟨k, b1, b2, b3, rfl⟩ | ⟨b1, rfl⟩
    · obtain ⟨q, c1, c2, -⟩ := h.sy.ex b1
      rw [← c2] at b2 b3 ⊢
      rw [← h.rk, ← a3, nI_eq (by have := rk_le (cu := cu) (N := N) (F := F) (n := n) (C := C) (k := ke cu N (C q)); omega) (by have := rk_le (cu := cu) (N := N) (F := F) (n := n) (C := C) (k := ke cu N (C j)); omega)] at b3
      rcases Nat.lt_trichotomy (ke cu N (C q)) (ke cu N (C j)) with g | g | g
      · have := rk_lt c1 b2 g; omega
      · rw [ke_inj (hC q c1) (hC j a1) g]
      · have := rk_lt a1 a2 g; omega
    · obtain ⟨q, c1, c2, -⟩ := h.ex a1
      rw [← c2] at a2 a3
      rw [h.rk] at a3
      exact absurd a3 (b1 q c1 a2)
  · rcases h2 with ⟨k, b1, b2, b3, rfl⟩ | ⟨b1, rfl⟩
    · obtain ⟨q, c1, c2, -⟩ := h.sy.ex b1
      rw [← c2] at b2 b3
      rw [← h.rk] at b3
      exact absurd b3 (a1 q c1 b2)
    · rfl
/-- in a row whose keys rise, those before a place are those with a lesser key -/
theorem okr.rkp {cu N n : Nat} {K C V : Nat → Nat} (h : okr cu N n K C V) (F : fQ) {p : Nat} (hp : p < n) : rk cu N F n C (ke cu N (C p)) = ins N F p C := by
  unfold rk ins
  rw [show n = p + (n - p) by omega, sg_split, sg_zero (n := n - p)]
  · rw [Nat.add_zero]
    refine sg_congr (fun i hi => ?_)
    have a := h.2.2 i p hi hp
    rw [(h.2.1 i (by omega)).2.1, (h.2.1 p hp).2.1] at a
    by_cases e : inc N F (C i) = true
    · rw [if_pos ⟨e, a⟩, if_pos e]
    · rw [if_neg (fun q => e q.1), if_neg e]
  · intro i hi
    (try dsimp only)
    rw [if_neg]
    rintro ⟨-, q⟩
    rcases Nat.eq_zero_or_pos i with e | e
    · subst e
      exact Nat.lt_irrefl _ q
    · have a := h.2.2 p (p + i) (by omega) (by omega)
      rw [(h.2.1 p hp).2.1, (h.2.1 (p + i) (by omega)).2.1] at a
      omega
/-- squares of differences, added -/
def sqd (a b : Nat) : Nat := (a - b) * (a - b) + (b - a) * (b - a)
theorem sqd_sy (a b : Nat) : sqd a b = sqd b a := Nat.add_comm _ _
def dq (N x y c : Nat) : Nat := sqd x (c / 2 ^ N) + sqd y (c % 2 ^ N)
def nearS (N x y n : Nat) (C : Nat → Nat) (r : Int32) : Prop :=
  (n = 0 ∧ r = -1) ∨ ∃ j, j < n ∧ r = nI (C j) ∧ ∀ k, k < n → dq N x y (C j) < dq N x y (C k) ∨ (dq N x y (C j) = dq N x y (C k) ∧ ke 1 N (C j) ≤ ke 1 N (C k))
theorem same.near {n : Nat} {C V : Nat → Nat} {n' : Nat} {C' V' : Nat → Nat} (h : same n C V n' C' V') {N x y : Nat} {r r' : Int32} (hC : ∀ j, j < n → C j < 2 ^ N * 2 ^ N) (h1 : nearS N x y n C r) (h2 : nearS N x y n' C' r') : r = r' := by
  have hm := h.many
  rcases h1 with ⟨a1, rfl⟩ | ⟨j, a1, rfl, a2⟩
  · rcases h2 with ⟨b1, rfl⟩ | ⟨k, b1, rfl, b2⟩
    · rfl
    · omega
  · rcases h2 with ⟨b1, rfl⟩ | ⟨k, b1, rfl, b2⟩
    · omega
    · obtain ⟨q, c1, c2, -⟩ := h.sy.ex b1
      obtain ⟨q', d1, d2, -⟩ := h.ex a1
      have e1 := a2 q c1
      have e2 := b2 q' d1
      rw [d2, ← c2] at e2
      rw [← c2]
      congr 1
      refine ke_inj (cu := 1) (hC j a1) (hC q c1) ?_
      omega
theorem sqd_l {a b : Nat} (ha : a < 65536) (hb : b < 65536) : (nI a - nI b).toInt64 * (nI a - nI b).toInt64 = lN (sqd a b) := by
  apply Int64.toInt_inj.mp
  have e1 : (nI a - nI b).toInt = (a : Int) - b := pk_sub_toInt (by omega) (by omega)
  have e2 : (nI a - nI b).toInt64.toInt = (a : Int) - b := by rw [Int32.toInt_toInt64, e1]
  have hs : sqd a b < 8589934592 := by
    unfold sqd
    have h1 : (a - b) * (a - b) ≤ 65535 * 65535 := Nat.mul_le_mul (by omega) (by omega)
    have h2 : (b - a) * (b - a) ≤ 65535 * 65535 := Nat.mul_le_mul (by omega) (by omega)
    omega
  rw [Int64.toInt_mul, e2, pk_lT (by omega)]
  have e3 : ((a : Int) - b) * ((a : Int) - b) = (sqd a b : Int) := by
    unfold sqd
    rcases Nat.le_total a b with h | h
    · obtain ⟨d, rfl⟩ : ∃ d, b = a + d := ⟨b - a, by omega⟩
      rw [show a - (a + d) = 0 by omega, show a + d - a = d by omega]
      have : (a : Int) - ((a + d : Nat) : Int) = -(d : Int) := by omega
      rw [this, Int.neg_mul_neg]
      simp
    · obtain ⟨d, rfl⟩ : ∃ d, a = b + d := ⟨a - b, by omega⟩
      rw [show b - (b + d) = 0 by omega, show b + d - b = d by omega]
      have : ((b + d : Nat) : Int) - (b : Int) = (d : Int) := by omega
      rw [this]
      simp
  rw [e3]
  exact Int.bmod_eq_of_le (by omega) (by omega)
theorem sqd_lt {a b : Nat} (ha : a < 65536) (hb : b < 65536) : sqd a b < 8589934592 := by
  unfold sqd
  have h1 : (a - b) * (a - b) ≤ 65535 * 65535 := Nat.mul_le_mul (by omega) (by omega)
  have h2 : (b - a) * (b - a) ≤ 65535 * 65535 := Nat.mul_le_mul (by omega) (by omega)
  omega
end
section
/-! squares of the grid: missed, held, cut into quarters -/
theorem cs_add (st l q r : Nat) : cs st l (q * (2 ^ l * 2 ^ l) + r) = cs st l r := by
  unfold cs
  rw [wcx_add, hcx_add]
theorem p22 (l : Nat) : 2 ^ (2 * l) = 2 ^ l * 2 ^ l := by rw [Nat.two_mul, Nat.pow_add]
theorem oI_pr {b : Nat} (h : 0 < b) : nI (b - 1) = oI b := by
  cases b with
  | zero => omega
  | succ b => rfl
def sqM (M : Nat → Bool) (F : fQ) (st l x y k : Nat) : Prop := ∀ r, r < 2 ^ l * 2 ^ l → M (k + r) = inF F.1 F.2.1 F.2.2.1 F.2.2.2 (x + (cs st l r).1) (y + (cs st l r).2)
theorem sqM_miss {M : Nat → Bool} {F : fQ} {st l x y k : Nat} (h : sqM M F st l x y k) (hm : F.2.2.1 < x ∨ x + 2 ^ l ≤ F.1 ∨ F.2.2.2 < y ∨ y + 2 ^ l ≤ F.2.1) (w : Int32) : rw_k w M (k + 2 ^ l * 2 ^ l) = rw_k w M k := by
  refine rw_k_no _ (fun j h1 h2 => ?_)
  obtain ⟨r, rfl⟩ : ∃ r, j = k + r := ⟨j - k, by omega⟩
  rw [h r (by omega)]
  obtain ⟨a1, a2⟩ := cs_lt (st := st) (l := l) (k := r)
  unfold inF
  rw [decide_eq_false_iff_not]
  omega
theorem sqM_hold {M : Nat → Bool} {F : fQ} {st l x y k : Nat} (h : sqM M F st l x y k) (h1 : inF F.1 F.2.1 F.2.2.1 F.2.2.2 x y = true) (h2 : inF F.1 F.2.1 F.2.2.1 F.2.2.2 (x + 2 ^ l - 1) (y + 2 ^ l - 1) = true) (w : Int32) : rw_k w M (k + 2 ^ l * 2 ^ l) = rw_j w k (k + 2 ^ l * 2 ^ l) (rw_k w M k) := by
  have hp := p4_pos l
  obtain ⟨n, hn⟩ : ∃ n, 2 ^ l * 2 ^ l = n + 1 := ⟨2 ^ l * 2 ^ l - 1, by omega⟩
  rw [hn]
  refine rw_k_all n (fun j g1 g2 => ?_)
  obtain ⟨r, rfl⟩ : ∃ r, j = k + r := ⟨j - k, by omega⟩
  rw [h r (by omega)]
  obtain ⟨a1, a2⟩ := cs_lt (st := st) (l := l) (k := r)
  unfold inF at h1 h2 ⊢
  rw [decide_eq_true_eq] at h1 h2 ⊢
  omega
/-- one cell is held or missed -/
theorem sq_one {F : fQ} {x y : Nat} (hm : ¬ (F.2.2.1 < x ∨ x + 2 ^ 0 ≤ F.1 ∨ F.2.2.2 < y ∨ y + 2 ^ 0 ≤ F.2.1)) : inF F.1 F.2.1 F.2.2.1 F.2.2.2 x y = true ∧ inF F.1 F.2.1 F.2.2.1 F.2.2.2 (x + 2 ^ 0 - 1) (y + 2 ^ 0 - 1) = true := by
  unfold inF
  rw [decide_eq_true_eq, decide_eq_true_eq]
  omega
theorem sqM_step {M : Nat → Bool} {F : fQ} {st l x y k q : Nat} (hst : st < 5) (hq : q < 4) (h : sqM M F st (l + 1) x y k) : sqM M F (tSS (4 * st + q)) l (x + tQS (4 * st + q) / 2 ^ 1 * 2 ^ l) (y + tQS (4 * st + q) % 2 * 2 ^ l) (k + q * 2 ^ (2 * l)) := by
  intro r hr
  have hb : q * (2 ^ l * 2 ^ l) + r < 2 ^ (l + 1) * 2 ^ (l + 1) := by
    rw [p4_s]
    have : q * (2 ^ l * 2 ^ l) ≤ 3 * (2 ^ l * 2 ^ l) := Nat.mul_le_mul_right _ (by omega)
    omega
  have e := h _ hb
  rw [cs_step hst, dg_of hq hr, cs_add] at e
  rw [p22, Nat.add_assoc, e]
  (try dsimp only)
  rw [Nat.pow_one, Nat.mul_comm (2 ^ l) (tQS (4 * st + q) / 2), Nat.mul_comm (2 ^ l) (tQS (4 * st + q) % 2), Nat.add_assoc, Nat.add_assoc]
theorem sqM_top {F : fQ} {cu N : Nat} (hcu : cu < 2) : sqM (fun k => inF F.1 F.2.1 F.2.2.1 F.2.2.2 (kc cu N k).1 (kc cu N k).2) F (st0 cu) N 0 0 0 := by
  intro r _
  rw [cs_kc hcu, Nat.zero_add, Nat.zero_add, Nat.zero_add]
end
section
/-! names, fields, the words of the tables (printed by gen/names.py) -/
def R_CI : String := "CurveIndex"
def R_Row : String := "CurveIndex$Row"
def R_Fr : String := "CurveIndex$Frame"
def R_RW : String := "CurveIndex$RunWalk"
def R_Mo : String := "CurveIndexModel"
def R_Law : String := "CurveIndexLaw"
def F_CI : u_T := fun k => match k with
  | 0 => (R_CI, "weaveRow", "LCurveIndex$Row;", true)
  | 1 => (R_CI, "turnRow", "LCurveIndex$Row;", true)
  | 2 => (R_CI, "levels", "I", false)
  | _ => (R_CI, "frame", "LCurveIndex$Frame;", false)
def t_CI : Nat → FieldType := fun k => match k with
  | 0 => .object "CurveIndex$Row"
  | 1 => .object "CurveIndex$Row"
  | 2 => .int
  | _ => .object "CurveIndex$Frame"
theorem n_CI : ∀ a, a < 4 → ∀ b, b < 4 → a ≠ b → (F_CI a).2.1 ≠ (F_CI b).2.1 := by decide +kernel
theorem t_CI_ok : ∀ k, k < 4 → parseFieldDescriptor (F_CI k).2.2.1 = some (t_CI k) := by decide +kernel
def F_Row : u_T := fun k => match k with
  | 0 => (R_Row, "keys", "[I", true)
  | 1 => (R_Row, "cells", "[I", true)
  | 2 => (R_Row, "weights", "[I", true)
  | _ => (R_Row, "size", "I", false)
def t_Row : Nat → FieldType := fun k => match k with
  | 0 => .array .int
  | 1 => .array .int
  | 2 => .array .int
  | _ => .int
theorem n_Row : ∀ a, a < 4 → ∀ b, b < 4 → a ≠ b → (F_Row a).2.1 ≠ (F_Row b).2.1 := by decide +kernel
theorem t_Row_ok : ∀ k, k < 4 → parseFieldDescriptor (F_Row k).2.2.1 = some (t_Row k) := by decide +kernel
def F_Fr : u_T := fun k => match k with
  | 0 => (R_Fr, "x0", "I", true)
  | 1 => (R_Fr, "y0", "I", true)
  | 2 => (R_Fr, "x1", "I", true)
  | _ => (R_Fr, "y1", "I", true)
def t_Fr : Nat → FieldType := fun k => match k with
  | 0 => .int
  | 1 => .int
  | 2 => .int
  | _ => .int
theorem n_Fr : ∀ a, a < 4 → ∀ b, b < 4 → a ≠ b → (F_Fr a).2.1 ≠ (F_Fr b).2.1 := by decide +kernel
theorem t_Fr_ok : ∀ k, k < 4 → parseFieldDescriptor (F_Fr k).2.2.1 = some (t_Fr k) := by decide +kernel
def F_RW : u_T := fun k => match k with
  | 0 => (R_RW, "frame", "LCurveIndex$Frame;", true)
  | 1 => (R_RW, "wanted", "I", true)
  | 2 => (R_RW, "count", "I", false)
  | 3 => (R_RW, "lastKey", "I", false)
  | 4 => (R_RW, "wantedFirst", "I", false)
  | _ => (R_RW, "wantedLast", "I", false)
def t_RW : Nat → FieldType := fun k => match k with
  | 0 => .object "CurveIndex$Frame"
  | 1 => .int
  | 2 => .int
  | 3 => .int
  | 4 => .int
  | _ => .int
theorem n_RW : ∀ a, a < 6 → ∀ b, b < 6 → a ≠ b → (F_RW a).2.1 ≠ (F_RW b).2.1 := by decide +kernel
theorem t_RW_ok : ∀ k, k < 6 → parseFieldDescriptor (F_RW k).2.2.1 = some (t_RW k) := by decide +kernel
def F_Mo : u_T := fun k => match k with
  | 0 => (R_Mo, "n", "I", false)
  | 1 => (R_Mo, "count", "I", false)
  | 2 => (R_Mo, "cells", "[I", true)
  | 3 => (R_Mo, "weights", "[I", true)
  | 4 => (R_Mo, "left", "I", false)
  | 5 => (R_Mo, "low", "I", false)
  | 6 => (R_Mo, "right", "I", false)
  | 7 => (R_Mo, "high", "I", false)
  | 8 => (R_Mo, "keys", "[I", true)
  | _ => (R_Mo, "other", "[I", true)
def t_Mo : Nat → FieldType := fun k => match k with
  | 0 => .int
  | 1 => .int
  | 2 => .array .int
  | 3 => .array .int
  | 4 => .int
  | 5 => .int
  | 6 => .int
  | 7 => .int
  | 8 => .array .int
  | _ => .array .int
theorem n_Mo : ∀ a, a < 10 → ∀ b, b < 10 → a ≠ b → (F_Mo a).2.1 ≠ (F_Mo b).2.1 := by decide +kernel
theorem t_Mo_ok : ∀ k, k < 10 → parseFieldDescriptor (F_Mo k).2.2.1 = some (t_Mo k) := by decide +kernel
abbrev cls : List vw_C := [(R_CI, F_CI, 4), (R_Row, F_Row, 4), (R_Fr, F_Fr, 4), (R_RW, F_RW, 6), (R_Mo, F_Mo, 10)]
abbrev b_CI_init : ByteArray := prog_1_method_1_code
def y_CI_init : MethodName := ⟨R_CI, "<init>", "()V"⟩
abbrev b_Row_init : ByteArray := prog_3_method_1_code
def y_Row_init : MethodName := ⟨R_Row, "<init>", "()V"⟩
abbrev b_Fr_init : ByteArray := prog_2_method_1_code
def y_Fr_init : MethodName := ⟨R_Fr, "<init>", "(IIII)V"⟩
abbrev b_CI_begin : ByteArray := prog_1_method_2_code
def y_CI_begin : MethodName := ⟨R_CI, "begin", "(I)Z"⟩
abbrev b_Row_clear : ByteArray := prog_3_method_2_code
def y_Row_clear : MethodName := ⟨R_Row, "clear", "()V"⟩
abbrev b_CI_key : ByteArray := prog_1_method_3_code
def y_CI_key : MethodName := ⟨R_CI, "key", "(III)I"⟩
abbrev b_CI_isCurve : ByteArray := prog_1_method_16_code
def y_CI_isCurve : MethodName := ⟨R_CI, "isCurve", "(I)Z"⟩
abbrev b_CI_isCell : ByteArray := prog_1_method_17_code
def y_CI_isCell : MethodName := ⟨R_CI, "isCell", "(II)Z"⟩
abbrev b_CI_keyOf : ByteArray := prog_1_method_25_code
def y_CI_keyOf : MethodName := ⟨R_CI, "keyOf", "(III)I"⟩
abbrev b_CI_firstState : ByteArray := prog_1_method_24_code
def y_CI_firstState : MethodName := ⟨R_CI, "firstState", "(I)I"⟩
abbrev b_CI_cell : ByteArray := prog_1_method_4_code
def y_CI_cell : MethodName := ⟨R_CI, "cell", "(II)I"⟩
abbrev b_CI_isKey : ByteArray := prog_1_method_18_code
def y_CI_isKey : MethodName := ⟨R_CI, "isKey", "(I)Z"⟩
abbrev b_CI_cellOf : ByteArray := prog_1_method_26_code
def y_CI_cellOf : MethodName := ⟨R_CI, "cellOf", "(II)I"⟩
abbrev b_CI_cellNumber : ByteArray := prog_1_method_19_code
def y_CI_cellNumber : MethodName := ⟨R_CI, "cellNumber", "(II)I"⟩
abbrev b_CI_put : ByteArray := prog_1_method_5_code
def y_CI_put : MethodName := ⟨R_CI, "put", "(III)I"⟩
abbrev b_Row_weightOf : ByteArray := prog_3_method_6_code
def y_Row_weightOf : MethodName := ⟨R_Row, "weightOf", "(I)I"⟩
abbrev b_Row_placeOf : ByteArray := prog_3_method_4_code
def y_Row_placeOf : MethodName := ⟨R_Row, "placeOf", "(I)I"⟩
abbrev b_Row_isKeyAt : ByteArray := prog_3_method_5_code
def y_Row_isKeyAt : MethodName := ⟨R_Row, "isKeyAt", "(II)Z"⟩
abbrev b_Row_isFull : ByteArray := prog_3_method_3_code
def y_Row_isFull : MethodName := ⟨R_Row, "isFull", "()Z"⟩
abbrev b_Row_keep : ByteArray := prog_3_method_7_code
def y_Row_keep : MethodName := ⟨R_Row, "keep", "(III)V"⟩
abbrev b_Row_moveTail : ByteArray := prog_3_method_9_code
def y_Row_moveTail : MethodName := ⟨R_Row, "moveTail", "(II)V"⟩
abbrev b_CI_take : ByteArray := prog_1_method_6_code
def y_CI_take : MethodName := ⟨R_CI, "take", "(II)I"⟩
abbrev b_Row_drop : ByteArray := prog_3_method_8_code
def y_Row_drop : MethodName := ⟨R_Row, "drop", "(I)V"⟩
abbrev b_CI_at : ByteArray := prog_1_method_7_code
def y_CI_at : MethodName := ⟨R_CI, "at", "(II)I"⟩
abbrev b_CI_many : ByteArray := prog_1_method_8_code
def y_CI_many : MethodName := ⟨R_CI, "many", "()I"⟩
abbrev b_CI_window : ByteArray := prog_1_method_9_code
def y_CI_window : MethodName := ⟨R_CI, "window", "(IIII)Z"⟩
abbrev b_CI_inside : ByteArray := prog_1_method_10_code
def y_CI_inside : MethodName := ⟨R_CI, "inside", "()I"⟩
abbrev b_CI_isInFrame : ByteArray := prog_1_method_22_code
def y_CI_isInFrame : MethodName := ⟨R_CI, "isInFrame", "(I)Z"⟩
abbrev b_CI_xOf : ByteArray := prog_1_method_20_code
def y_CI_xOf : MethodName := ⟨R_CI, "xOf", "(I)I"⟩
abbrev b_CI_yOf : ByteArray := prog_1_method_21_code
def y_CI_yOf : MethodName := ⟨R_CI, "yOf", "(I)I"⟩
abbrev b_Fr_holds : ByteArray := prog_2_method_2_code
def y_Fr_holds : MethodName := ⟨R_Fr, "holds", "(II)Z"⟩
abbrev b_CI_sum : ByteArray := prog_1_method_11_code
def y_CI_sum : MethodName := ⟨R_CI, "sum", "()I"⟩
abbrev b_CI_nth : ByteArray := prog_1_method_12_code
def y_CI_nth : MethodName := ⟨R_CI, "nth", "(II)I"⟩
abbrev b_CI_runs : ByteArray := prog_1_method_13_code
def y_CI_runs : MethodName := ⟨R_CI, "runs", "(I)I"⟩
abbrev b_CI_hasRuns : ByteArray := prog_1_method_27_code
def y_CI_hasRuns : MethodName := ⟨R_CI, "hasRuns", "(I)Z"⟩
abbrev b_Fr_cellCount : ByteArray := prog_2_method_5_code
def y_Fr_cellCount : MethodName := ⟨R_Fr, "cellCount", "()I"⟩
abbrev b_CI_walkRuns : ByteArray := prog_1_method_28_code
def y_CI_walkRuns : MethodName := ⟨R_CI, "walkRuns", "(II)LCurveIndex$RunWalk;"⟩
abbrev b_RW_init : ByteArray := prog_4_method_1_code
def y_RW_init : MethodName := ⟨R_RW, "<init>", "(LCurveIndex$Frame;I)V"⟩
abbrev b_RW_visit : ByteArray := prog_4_method_2_code
def y_RW_visit : MethodName := ⟨R_RW, "visit", "(LCurveIndex$RunWalk;IIIII)V"⟩
abbrev b_Fr_missesSquare : ByteArray := prog_2_method_4_code
def y_Fr_missesSquare : MethodName := ⟨R_Fr, "missesSquare", "(III)Z"⟩
abbrev b_Fr_holdsSquare : ByteArray := prog_2_method_3_code
def y_Fr_holdsSquare : MethodName := ⟨R_Fr, "holdsSquare", "(III)Z"⟩
abbrev b_RW_join : ByteArray := prog_4_method_3_code
def y_RW_join : MethodName := ⟨R_RW, "join", "(II)V"⟩
abbrev b_CI_run : ByteArray := prog_1_method_14_code
def y_CI_run : MethodName := ⟨R_CI, "run", "(III)I"⟩
abbrev b_CI_nearest : ByteArray := prog_1_method_15_code
def y_CI_nearest : MethodName := ⟨R_CI, "nearest", "(II)I"⟩
abbrev b_CI_squaredDistance : ByteArray := prog_1_method_23_code
def y_CI_squaredDistance : MethodName := ⟨R_CI, "squaredDistance", "(III)J"⟩
abbrev b_Mo_init : ByteArray := prog_6_method_1_code
def y_Mo_init : MethodName := ⟨R_Mo, "<init>", "()V"⟩
abbrev b_Mo_begin : ByteArray := prog_6_method_5_code
def y_Mo_begin : MethodName := ⟨R_Mo, "begin", "(I)Z"⟩
abbrev b_Mo_key : ByteArray := prog_6_method_9_code
def y_Mo_key : MethodName := ⟨R_Mo, "key", "(III)I"⟩
abbrev b_Mo_isCurve : ByteArray := prog_6_method_8_code
def y_Mo_isCurve : MethodName := ⟨R_Mo, "isCurve", "(I)Z"⟩
abbrev b_Mo_isCell : ByteArray := prog_6_method_4_code
def y_Mo_isCell : MethodName := ⟨R_Mo, "isCell", "(II)Z"⟩
abbrev b_Mo_side : ByteArray := prog_6_method_3_code
def y_Mo_side : MethodName := ⟨R_Mo, "side", "()I"⟩
abbrev b_Mo_keyOf : ByteArray := prog_6_method_6_code
def y_Mo_keyOf : MethodName := ⟨R_Mo, "keyOf", "(III)I"⟩
abbrev b_Mo_cell : ByteArray := prog_6_method_10_code
def y_Mo_cell : MethodName := ⟨R_Mo, "cell", "(II)I"⟩
abbrev b_Mo_cellOf : ByteArray := prog_6_method_7_code
def y_Mo_cellOf : MethodName := ⟨R_Mo, "cellOf", "(II)I"⟩
abbrev b_Mo_put : ByteArray := prog_6_method_12_code
def y_Mo_put : MethodName := ⟨R_Mo, "put", "(III)I"⟩
abbrev b_Mo_find : ByteArray := prog_6_method_11_code
def y_Mo_find : MethodName := ⟨R_Mo, "find", "(I)I"⟩
abbrev b_Mo_take : ByteArray := prog_6_method_13_code
def y_Mo_take : MethodName := ⟨R_Mo, "take", "(II)I"⟩
abbrev b_Mo_at : ByteArray := prog_6_method_14_code
def y_Mo_at : MethodName := ⟨R_Mo, "at", "(II)I"⟩
abbrev b_Mo_many : ByteArray := prog_6_method_15_code
def y_Mo_many : MethodName := ⟨R_Mo, "many", "()I"⟩
abbrev b_Mo_window : ByteArray := prog_6_method_16_code
def y_Mo_window : MethodName := ⟨R_Mo, "window", "(IIII)Z"⟩
abbrev b_Mo_inside : ByteArray := prog_6_method_18_code
def y_Mo_inside : MethodName := ⟨R_Mo, "inside", "()I"⟩
abbrev b_Mo_isInside : ByteArray := prog_6_method_17_code
def y_Mo_isInside : MethodName := ⟨R_Mo, "isInside", "(I)Z"⟩
abbrev b_Mo_sum : ByteArray := prog_6_method_19_code
def y_Mo_sum : MethodName := ⟨R_Mo, "sum", "()I"⟩
abbrev b_Mo_nth : ByteArray := prog_6_method_21_code
def y_Mo_nth : MethodName := ⟨R_Mo, "nth", "(II)I"⟩
abbrev b_Mo_keyAt : ByteArray := prog_6_method_20_code
def y_Mo_keyAt : MethodName := ⟨R_Mo, "keyAt", "(II)I"⟩
abbrev b_Mo_runs : ByteArray := prog_6_method_23_code
def y_Mo_runs : MethodName := ⟨R_Mo, "runs", "(I)I"⟩
abbrev b_Mo_sort : ByteArray := prog_6_method_22_code
def y_Mo_sort : MethodName := ⟨R_Mo, "sort", "(I)I"⟩
abbrev b_Mo_run : ByteArray := prog_6_method_24_code
def y_Mo_run : MethodName := ⟨R_Mo, "run", "(III)I"⟩
abbrev b_Mo_nearest : ByteArray := prog_6_method_25_code
def y_Mo_nearest : MethodName := ⟨R_Mo, "nearest", "(II)I"⟩
def wg_0 : List Cond := [Cond.selects y_Row_clear.cls y_Row_clear y_Row_clear, Cond.selects y_CI_isCell.cls y_CI_isCell y_CI_isCell, Cond.selects y_CI_keyOf.cls y_CI_keyOf y_CI_keyOf, Cond.selects y_CI_isKey.cls y_CI_isKey y_CI_isKey, Cond.selects y_CI_cellOf.cls y_CI_cellOf y_CI_cellOf, Cond.selects y_CI_cellNumber.cls y_CI_cellNumber y_CI_cellNumber, Cond.selects y_Row_weightOf.cls y_Row_weightOf y_Row_weightOf, Cond.selects y_Row_placeOf.cls y_Row_placeOf y_Row_placeOf, Cond.selects y_Row_isKeyAt.cls y_Row_isKeyAt y_Row_isKeyAt, Cond.selects y_Row_isFull.cls y_Row_isFull y_Row_isFull, Cond.selects y_Row_keep.cls y_Row_keep y_Row_keep, Cond.selects y_Row_moveTail.cls y_Row_moveTail y_Row_moveTail, Cond.selects y_Row_drop.cls y_Row_drop y_Row_drop, Cond.selects y_CI_isInFrame.cls y_CI_isInFrame y_CI_isInFrame, Cond.selects y_CI_xOf.cls y_CI_xOf y_CI_xOf, Cond.selects y_CI_yOf.cls y_CI_yOf y_CI_yOf, Cond.selects y_Fr_holds.cls y_Fr_holds y_Fr_holds, Cond.selects y_CI_hasRuns.cls y_CI_hasRuns y_CI_hasRuns, Cond.selects y_Fr_cellCount.cls y_Fr_cellCount y_Fr_cellCount, Cond.selects y_CI_walkRuns.cls y_CI_walkRuns y_CI_walkRuns, Cond.selects y_Fr_missesSquare.cls y_Fr_missesSquare y_Fr_missesSquare, Cond.selects y_Fr_holdsSquare.cls y_Fr_holdsSquare y_Fr_holdsSquare, Cond.selects y_RW_join.cls y_RW_join y_RW_join, Cond.selects y_CI_squaredDistance.cls y_CI_squaredDistance y_CI_squaredDistance, Cond.selects y_Mo_isCell.cls y_Mo_isCell y_Mo_isCell, Cond.selects y_Mo_side.cls y_Mo_side y_Mo_side, Cond.selects y_Mo_keyOf.cls y_Mo_keyOf y_Mo_keyOf, Cond.selects y_Mo_cellOf.cls y_Mo_cellOf y_Mo_cellOf, Cond.selects y_Mo_find.cls y_Mo_find y_Mo_find, Cond.selects y_Mo_isInside.cls y_Mo_isInside y_Mo_isInside, Cond.selects y_Mo_keyAt.cls y_Mo_keyAt y_Mo_keyAt, Cond.selects y_Mo_sort.cls y_Mo_sort y_Mo_sort, Cond.initialized R_Law, Cond.initialized R_CI, Cond.initialized R_Row, Cond.initialized R_Fr, Cond.initialized R_Mo, Cond.initialized "java/lang/System", Cond.initialized R_RW, Cond.classLink R_Law 7 R_CI]
def wg_1 : List Cond := [Cond.instantiable R_CI 4, Cond.methodLink R_Law 9 y_CI_init, Cond.instanceMethod y_CI_init, Cond.code y_CI_init b_CI_init 1 none, Cond.methodLink R_CI 1 objectInit, Cond.instanceMethod objectInit, Cond.code objectInit ⟨#[0xb1]⟩ 1 none, Cond.classLink R_CI 7 R_Row, Cond.instantiable R_Row 4, Cond.instanceMethod y_Row_init, Cond.code y_Row_init b_Row_init 1 none, Cond.methodLink R_Row 3 objectInit, Cond.fieldLink R_Row 9 R_Row "keys" "[I", Cond.fieldLink R_Row 15 R_Row "cells" "[I", Cond.fieldLink R_Row 18 R_Row "weights" "[I", Cond.fieldLink R_Row 21 R_Row "size" "I", Cond.laysFinal R_Row R_Row "keys" "[I", Cond.laysFinal R_Row R_Row "cells" "[I", Cond.laysFinal R_Row R_Row "weights" "[I", Cond.lays R_Row R_Row "size" "I", Cond.arrayClass .int, Cond.classLink R_CI 23 R_Fr, Cond.instantiable R_Fr 4, Cond.instanceMethod y_Fr_init, Cond.code y_Fr_init b_Fr_init 5 none, Cond.methodLink R_Fr 1 objectInit, Cond.fieldLink R_Fr 7 R_Fr "x0" "I", Cond.fieldLink R_Fr 13 R_Fr "y0" "I", Cond.fieldLink R_Fr 16 R_Fr "x1" "I", Cond.fieldLink R_Fr 19 R_Fr "y1" "I", Cond.laysFinal R_Fr R_Fr "x0" "I", Cond.laysFinal R_Fr R_Fr "y0" "I", Cond.laysFinal R_Fr R_Fr "x1" "I", Cond.laysFinal R_Fr R_Fr "y1" "I", Cond.fieldLink R_CI 10 R_CI "weaveRow" "LCurveIndex$Row;", Cond.fieldLink R_CI 16 R_CI "turnRow" "LCurveIndex$Row;", Cond.fieldLink R_CI 19 R_CI "levels" "I", Cond.fieldLink R_CI 28 R_CI "frame" "LCurveIndex$Frame;", Cond.laysFinal R_CI R_CI "weaveRow" "LCurveIndex$Row;", Cond.laysFinal R_CI R_CI "turnRow" "LCurveIndex$Row;"]
def wg_2 : List Cond := [Cond.lays R_CI R_CI "levels" "I", Cond.lays R_CI R_CI "frame" "LCurveIndex$Frame;", Cond.methodLink R_Law 13 y_CI_begin, Cond.instanceMethod y_CI_begin, Cond.selects y_CI_begin.cls y_CI_begin y_CI_begin, Cond.code y_CI_begin b_CI_begin 2 (some .boolean), Cond.instanceMethod y_Row_clear, Cond.code y_Row_clear b_Row_clear 1 none, Cond.methodLink R_Law 18 y_CI_key, Cond.instanceMethod y_CI_key, Cond.selects y_CI_key.cls y_CI_key y_CI_key, Cond.code y_CI_key b_CI_key 4 (some .int), Cond.methodLink R_CI 35 y_CI_isCurve, Cond.static y_CI_isCurve, Cond.code y_CI_isCurve b_CI_isCurve 1 (some .boolean), Cond.methodLink R_CI 39 y_CI_isCell, Cond.instanceMethod y_CI_isCell, Cond.code y_CI_isCell b_CI_isCell 4 (some .boolean), Cond.methodLink R_CI 43 y_CI_keyOf, Cond.instanceMethod y_CI_keyOf, Cond.code y_CI_keyOf b_CI_keyOf 9 (some .int), Cond.methodLink R_CI 117 y_CI_firstState, Cond.static y_CI_firstState, Cond.code y_CI_firstState b_CI_firstState 1 (some .int), Cond.fieldLink R_CI 120 R_CI "STEP_OF_QUARTER" "[I", Cond.fieldLink R_CI 123 R_CI "STATE_AFTER_STEP" "[I", Cond.methodLink R_Law 23 y_CI_cell, Cond.instanceMethod y_CI_cell, Cond.selects y_CI_cell.cls y_CI_cell y_CI_cell, Cond.code y_CI_cell b_CI_cell 3 (some .int), Cond.methodLink R_CI 47 y_CI_isKey, Cond.instanceMethod y_CI_isKey, Cond.code y_CI_isKey b_CI_isKey 2 (some .boolean), Cond.methodLink R_CI 50 y_CI_cellOf, Cond.instanceMethod y_CI_cellOf, Cond.code y_CI_cellOf b_CI_cellOf 9 (some .int), Cond.fieldLink R_CI 126 R_CI "QUARTER_OF_STEP" "[I", Cond.methodLink R_CI 62 y_CI_cellNumber, Cond.instanceMethod y_CI_cellNumber, Cond.code y_CI_cellNumber b_CI_cellNumber 3 (some .int)]
def wg_3 : List Cond := [Cond.methodLink R_Law 28 y_CI_put, Cond.instanceMethod y_CI_put, Cond.selects y_CI_put.cls y_CI_put y_CI_put, Cond.code y_CI_put b_CI_put 7 (some .int), Cond.instanceMethod y_Row_weightOf, Cond.code y_Row_weightOf b_Row_weightOf 3 (some .int), Cond.methodLink R_Row 25 y_Row_placeOf, Cond.instanceMethod y_Row_placeOf, Cond.code y_Row_placeOf b_Row_placeOf 3 (some .int), Cond.methodLink R_Row 29 y_Row_isKeyAt, Cond.instanceMethod y_Row_isKeyAt, Cond.code y_Row_isKeyAt b_Row_isKeyAt 3 (some .boolean), Cond.instanceMethod y_Row_isFull, Cond.code y_Row_isFull b_Row_isFull 1 (some .boolean), Cond.instanceMethod y_Row_keep, Cond.code y_Row_keep b_Row_keep 5 none, Cond.methodLink R_Row 33 y_Row_isFull, Cond.methodLink R_Row 37 y_Row_moveTail, Cond.instanceMethod y_Row_moveTail, Cond.code y_Row_moveTail b_Row_moveTail 4 none, Cond.methodLink R_Row 41 arraycopyName, Cond.static arraycopyName, Cond.native arraycopyName, Cond.methodLink R_Law 32 y_CI_take, Cond.instanceMethod y_CI_take, Cond.selects y_CI_take.cls y_CI_take y_CI_take, Cond.code y_CI_take b_CI_take 5 (some .int), Cond.instanceMethod y_Row_drop, Cond.code y_Row_drop b_Row_drop 3 none, Cond.methodLink R_Law 36 y_CI_at, Cond.instanceMethod y_CI_at, Cond.selects y_CI_at.cls y_CI_at y_CI_at, Cond.code y_CI_at b_CI_at 3 (some .int), Cond.methodLink R_Law 40 y_CI_many, Cond.instanceMethod y_CI_many, Cond.selects y_CI_many.cls y_CI_many y_CI_many, Cond.code y_CI_many b_CI_many 1 (some .int), Cond.methodLink R_Law 45 y_CI_window, Cond.instanceMethod y_CI_window, Cond.selects y_CI_window.cls y_CI_window y_CI_window]
def wg_4 : List Cond := [Cond.code y_CI_window b_CI_window 5 (some .boolean), Cond.methodLink R_Law 50 y_CI_inside, Cond.instanceMethod y_CI_inside, Cond.selects y_CI_inside.cls y_CI_inside y_CI_inside, Cond.code y_CI_inside b_CI_inside 3 (some .int), Cond.methodLink R_CI 80 y_CI_isInFrame, Cond.instanceMethod y_CI_isInFrame, Cond.code y_CI_isInFrame b_CI_isInFrame 2 (some .boolean), Cond.methodLink R_CI 108 y_CI_xOf, Cond.instanceMethod y_CI_xOf, Cond.code y_CI_xOf b_CI_xOf 2 (some .int), Cond.methodLink R_CI 111 y_CI_yOf, Cond.instanceMethod y_CI_yOf, Cond.code y_CI_yOf b_CI_yOf 2 (some .int), Cond.instanceMethod y_Fr_holds, Cond.code y_Fr_holds b_Fr_holds 3 (some .boolean), Cond.methodLink R_Law 54 y_CI_sum, Cond.instanceMethod y_CI_sum, Cond.selects y_CI_sum.cls y_CI_sum y_CI_sum, Cond.code y_CI_sum b_CI_sum 3 (some .int), Cond.methodLink R_Law 58 y_CI_nth, Cond.instanceMethod y_CI_nth, Cond.selects y_CI_nth.cls y_CI_nth y_CI_nth, Cond.code y_CI_nth b_CI_nth 7 (some .int), Cond.methodLink R_Law 62 y_CI_runs, Cond.instanceMethod y_CI_runs, Cond.selects y_CI_runs.cls y_CI_runs y_CI_runs, Cond.code y_CI_runs b_CI_runs 2 (some .int), Cond.methodLink R_CI 86 y_CI_hasRuns, Cond.instanceMethod y_CI_hasRuns, Cond.code y_CI_hasRuns b_CI_hasRuns 2 (some .boolean), Cond.instanceMethod y_Fr_cellCount, Cond.code y_Fr_cellCount b_Fr_cellCount 1 (some .int), Cond.methodLink R_CI 89 y_CI_walkRuns, Cond.instanceMethod y_CI_walkRuns, Cond.code y_CI_walkRuns b_CI_walkRuns 4 (some (.object "CurveIndex$RunWalk")), Cond.classLink R_CI 94 R_RW, Cond.instantiable R_RW 6, Cond.instanceMethod y_RW_init, Cond.code y_RW_init b_RW_init 3 none]
def wg_5 : List Cond := [Cond.methodLink R_RW 3 objectInit, Cond.fieldLink R_RW 24 R_RW "frame" "LCurveIndex$Frame;", Cond.fieldLink R_RW 28 R_RW "wanted" "I", Cond.fieldLink R_RW 9 R_RW "count" "I", Cond.fieldLink R_RW 15 R_RW "lastKey" "I", Cond.fieldLink R_RW 18 R_RW "wantedFirst" "I", Cond.fieldLink R_RW 21 R_RW "wantedLast" "I", Cond.laysFinal R_RW R_RW "frame" "LCurveIndex$Frame;", Cond.laysFinal R_RW R_RW "wanted" "I", Cond.lays R_RW R_RW "count" "I", Cond.lays R_RW R_RW "lastKey" "I", Cond.lays R_RW R_RW "wantedFirst" "I", Cond.lays R_RW R_RW "wantedLast" "I", Cond.static y_RW_visit, Cond.code y_RW_visit b_RW_visit 9 none, Cond.instanceMethod y_Fr_missesSquare, Cond.code y_Fr_missesSquare b_Fr_missesSquare 4 (some .boolean), Cond.instanceMethod y_Fr_holdsSquare, Cond.code y_Fr_holdsSquare b_Fr_holdsSquare 4 (some .boolean), Cond.methodLink R_Fr 22 y_Fr_holds, Cond.methodLink R_RW 40 y_RW_join, Cond.instanceMethod y_RW_join, Cond.code y_RW_join b_RW_join 3 none, Cond.methodLink R_RW 51 y_RW_visit, Cond.methodLink R_Law 67 y_CI_run, Cond.instanceMethod y_CI_run, Cond.selects y_CI_run.cls y_CI_run y_CI_run, Cond.code y_CI_run b_CI_run 5 (some .int), Cond.methodLink R_Law 71 y_CI_nearest, Cond.instanceMethod y_CI_nearest, Cond.selects y_CI_nearest.cls y_CI_nearest y_CI_nearest, Cond.code y_CI_nearest b_CI_nearest 10 (some .int), Cond.methodLink R_CI 104 y_CI_squaredDistance, Cond.instanceMethod y_CI_squaredDistance, Cond.code y_CI_squaredDistance b_CI_squaredDistance 8 (some .long), Cond.classLink R_Law 10 R_Mo, Cond.instantiable R_Mo 10, Cond.methodLink R_Law 12 y_Mo_init, Cond.instanceMethod y_Mo_init, Cond.code y_Mo_init b_Mo_init 1 none]
def wg_6 : List Cond := [Cond.methodLink R_Mo 1 objectInit, Cond.fieldLink R_Mo 7 R_Mo "n" "I", Cond.fieldLink R_Mo 30 R_Mo "count" "I", Cond.fieldLink R_Mo 13 R_Mo "cells" "[I", Cond.fieldLink R_Mo 17 R_Mo "weights" "[I", Cond.fieldLink R_Mo 33 R_Mo "left" "I", Cond.fieldLink R_Mo 36 R_Mo "low" "I", Cond.fieldLink R_Mo 39 R_Mo "right" "I", Cond.fieldLink R_Mo 42 R_Mo "high" "I", Cond.fieldLink R_Mo 20 R_Mo "keys" "[I", Cond.fieldLink R_Mo 23 R_Mo "other" "[I", Cond.lays R_Mo R_Mo "n" "I", Cond.lays R_Mo R_Mo "count" "I", Cond.laysFinal R_Mo R_Mo "cells" "[I", Cond.laysFinal R_Mo R_Mo "weights" "[I", Cond.lays R_Mo R_Mo "left" "I", Cond.lays R_Mo R_Mo "low" "I", Cond.lays R_Mo R_Mo "right" "I", Cond.lays R_Mo R_Mo "high" "I", Cond.laysFinal R_Mo R_Mo "keys" "[I", Cond.laysFinal R_Mo R_Mo "other" "[I", Cond.methodLink R_Law 17 y_Mo_begin, Cond.instanceMethod y_Mo_begin, Cond.selects y_Mo_begin.cls y_Mo_begin y_Mo_begin, Cond.code y_Mo_begin b_Mo_begin 2 (some .boolean), Cond.methodLink R_Law 22 y_Mo_key, Cond.instanceMethod y_Mo_key, Cond.selects y_Mo_key.cls y_Mo_key y_Mo_key, Cond.code y_Mo_key b_Mo_key 4 (some .int), Cond.methodLink R_Mo 45 y_Mo_isCurve, Cond.static y_Mo_isCurve, Cond.code y_Mo_isCurve b_Mo_isCurve 1 (some .boolean), Cond.methodLink R_Mo 49 y_Mo_isCell, Cond.instanceMethod y_Mo_isCell, Cond.code y_Mo_isCell b_Mo_isCell 3 (some .boolean), Cond.methodLink R_Mo 26 y_Mo_side, Cond.instanceMethod y_Mo_side, Cond.code y_Mo_side b_Mo_side 1 (some .int), Cond.methodLink R_Mo 53 y_Mo_keyOf, Cond.instanceMethod y_Mo_keyOf]
def wg_7 : List Cond := [Cond.code y_Mo_keyOf b_Mo_keyOf 9 (some .int), Cond.methodLink R_Law 27 y_Mo_cell, Cond.instanceMethod y_Mo_cell, Cond.selects y_Mo_cell.cls y_Mo_cell y_Mo_cell, Cond.code y_Mo_cell b_Mo_cell 3 (some .int), Cond.methodLink R_Mo 57 y_Mo_cellOf, Cond.instanceMethod y_Mo_cellOf, Cond.code y_Mo_cellOf b_Mo_cellOf 9 (some .int), Cond.methodLink R_Law 31 y_Mo_put, Cond.instanceMethod y_Mo_put, Cond.selects y_Mo_put.cls y_Mo_put y_Mo_put, Cond.code y_Mo_put b_Mo_put 6 (some .int), Cond.methodLink R_Mo 61 y_Mo_find, Cond.instanceMethod y_Mo_find, Cond.code y_Mo_find b_Mo_find 3 (some .int), Cond.methodLink R_Law 35 y_Mo_take, Cond.instanceMethod y_Mo_take, Cond.selects y_Mo_take.cls y_Mo_take y_Mo_take, Cond.code y_Mo_take b_Mo_take 5 (some .int), Cond.methodLink R_Law 39 y_Mo_at, Cond.instanceMethod y_Mo_at, Cond.selects y_Mo_at.cls y_Mo_at y_Mo_at, Cond.code y_Mo_at b_Mo_at 4 (some .int), Cond.methodLink R_Law 44 y_Mo_many, Cond.instanceMethod y_Mo_many, Cond.selects y_Mo_many.cls y_Mo_many y_Mo_many, Cond.code y_Mo_many b_Mo_many 1 (some .int), Cond.methodLink R_Law 49 y_Mo_window, Cond.instanceMethod y_Mo_window, Cond.selects y_Mo_window.cls y_Mo_window y_Mo_window, Cond.code y_Mo_window b_Mo_window 5 (some .boolean), Cond.methodLink R_Law 53 y_Mo_inside, Cond.instanceMethod y_Mo_inside, Cond.selects y_Mo_inside.cls y_Mo_inside y_Mo_inside, Cond.code y_Mo_inside b_Mo_inside 3 (some .int), Cond.methodLink R_Mo 65 y_Mo_isInside, Cond.instanceMethod y_Mo_isInside, Cond.code y_Mo_isInside b_Mo_isInside 4 (some .boolean), Cond.methodLink R_Law 57 y_Mo_sum, Cond.instanceMethod y_Mo_sum]
def wg_8 : List Cond := [Cond.selects y_Mo_sum.cls y_Mo_sum y_Mo_sum, Cond.code y_Mo_sum b_Mo_sum 3 (some .int), Cond.methodLink R_Law 61 y_Mo_nth, Cond.instanceMethod y_Mo_nth, Cond.selects y_Mo_nth.cls y_Mo_nth y_Mo_nth, Cond.code y_Mo_nth b_Mo_nth 7 (some .int), Cond.methodLink R_Mo 68 y_Mo_keyAt, Cond.instanceMethod y_Mo_keyAt, Cond.code y_Mo_keyAt b_Mo_keyAt 3 (some .int), Cond.methodLink R_Law 66 y_Mo_runs, Cond.instanceMethod y_Mo_runs, Cond.selects y_Mo_runs.cls y_Mo_runs y_Mo_runs, Cond.code y_Mo_runs b_Mo_runs 5 (some .int), Cond.methodLink R_Mo 73 y_Mo_sort, Cond.instanceMethod y_Mo_sort, Cond.code y_Mo_sort b_Mo_sort 13 (some .int), Cond.constantLong R_Mo 71 4096, Cond.methodLink R_Law 70 y_Mo_run, Cond.instanceMethod y_Mo_run, Cond.selects y_Mo_run.cls y_Mo_run y_Mo_run, Cond.code y_Mo_run b_Mo_run 8 (some .int), Cond.methodLink R_Law 74 y_Mo_nearest, Cond.instanceMethod y_Mo_nearest, Cond.selects y_Mo_nearest.cls y_Mo_nearest y_Mo_nearest, Cond.code y_Mo_nearest b_Mo_nearest 13 (some .int)]
def wg : List Cond := wg_0 ++ (wg_1 ++ (wg_2 ++ (wg_3 ++ (wg_4 ++ (wg_5 ++ (wg_6 ++ (wg_7 ++ (wg_8))))))))
theorem wq (i : Nat) {w : Cond} (h : wg[i]? = some w) : w ∈ wg := List.mem_of_getElem? h
set_option maxRecDepth 100000 in
theorem wg_0_in : ∀ w ∈ wg_0, w ∈ lw_tbl := fun w hw => by
  have h : wg_0 = [0, 1, 2, 3, 4, 5, 6, 7, 8, 9, 10, 11, 12, 13, 14, 15, 16, 17, 18, 19, 20, 21, 22, 23, 24, 25, 26, 27, 28, 29, 30, 31, 32, 33, 34, 35, 36, 37, 38, 39].filterMap (fun i => lw_tbl[i]?) := by decide +kernel
  rw [h] at hw
  obtain ⟨i, -, hi⟩ := List.mem_filterMap.mp hw
  exact List.mem_of_getElem? hi
theorem wg_0_good : wg_0.all goodWord = true := by decide +kernel
set_option maxRecDepth 100000 in
theorem wg_1_in : ∀ w ∈ wg_1, w ∈ lw_tbl := fun w hw => by
  have h : wg_1 = [40, 41, 42, 43, 44, 45, 46, 47, 48, 50, 51, 52, 53, 54, 56, 58, 60, 62, 64, 66, 69, 70, 71, 73, 74, 75, 76, 77, 78, 79, 80, 82, 84, 86, 89, 90, 91, 92, 93, 95].filterMap (fun i => lw_tbl[i]?) := by decide +kernel
  rw [h] at hw
  obtain ⟨i, -, hi⟩ := List.mem_filterMap.mp hw
  exact List.mem_of_getElem? hi
theorem wg_1_good : wg_1.all goodWord = true := by decide +kernel
set_option maxRecDepth 100000 in
theorem wg_2_in : ∀ w ∈ wg_2, w ∈ lw_tbl := fun w hw => by
  have h : wg_2 = [97, 99, 102, 103, 104, 105, 108, 109, 110, 111, 112, 113, 114, 115, 116, 117, 119, 120, 121, 123, 124, 125, 126, 127, 128, 130, 132, 133, 134, 135, 136, 138, 139, 140, 142, 143, 144, 146, 148, 149].filterMap (fun i => lw_tbl[i]?) := by decide +kernel
  rw [h] at hw
  obtain ⟨i, -, hi⟩ := List.mem_filterMap.mp hw
  exact List.mem_of_getElem? hi
theorem wg_2_good : wg_2.all goodWord = true := by decide +kernel
set_option maxRecDepth 100000 in
theorem wg_3_in : ∀ w ∈ wg_3, w ∈ lw_tbl := fun w hw => by
  have h : wg_3 = [150, 151, 152, 153, 156, 157, 158, 160, 161, 162, 164, 165, 168, 169, 172, 173, 174, 175, 177, 178, 179, 180, 181, 182, 183, 184, 185, 188, 189, 190, 191, 192, 193, 194, 195, 196, 197, 198, 199, 200].filterMap (fun i => lw_tbl[i]?) := by decide +kernel
  rw [h] at hw
  obtain ⟨i, -, hi⟩ := List.mem_filterMap.mp hw
  exact List.mem_of_getElem? hi
theorem wg_3_good : wg_3.all goodWord = true := by decide +kernel
set_option maxRecDepth 100000 in
theorem wg_4_in : ∀ w ∈ wg_4, w ∈ lw_tbl := fun w hw => by
  have h : wg_4 = [201, 202, 203, 204, 205, 206, 208, 209, 210, 212, 213, 214, 216, 217, 220, 221, 222, 223, 224, 225, 226, 227, 228, 229, 230, 231, 232, 233, 234, 236, 237, 240, 241, 242, 244, 245, 246, 247, 249, 250].filterMap (fun i => lw_tbl[i]?) := by decide +kernel
  rw [h] at hw
  obtain ⟨i, -, hi⟩ := List.mem_filterMap.mp hw
  exact List.mem_of_getElem? hi
theorem wg_4_good : wg_4.all goodWord = true := by decide +kernel
set_option maxRecDepth 100000 in
theorem wg_5_in : ∀ w ∈ wg_5, w ∈ lw_tbl := fun w hw => by
  have h : wg_5 = [251, 252, 253, 254, 256, 257, 259, 261, 263, 265, 267, 269, 271, 275, 276, 279, 280, 283, 284, 285, 286, 288, 289, 292, 293, 294, 295, 296, 297, 298, 299, 300, 301, 303, 304, 305, 306, 307, 308, 309].filterMap (fun i => lw_tbl[i]?) := by decide +kernel
  rw [h] at hw
  obtain ⟨i, -, hi⟩ := List.mem_filterMap.mp hw
  exact List.mem_of_getElem? hi
theorem wg_5_good : wg_5.all goodWord = true := by decide +kernel
set_option maxRecDepth 100000 in
theorem wg_6_in : ∀ w ∈ wg_6, w ∈ lw_tbl := fun w hw => by
  have h : wg_6 = [310, 311, 312, 313, 314, 315, 316, 317, 318, 319, 320, 321, 323, 325, 327, 329, 331, 333, 335, 337, 339, 342, 343, 344, 345, 346, 347, 348, 349, 350, 351, 352, 353, 355, 356, 357, 359, 360, 361, 363].filterMap (fun i => lw_tbl[i]?) := by decide +kernel
  rw [h] at hw
  obtain ⟨i, -, hi⟩ := List.mem_filterMap.mp hw
  exact List.mem_of_getElem? hi
theorem wg_6_good : wg_6.all goodWord = true := by decide +kernel
set_option maxRecDepth 100000 in
theorem wg_7_in : ∀ w ∈ wg_7, w ∈ lw_tbl := fun w hw => by
  have h : wg_7 = [364, 365, 366, 367, 368, 369, 371, 372, 373, 374, 375, 376, 377, 379, 380, 381, 382, 383, 384, 385, 386, 387, 388, 389, 390, 391, 392, 393, 394, 395, 396, 397, 398, 399, 400, 401, 403, 404, 405, 406].filterMap (fun i => lw_tbl[i]?) := by decide +kernel
  rw [h] at hw
  obtain ⟨i, -, hi⟩ := List.mem_filterMap.mp hw
  exact List.mem_of_getElem? hi
theorem wg_7_good : wg_7.all goodWord = true := by decide +kernel
set_option maxRecDepth 100000 in
theorem wg_8_in : ∀ w ∈ wg_8, w ∈ lw_tbl := fun w hw => by
  have h : wg_8 = [407, 408, 409, 410, 411, 412, 413, 415, 416, 417, 418, 419, 420, 421, 423, 424, 425, 426, 427, 428, 429, 430, 431, 432, 433].filterMap (fun i => lw_tbl[i]?) := by decide +kernel
  rw [h] at hw
  obtain ⟨i, -, hi⟩ := List.mem_filterMap.mp hw
  exact List.mem_of_getElem? hi
theorem wg_8_good : wg_8.all goodWord = true := by decide +kernel
theorem wg_in : ∀ w ∈ wg, w ∈ lw_tbl := List.forall_mem_append.mpr ⟨wg_0_in, List.forall_mem_append.mpr ⟨wg_1_in, List.forall_mem_append.mpr ⟨wg_2_in, List.forall_mem_append.mpr ⟨wg_3_in, List.forall_mem_append.mpr ⟨wg_4_in, List.forall_mem_append.mpr ⟨wg_5_in, List.forall_mem_append.mpr ⟨wg_6_in, List.forall_mem_append.mpr ⟨wg_7_in, wg_8_in⟩⟩⟩⟩⟩⟩⟩⟩
theorem wg_good : ∀ w ∈ wg, (w.onTables && w.keeps) = true ∨ ∃ ty, w = .arrayClass ty := by
  have h : ∀ w ∈ wg, goodWord w = true := List.forall_mem_append.mpr ⟨(List.all_eq_true.mp wg_0_good), List.forall_mem_append.mpr ⟨(List.all_eq_true.mp wg_1_good), List.forall_mem_append.mpr ⟨(List.all_eq_true.mp wg_2_good), List.forall_mem_append.mpr ⟨(List.all_eq_true.mp wg_3_good), List.forall_mem_append.mpr ⟨(List.all_eq_true.mp wg_4_good), List.forall_mem_append.mpr ⟨(List.all_eq_true.mp wg_5_good), List.forall_mem_append.mpr ⟨(List.all_eq_true.mp wg_6_good), List.forall_mem_append.mpr ⟨(List.all_eq_true.mp wg_7_good), (List.all_eq_true.mp wg_8_good)⟩⟩⟩⟩⟩⟩⟩⟩
  exact fun w hw => good_of_word (h w hw)
def nws : List Cond := [Cond.methodLinkNest R_CI 9 y_Row_init R_CI, Cond.fieldLinkNest R_CI 76 R_Row "cells" "[I" R_CI, Cond.fieldLinkNest R_CI 83 R_Row "weights" "[I" R_CI, Cond.fieldLinkNest R_CI 73 R_Row "size" "I" R_CI, Cond.methodLinkNest R_CI 25 y_Fr_init R_CI, Cond.methodLinkNest R_CI 32 y_Row_clear R_CI, Cond.methodLinkNest R_CI 54 y_Row_weightOf R_CI, Cond.methodLinkNest R_CI 58 y_Row_isFull R_CI, Cond.methodLinkNest R_CI 65 y_Row_keep R_CI, Cond.methodLinkNest R_CI 69 y_Row_drop R_CI, Cond.methodLinkNest R_CI 114 y_Fr_holds R_CI, Cond.methodLinkNest R_CI 129 y_Fr_cellCount R_CI, Cond.methodLinkNest R_CI 133 y_RW_init R_CI, Cond.fieldLinkNest R_CI 93 R_RW "count" "I" R_CI, Cond.fieldLinkNest R_CI 98 R_RW "wantedFirst" "I" R_CI, Cond.fieldLinkNest R_CI 101 R_RW "wantedLast" "I" R_CI, Cond.methodLinkNest R_CI 136 y_RW_visit R_CI, Cond.methodLinkNest R_RW 31 y_Fr_missesSquare R_CI, Cond.methodLinkNest R_RW 37 y_Fr_holdsSquare R_CI, Cond.fieldLinkNest R_RW 44 R_CI "QUARTER_OF_STEP" "[I" R_CI, Cond.fieldLinkNest R_RW 48 R_CI "STATE_AFTER_STEP" "[I" R_CI]
theorem nws_in : ∀ w ∈ nws, w ∈ lw_tbl := fun w hw => by
  have h : nws = [49, 55, 57, 59, 72, 106, 154, 166, 170, 186, 218, 238, 248, 255, 258, 260, 274, 277, 281, 290, 291].filterMap (fun i => lw_tbl[i]?) := by decide +kernel
  rw [h] at hw
  obtain ⟨i, -, hi⟩ := List.mem_filterMap.mp hw
  exact List.mem_of_getElem? hi
theorem nws_tab : ∀ w ∈ nws, w.onTables = true := by decide +kernel
theorem nwq (i : Nat) {w : Cond} (h : nws[i]? = some w) : w ∈ nws := List.mem_of_getElem? h
theorem nws_warm {s U : State} (hW : s.WarmedH U.vm) : ∀ w ∈ nws, va_Nw w s → va_Nw w U := by
  intro w hw h
  simp only [nws, List.mem_cons, List.not_mem_nil, or_false] at hw
  rcases hw with rfl | rfl | rfl | rfl | rfl | rfl | rfl | rfl | rfl | rfl | rfl | rfl | rfl | rfl | rfl | rfl | rfl | rfl | rfl | rfl | rfl <;> first | exact va_Nw.warmF hW h | exact va_Nw.warmM hW h
theorem in_CI : ∀ w ∈ u_ws R_CI F_CI 4, w ∈ wg := by
  show ∀ w ∈ [Cond.laysFinal R_CI R_CI "weaveRow" "LCurveIndex$Row;", Cond.laysFinal R_CI R_CI "turnRow" "LCurveIndex$Row;", Cond.lays R_CI R_CI "levels" "I", Cond.lays R_CI R_CI "frame" "LCurveIndex$Frame;"], w ∈ wg
  exact List.forall_mem_cons.mpr ⟨(wq 78 (by decide +kernel)), List.forall_mem_cons.mpr ⟨(wq 79 (by decide +kernel)), List.forall_mem_cons.mpr ⟨(wq 80 (by decide +kernel)), List.forall_mem_cons.mpr ⟨(wq 81 (by decide +kernel)), fun _ h => absurd h List.not_mem_nil⟩⟩⟩⟩
theorem in_Row : ∀ w ∈ u_ws R_Row F_Row 4, w ∈ wg := by
  show ∀ w ∈ [Cond.laysFinal R_Row R_Row "keys" "[I", Cond.laysFinal R_Row R_Row "cells" "[I", Cond.laysFinal R_Row R_Row "weights" "[I", Cond.lays R_Row R_Row "size" "I"], w ∈ wg
  exact List.forall_mem_cons.mpr ⟨(wq 56 (by decide +kernel)), List.forall_mem_cons.mpr ⟨(wq 57 (by decide +kernel)), List.forall_mem_cons.mpr ⟨(wq 58 (by decide +kernel)), List.forall_mem_cons.mpr ⟨(wq 59 (by decide +kernel)), fun _ h => absurd h List.not_mem_nil⟩⟩⟩⟩
theorem in_Fr : ∀ w ∈ u_ws R_Fr F_Fr 4, w ∈ wg := by
  show ∀ w ∈ [Cond.laysFinal R_Fr R_Fr "x0" "I", Cond.laysFinal R_Fr R_Fr "y0" "I", Cond.laysFinal R_Fr R_Fr "x1" "I", Cond.laysFinal R_Fr R_Fr "y1" "I"], w ∈ wg
  exact List.forall_mem_cons.mpr ⟨(wq 70 (by decide +kernel)), List.forall_mem_cons.mpr ⟨(wq 71 (by decide +kernel)), List.forall_mem_cons.mpr ⟨(wq 72 (by decide +kernel)), List.forall_mem_cons.mpr ⟨(wq 73 (by decide +kernel)), fun _ h => absurd h List.not_mem_nil⟩⟩⟩⟩
theorem in_RW : ∀ w ∈ u_ws R_RW F_RW 6, w ∈ wg := by
  show ∀ w ∈ [Cond.laysFinal R_RW R_RW "frame" "LCurveIndex$Frame;", Cond.laysFinal R_RW R_RW "wanted" "I", Cond.lays R_RW R_RW "count" "I", Cond.lays R_RW R_RW "lastKey" "I", Cond.lays R_RW R_RW "wantedFirst" "I", Cond.lays R_RW R_RW "wantedLast" "I"], w ∈ wg
  exact List.forall_mem_cons.mpr ⟨(wq 207 (by decide +kernel)), List.forall_mem_cons.mpr ⟨(wq 208 (by decide +kernel)), List.forall_mem_cons.mpr ⟨(wq 209 (by decide +kernel)), List.forall_mem_cons.mpr ⟨(wq 210 (by decide +kernel)), List.forall_mem_cons.mpr ⟨(wq 211 (by decide +kernel)), List.forall_mem_cons.mpr ⟨(wq 212 (by decide +kernel)), fun _ h => absurd h List.not_mem_nil⟩⟩⟩⟩⟩⟩
theorem in_Mo : ∀ w ∈ u_ws R_Mo F_Mo 10, w ∈ wg := by
  show ∀ w ∈ [Cond.lays R_Mo R_Mo "n" "I", Cond.lays R_Mo R_Mo "count" "I", Cond.laysFinal R_Mo R_Mo "cells" "[I", Cond.laysFinal R_Mo R_Mo "weights" "[I", Cond.lays R_Mo R_Mo "left" "I", Cond.lays R_Mo R_Mo "low" "I", Cond.lays R_Mo R_Mo "right" "I", Cond.lays R_Mo R_Mo "high" "I", Cond.laysFinal R_Mo R_Mo "keys" "[I", Cond.laysFinal R_Mo R_Mo "other" "[I"], w ∈ wg
  exact List.forall_mem_cons.mpr ⟨(wq 251 (by decide +kernel)), List.forall_mem_cons.mpr ⟨(wq 252 (by decide +kernel)), List.forall_mem_cons.mpr ⟨(wq 253 (by decide +kernel)), List.forall_mem_cons.mpr ⟨(wq 254 (by decide +kernel)), List.forall_mem_cons.mpr ⟨(wq 255 (by decide +kernel)), List.forall_mem_cons.mpr ⟨(wq 256 (by decide +kernel)), List.forall_mem_cons.mpr ⟨(wq 257 (by decide +kernel)), List.forall_mem_cons.mpr ⟨(wq 258 (by decide +kernel)), List.forall_mem_cons.mpr ⟨(wq 259 (by decide +kernel)), List.forall_mem_cons.mpr ⟨(wq 260 (by decide +kernel)), fun _ h => absurd h List.not_mem_nil⟩⟩⟩⟩⟩⟩⟩⟩⟩⟩
end
section
theorem d_CI_init_0 : decode b_CI_init 0 = .ok (.aload_n 0, 1) := by decide +kernel
theorem d_CI_init_1 : decode b_CI_init 1 = .ok (.invokespecial 1, 3) := by decide +kernel
theorem d_CI_init_4 : decode b_CI_init 4 = .ok (.aload_n 0, 1) := by decide +kernel
theorem d_CI_init_5 : decode b_CI_init 5 = .ok (.new 7, 3) := by decide +kernel
theorem d_CI_init_8 : decode b_CI_init 8 = .ok (.dup, 1) := by decide +kernel
theorem d_CI_init_9 : decode b_CI_init 9 = .ok (.invokespecial 9, 3) := by decide +kernel
theorem d_CI_init_12 : decode b_CI_init 12 = .ok (.putfield 10, 3) := by decide +kernel
theorem d_CI_init_15 : decode b_CI_init 15 = .ok (.aload_n 0, 1) := by decide +kernel
theorem d_CI_init_16 : decode b_CI_init 16 = .ok (.new 7, 3) := by decide +kernel
theorem d_CI_init_19 : decode b_CI_init 19 = .ok (.dup, 1) := by decide +kernel
theorem d_CI_init_20 : decode b_CI_init 20 = .ok (.invokespecial 9, 3) := by decide +kernel
theorem d_CI_init_23 : decode b_CI_init 23 = .ok (.putfield 16, 3) := by decide +kernel
theorem d_CI_init_26 : decode b_CI_init 26 = .ok (.aload_n 0, 1) := by decide +kernel
theorem d_CI_init_27 : decode b_CI_init 27 = .ok (.iconst 1, 1) := by decide +kernel
theorem d_CI_init_28 : decode b_CI_init 28 = .ok (.putfield 19, 3) := by decide +kernel
theorem d_CI_init_31 : decode b_CI_init 31 = .ok (.aload_n 0, 1) := by decide +kernel
theorem d_CI_init_32 : decode b_CI_init 32 = .ok (.new 23, 3) := by decide +kernel
theorem d_CI_init_35 : decode b_CI_init 35 = .ok (.dup, 1) := by decide +kernel
theorem d_CI_init_36 : decode b_CI_init 36 = .ok (.iconst 0, 1) := by decide +kernel
theorem d_CI_init_37 : decode b_CI_init 37 = .ok (.iconst 0, 1) := by decide +kernel
theorem d_CI_init_38 : decode b_CI_init 38 = .ok (.iconst 0, 1) := by decide +kernel
theorem d_CI_init_39 : decode b_CI_init 39 = .ok (.iconst 0, 1) := by decide +kernel
theorem d_CI_init_40 : decode b_CI_init 40 = .ok (.invokespecial 25, 3) := by decide +kernel
theorem d_CI_init_43 : decode b_CI_init 43 = .ok (.putfield 28, 3) := by decide +kernel
theorem d_CI_init_46 : decode b_CI_init 46 = .ok (.return_, 1) := by decide +kernel
theorem d_CI_begin_0 : decode b_CI_begin 0 = .ok (.iload_n 1, 1) := by decide +kernel
theorem d_CI_begin_1 : decode b_CI_begin 1 = .ok (.iconst 1, 1) := by decide +kernel
theorem d_CI_begin_2 : decode b_CI_begin 2 = .ok (.if_icmp .lt 9, 3) := by decide +kernel
theorem d_CI_begin_5 : decode b_CI_begin 5 = .ok (.iload_n 1, 1) := by decide +kernel
theorem d_CI_begin_6 : decode b_CI_begin 6 = .ok (.bipush 15, 2) := by decide +kernel
theorem d_CI_begin_8 : decode b_CI_begin 8 = .ok (.if_icmp .le 5, 3) := by decide +kernel
theorem d_CI_begin_11 : decode b_CI_begin 11 = .ok (.iconst 0, 1) := by decide +kernel
theorem d_CI_begin_12 : decode b_CI_begin 12 = .ok (.ireturn, 1) := by decide +kernel
theorem d_CI_begin_13 : decode b_CI_begin 13 = .ok (.aload_n 0, 1) := by decide +kernel
theorem d_CI_begin_14 : decode b_CI_begin 14 = .ok (.iload_n 1, 1) := by decide +kernel
theorem d_CI_begin_15 : decode b_CI_begin 15 = .ok (.putfield 19, 3) := by decide +kernel
theorem d_CI_begin_18 : decode b_CI_begin 18 = .ok (.aload_n 0, 1) := by decide +kernel
theorem d_CI_begin_19 : decode b_CI_begin 19 = .ok (.getfield 10, 3) := by decide +kernel
theorem d_CI_begin_22 : decode b_CI_begin 22 = .ok (.invokevirtual 32, 3) := by decide +kernel
theorem d_CI_begin_25 : decode b_CI_begin 25 = .ok (.aload_n 0, 1) := by decide +kernel
theorem d_CI_begin_26 : decode b_CI_begin 26 = .ok (.getfield 16, 3) := by decide +kernel
theorem d_CI_begin_29 : decode b_CI_begin 29 = .ok (.invokevirtual 32, 3) := by decide +kernel
theorem d_CI_begin_32 : decode b_CI_begin 32 = .ok (.aload_n 0, 1) := by decide +kernel
theorem d_CI_begin_33 : decode b_CI_begin 33 = .ok (.new 23, 3) := by decide +kernel
theorem d_CI_begin_36 : decode b_CI_begin 36 = .ok (.dup, 1) := by decide +kernel
theorem d_CI_begin_37 : decode b_CI_begin 37 = .ok (.iconst 0, 1) := by decide +kernel
theorem d_CI_begin_38 : decode b_CI_begin 38 = .ok (.iconst 0, 1) := by decide +kernel
theorem d_CI_begin_39 : decode b_CI_begin 39 = .ok (.iconst 0, 1) := by decide +kernel
theorem d_CI_begin_40 : decode b_CI_begin 40 = .ok (.iconst 0, 1) := by decide +kernel
theorem d_CI_begin_41 : decode b_CI_begin 41 = .ok (.invokespecial 25, 3) := by decide +kernel
theorem d_CI_begin_44 : decode b_CI_begin 44 = .ok (.putfield 28, 3) := by decide +kernel
theorem d_CI_begin_47 : decode b_CI_begin 47 = .ok (.iconst 1, 1) := by decide +kernel
theorem d_CI_begin_48 : decode b_CI_begin 48 = .ok (.ireturn, 1) := by decide +kernel
theorem d_CI_key_0 : decode b_CI_key 0 = .ok (.iload_n 1, 1) := by decide +kernel
theorem d_CI_key_1 : decode b_CI_key 1 = .ok (.invokestatic 35, 3) := by decide +kernel
theorem d_CI_key_4 : decode b_CI_key 4 = .ok (.ifCond .eq 22, 3) := by decide +kernel
theorem d_CI_key_7 : decode b_CI_key 7 = .ok (.aload_n 0, 1) := by decide +kernel
theorem d_CI_key_8 : decode b_CI_key 8 = .ok (.iload_n 2, 1) := by decide +kernel
theorem d_CI_key_9 : decode b_CI_key 9 = .ok (.iload_n 3, 1) := by decide +kernel
theorem d_CI_key_10 : decode b_CI_key 10 = .ok (.invokevirtual 39, 3) := by decide +kernel
theorem d_CI_key_13 : decode b_CI_key 13 = .ok (.ifCond .eq 13, 3) := by decide +kernel
theorem d_CI_key_16 : decode b_CI_key 16 = .ok (.aload_n 0, 1) := by decide +kernel
theorem d_CI_key_17 : decode b_CI_key 17 = .ok (.iload_n 1, 1) := by decide +kernel
theorem d_CI_key_18 : decode b_CI_key 18 = .ok (.iload_n 2, 1) := by decide +kernel
theorem d_CI_key_19 : decode b_CI_key 19 = .ok (.iload_n 3, 1) := by decide +kernel
theorem d_CI_key_20 : decode b_CI_key 20 = .ok (.invokevirtual 43, 3) := by decide +kernel
theorem d_CI_key_23 : decode b_CI_key 23 = .ok (.goto 4, 3) := by decide +kernel
theorem d_CI_key_26 : decode b_CI_key 26 = .ok (.iconst (-1), 1) := by decide +kernel
theorem d_CI_key_27 : decode b_CI_key 27 = .ok (.ireturn, 1) := by decide +kernel
theorem d_CI_cell_0 : decode b_CI_cell 0 = .ok (.iload_n 1, 1) := by decide +kernel
theorem d_CI_cell_1 : decode b_CI_cell 1 = .ok (.invokestatic 35, 3) := by decide +kernel
theorem d_CI_cell_4 : decode b_CI_cell 4 = .ok (.ifCond .eq 20, 3) := by decide +kernel
theorem d_CI_cell_7 : decode b_CI_cell 7 = .ok (.aload_n 0, 1) := by decide +kernel
theorem d_CI_cell_8 : decode b_CI_cell 8 = .ok (.iload_n 2, 1) := by decide +kernel
theorem d_CI_cell_9 : decode b_CI_cell 9 = .ok (.invokevirtual 47, 3) := by decide +kernel
theorem d_CI_cell_12 : decode b_CI_cell 12 = .ok (.ifCond .eq 12, 3) := by decide +kernel
theorem d_CI_cell_15 : decode b_CI_cell 15 = .ok (.aload_n 0, 1) := by decide +kernel
theorem d_CI_cell_16 : decode b_CI_cell 16 = .ok (.iload_n 1, 1) := by decide +kernel
theorem d_CI_cell_17 : decode b_CI_cell 17 = .ok (.iload_n 2, 1) := by decide +kernel
theorem d_CI_cell_18 : decode b_CI_cell 18 = .ok (.invokevirtual 50, 3) := by decide +kernel
theorem d_CI_cell_21 : decode b_CI_cell 21 = .ok (.goto 4, 3) := by decide +kernel
theorem d_CI_cell_24 : decode b_CI_cell 24 = .ok (.iconst (-1), 1) := by decide +kernel
theorem d_CI_cell_25 : decode b_CI_cell 25 = .ok (.ireturn, 1) := by decide +kernel
theorem d_CI_put_0 : decode b_CI_put 0 = .ok (.aload_n 0, 1) := by decide +kernel
theorem d_CI_put_1 : decode b_CI_put 1 = .ok (.iload_n 1, 1) := by decide +kernel
theorem d_CI_put_2 : decode b_CI_put 2 = .ok (.iload_n 2, 1) := by decide +kernel
theorem d_CI_put_3 : decode b_CI_put 3 = .ok (.invokevirtual 39, 3) := by decide +kernel
theorem d_CI_put_6 : decode b_CI_put 6 = .ok (.ifCond .eq 15, 3) := by decide +kernel
theorem d_CI_put_9 : decode b_CI_put 9 = .ok (.iload_n 3, 1) := by decide +kernel
theorem d_CI_put_10 : decode b_CI_put 10 = .ok (.iconst 1, 1) := by decide +kernel
theorem d_CI_put_11 : decode b_CI_put 11 = .ok (.if_icmp .lt 10, 3) := by decide +kernel
theorem d_CI_put_14 : decode b_CI_put 14 = .ok (.iload_n 3, 1) := by decide +kernel
theorem d_CI_put_15 : decode b_CI_put 15 = .ok (.sipush 999, 3) := by decide +kernel
theorem d_CI_put_18 : decode b_CI_put 18 = .ok (.if_icmp .le 5, 3) := by decide +kernel
theorem d_CI_put_21 : decode b_CI_put 21 = .ok (.iconst (-1), 1) := by decide +kernel
theorem d_CI_put_22 : decode b_CI_put 22 = .ok (.ireturn, 1) := by decide +kernel
theorem d_CI_put_23 : decode b_CI_put 23 = .ok (.aload_n 0, 1) := by decide +kernel
theorem d_CI_put_24 : decode b_CI_put 24 = .ok (.iconst 1, 1) := by decide +kernel
theorem d_CI_put_25 : decode b_CI_put 25 = .ok (.iload_n 1, 1) := by decide +kernel
theorem d_CI_put_26 : decode b_CI_put 26 = .ok (.iload_n 2, 1) := by decide +kernel
theorem d_CI_put_27 : decode b_CI_put 27 = .ok (.invokevirtual 43, 3) := by decide +kernel
theorem d_CI_put_30 : decode b_CI_put 30 = .ok (.istore 4, 2) := by decide +kernel
theorem d_CI_put_32 : decode b_CI_put 32 = .ok (.aload_n 0, 1) := by decide +kernel
theorem d_CI_put_33 : decode b_CI_put 33 = .ok (.getfield 16, 3) := by decide +kernel
theorem d_CI_put_36 : decode b_CI_put 36 = .ok (.iload 4, 2) := by decide +kernel
theorem d_CI_put_38 : decode b_CI_put 38 = .ok (.invokevirtual 54, 3) := by decide +kernel
theorem d_CI_put_41 : decode b_CI_put 41 = .ok (.istore 5, 2) := by decide +kernel
theorem d_CI_put_43 : decode b_CI_put 43 = .ok (.iload 5, 2) := by decide +kernel
theorem d_CI_put_45 : decode b_CI_put 45 = .ok (.ifCond .ne 15, 3) := by decide +kernel
theorem d_CI_put_48 : decode b_CI_put 48 = .ok (.aload_n 0, 1) := by decide +kernel
theorem d_CI_put_49 : decode b_CI_put 49 = .ok (.getfield 16, 3) := by decide +kernel
theorem d_CI_put_52 : decode b_CI_put 52 = .ok (.invokevirtual 58, 3) := by decide +kernel
theorem d_CI_put_55 : decode b_CI_put 55 = .ok (.ifCond .eq 5, 3) := by decide +kernel
theorem d_CI_put_58 : decode b_CI_put 58 = .ok (.iconst (-1), 1) := by decide +kernel
theorem d_CI_put_59 : decode b_CI_put 59 = .ok (.ireturn, 1) := by decide +kernel
theorem d_CI_put_60 : decode b_CI_put 60 = .ok (.aload_n 0, 1) := by decide +kernel
theorem d_CI_put_61 : decode b_CI_put 61 = .ok (.iload_n 1, 1) := by decide +kernel
theorem d_CI_put_62 : decode b_CI_put 62 = .ok (.iload_n 2, 1) := by decide +kernel
theorem d_CI_put_63 : decode b_CI_put 63 = .ok (.invokevirtual 62, 3) := by decide +kernel
theorem d_CI_put_66 : decode b_CI_put 66 = .ok (.istore 6, 2) := by decide +kernel
theorem d_CI_put_68 : decode b_CI_put 68 = .ok (.aload_n 0, 1) := by decide +kernel
theorem d_CI_put_69 : decode b_CI_put 69 = .ok (.getfield 10, 3) := by decide +kernel
theorem d_CI_put_72 : decode b_CI_put 72 = .ok (.aload_n 0, 1) := by decide +kernel
theorem d_CI_put_73 : decode b_CI_put 73 = .ok (.iconst 0, 1) := by decide +kernel
theorem d_CI_put_74 : decode b_CI_put 74 = .ok (.iload_n 1, 1) := by decide +kernel
theorem d_CI_put_75 : decode b_CI_put 75 = .ok (.iload_n 2, 1) := by decide +kernel
theorem d_CI_put_76 : decode b_CI_put 76 = .ok (.invokevirtual 43, 3) := by decide +kernel
theorem d_CI_put_79 : decode b_CI_put 79 = .ok (.iload 6, 2) := by decide +kernel
theorem d_CI_put_81 : decode b_CI_put 81 = .ok (.iload_n 3, 1) := by decide +kernel
theorem d_CI_put_82 : decode b_CI_put 82 = .ok (.invokevirtual 65, 3) := by decide +kernel
theorem d_CI_put_85 : decode b_CI_put 85 = .ok (.aload_n 0, 1) := by decide +kernel
theorem d_CI_put_86 : decode b_CI_put 86 = .ok (.getfield 16, 3) := by decide +kernel
theorem d_CI_put_89 : decode b_CI_put 89 = .ok (.iload 4, 2) := by decide +kernel
theorem d_CI_put_91 : decode b_CI_put 91 = .ok (.iload 6, 2) := by decide +kernel
theorem d_CI_put_93 : decode b_CI_put 93 = .ok (.iload_n 3, 1) := by decide +kernel
theorem d_CI_put_94 : decode b_CI_put 94 = .ok (.invokevirtual 65, 3) := by decide +kernel
theorem d_CI_put_97 : decode b_CI_put 97 = .ok (.iload 5, 2) := by decide +kernel
theorem d_CI_put_99 : decode b_CI_put 99 = .ok (.ireturn, 1) := by decide +kernel
theorem d_CI_take_0 : decode b_CI_take 0 = .ok (.aload_n 0, 1) := by decide +kernel
theorem d_CI_take_1 : decode b_CI_take 1 = .ok (.iload_n 1, 1) := by decide +kernel
theorem d_CI_take_2 : decode b_CI_take 2 = .ok (.iload_n 2, 1) := by decide +kernel
theorem d_CI_take_3 : decode b_CI_take 3 = .ok (.invokevirtual 39, 3) := by decide +kernel
theorem d_CI_take_6 : decode b_CI_take 6 = .ok (.ifCond .ne 5, 3) := by decide +kernel
theorem d_CI_take_9 : decode b_CI_take 9 = .ok (.iconst (-1), 1) := by decide +kernel
theorem d_CI_take_10 : decode b_CI_take 10 = .ok (.ireturn, 1) := by decide +kernel
theorem d_CI_take_11 : decode b_CI_take 11 = .ok (.aload_n 0, 1) := by decide +kernel
theorem d_CI_take_12 : decode b_CI_take 12 = .ok (.iconst 1, 1) := by decide +kernel
theorem d_CI_take_13 : decode b_CI_take 13 = .ok (.iload_n 1, 1) := by decide +kernel
theorem d_CI_take_14 : decode b_CI_take 14 = .ok (.iload_n 2, 1) := by decide +kernel
theorem d_CI_take_15 : decode b_CI_take 15 = .ok (.invokevirtual 43, 3) := by decide +kernel
theorem d_CI_take_18 : decode b_CI_take 18 = .ok (.istore_n 3, 1) := by decide +kernel
theorem d_CI_take_19 : decode b_CI_take 19 = .ok (.aload_n 0, 1) := by decide +kernel
theorem d_CI_take_20 : decode b_CI_take 20 = .ok (.getfield 16, 3) := by decide +kernel
theorem d_CI_take_23 : decode b_CI_take 23 = .ok (.iload_n 3, 1) := by decide +kernel
theorem d_CI_take_24 : decode b_CI_take 24 = .ok (.invokevirtual 54, 3) := by decide +kernel
theorem d_CI_take_27 : decode b_CI_take 27 = .ok (.istore 4, 2) := by decide +kernel
theorem d_CI_take_29 : decode b_CI_take 29 = .ok (.aload_n 0, 1) := by decide +kernel
theorem d_CI_take_30 : decode b_CI_take 30 = .ok (.getfield 10, 3) := by decide +kernel
theorem d_CI_take_33 : decode b_CI_take 33 = .ok (.aload_n 0, 1) := by decide +kernel
theorem d_CI_take_34 : decode b_CI_take 34 = .ok (.iconst 0, 1) := by decide +kernel
theorem d_CI_take_35 : decode b_CI_take 35 = .ok (.iload_n 1, 1) := by decide +kernel
theorem d_CI_take_36 : decode b_CI_take 36 = .ok (.iload_n 2, 1) := by decide +kernel
theorem d_CI_take_37 : decode b_CI_take 37 = .ok (.invokevirtual 43, 3) := by decide +kernel
theorem d_CI_take_40 : decode b_CI_take 40 = .ok (.invokevirtual 69, 3) := by decide +kernel
theorem d_CI_take_43 : decode b_CI_take 43 = .ok (.aload_n 0, 1) := by decide +kernel
theorem d_CI_take_44 : decode b_CI_take 44 = .ok (.getfield 16, 3) := by decide +kernel
theorem d_CI_take_47 : decode b_CI_take 47 = .ok (.iload_n 3, 1) := by decide +kernel
theorem d_CI_take_48 : decode b_CI_take 48 = .ok (.invokevirtual 69, 3) := by decide +kernel
theorem d_CI_take_51 : decode b_CI_take 51 = .ok (.iload 4, 2) := by decide +kernel
theorem d_CI_take_53 : decode b_CI_take 53 = .ok (.ireturn, 1) := by decide +kernel
theorem d_CI_at_0 : decode b_CI_at 0 = .ok (.aload_n 0, 1) := by decide +kernel
theorem d_CI_at_1 : decode b_CI_at 1 = .ok (.iload_n 1, 1) := by decide +kernel
theorem d_CI_at_2 : decode b_CI_at 2 = .ok (.iload_n 2, 1) := by decide +kernel
theorem d_CI_at_3 : decode b_CI_at 3 = .ok (.invokevirtual 39, 3) := by decide +kernel
theorem d_CI_at_6 : decode b_CI_at 6 = .ok (.ifCond .eq 20, 3) := by decide +kernel
theorem d_CI_at_9 : decode b_CI_at 9 = .ok (.aload_n 0, 1) := by decide +kernel
theorem d_CI_at_10 : decode b_CI_at 10 = .ok (.getfield 16, 3) := by decide +kernel
theorem d_CI_at_13 : decode b_CI_at 13 = .ok (.aload_n 0, 1) := by decide +kernel
theorem d_CI_at_14 : decode b_CI_at 14 = .ok (.iconst 1, 1) := by decide +kernel
theorem d_CI_at_15 : decode b_CI_at 15 = .ok (.iload_n 1, 1) := by decide +kernel
theorem d_CI_at_16 : decode b_CI_at 16 = .ok (.iload_n 2, 1) := by decide +kernel
theorem d_CI_at_17 : decode b_CI_at 17 = .ok (.invokevirtual 43, 3) := by decide +kernel
theorem d_CI_at_20 : decode b_CI_at 20 = .ok (.invokevirtual 54, 3) := by decide +kernel
theorem d_CI_at_23 : decode b_CI_at 23 = .ok (.goto 4, 3) := by decide +kernel
theorem d_CI_at_26 : decode b_CI_at 26 = .ok (.iconst (-1), 1) := by decide +kernel
theorem d_CI_at_27 : decode b_CI_at 27 = .ok (.ireturn, 1) := by decide +kernel
theorem d_CI_many_0 : decode b_CI_many 0 = .ok (.aload_n 0, 1) := by decide +kernel
theorem d_CI_many_1 : decode b_CI_many 1 = .ok (.getfield 16, 3) := by decide +kernel
theorem d_CI_many_4 : decode b_CI_many 4 = .ok (.getfield 73, 3) := by decide +kernel
theorem d_CI_many_7 : decode b_CI_many 7 = .ok (.ireturn, 1) := by decide +kernel
theorem d_CI_window_0 : decode b_CI_window 0 = .ok (.aload_n 0, 1) := by decide +kernel
theorem d_CI_window_1 : decode b_CI_window 1 = .ok (.iload_n 1, 1) := by decide +kernel
theorem d_CI_window_2 : decode b_CI_window 2 = .ok (.iload_n 2, 1) := by decide +kernel
theorem d_CI_window_3 : decode b_CI_window 3 = .ok (.invokevirtual 39, 3) := by decide +kernel
theorem d_CI_window_6 : decode b_CI_window 6 = .ok (.ifCond .eq 24, 3) := by decide +kernel
theorem d_CI_window_9 : decode b_CI_window 9 = .ok (.aload_n 0, 1) := by decide +kernel
theorem d_CI_window_10 : decode b_CI_window 10 = .ok (.iload_n 3, 1) := by decide +kernel
theorem d_CI_window_11 : decode b_CI_window 11 = .ok (.iload 4, 2) := by decide +kernel
theorem d_CI_window_13 : decode b_CI_window 13 = .ok (.invokevirtual 39, 3) := by decide +kernel
theorem d_CI_window_16 : decode b_CI_window 16 = .ok (.ifCond .eq 14, 3) := by decide +kernel
theorem d_CI_window_19 : decode b_CI_window 19 = .ok (.iload_n 3, 1) := by decide +kernel
theorem d_CI_window_20 : decode b_CI_window 20 = .ok (.iload_n 1, 1) := by decide +kernel
theorem d_CI_window_21 : decode b_CI_window 21 = .ok (.if_icmp .lt 9, 3) := by decide +kernel
theorem d_CI_window_24 : decode b_CI_window 24 = .ok (.iload 4, 2) := by decide +kernel
theorem d_CI_window_26 : decode b_CI_window 26 = .ok (.iload_n 2, 1) := by decide +kernel
theorem d_CI_window_27 : decode b_CI_window 27 = .ok (.if_icmp .ge 5, 3) := by decide +kernel
theorem d_CI_window_30 : decode b_CI_window 30 = .ok (.iconst 0, 1) := by decide +kernel
theorem d_CI_window_31 : decode b_CI_window 31 = .ok (.ireturn, 1) := by decide +kernel
theorem d_CI_window_32 : decode b_CI_window 32 = .ok (.aload_n 0, 1) := by decide +kernel
theorem d_CI_window_33 : decode b_CI_window 33 = .ok (.new 23, 3) := by decide +kernel
theorem d_CI_window_36 : decode b_CI_window 36 = .ok (.dup, 1) := by decide +kernel
theorem d_CI_window_37 : decode b_CI_window 37 = .ok (.iload_n 1, 1) := by decide +kernel
theorem d_CI_window_38 : decode b_CI_window 38 = .ok (.iload_n 2, 1) := by decide +kernel
theorem d_CI_window_39 : decode b_CI_window 39 = .ok (.iload_n 3, 1) := by decide +kernel
theorem d_CI_window_40 : decode b_CI_window 40 = .ok (.iload 4, 2) := by decide +kernel
theorem d_CI_window_42 : decode b_CI_window 42 = .ok (.invokespecial 25, 3) := by decide +kernel
theorem d_CI_window_45 : decode b_CI_window 45 = .ok (.putfield 28, 3) := by decide +kernel
theorem d_CI_window_48 : decode b_CI_window 48 = .ok (.iconst 1, 1) := by decide +kernel
theorem d_CI_window_49 : decode b_CI_window 49 = .ok (.ireturn, 1) := by decide +kernel
theorem d_CI_inside_0 : decode b_CI_inside 0 = .ok (.iconst 0, 1) := by decide +kernel
theorem d_CI_inside_1 : decode b_CI_inside 1 = .ok (.istore_n 1, 1) := by decide +kernel
theorem d_CI_inside_2 : decode b_CI_inside 2 = .ok (.iconst 0, 1) := by decide +kernel
theorem d_CI_inside_3 : decode b_CI_inside 3 = .ok (.istore_n 2, 1) := by decide +kernel
theorem d_CI_inside_4 : decode b_CI_inside 4 = .ok (.iload_n 2, 1) := by decide +kernel
theorem d_CI_inside_5 : decode b_CI_inside 5 = .ok (.aload_n 0, 1) := by decide +kernel
theorem d_CI_inside_6 : decode b_CI_inside 6 = .ok (.getfield 16, 3) := by decide +kernel
theorem d_CI_inside_9 : decode b_CI_inside 9 = .ok (.getfield 73, 3) := by decide +kernel
theorem d_CI_inside_12 : decode b_CI_inside 12 = .ok (.if_icmp .ge 28, 3) := by decide +kernel
theorem d_CI_inside_15 : decode b_CI_inside 15 = .ok (.aload_n 0, 1) := by decide +kernel
theorem d_CI_inside_16 : decode b_CI_inside 16 = .ok (.aload_n 0, 1) := by decide +kernel
theorem d_CI_inside_17 : decode b_CI_inside 17 = .ok (.getfield 16, 3) := by decide +kernel
theorem d_CI_inside_20 : decode b_CI_inside 20 = .ok (.getfield 76, 3) := by decide +kernel
theorem d_CI_inside_23 : decode b_CI_inside 23 = .ok (.iload_n 2, 1) := by decide +kernel
theorem d_CI_inside_24 : decode b_CI_inside 24 = .ok (.iaload, 1) := by decide +kernel
theorem d_CI_inside_25 : decode b_CI_inside 25 = .ok (.invokevirtual 80, 3) := by decide +kernel
theorem d_CI_inside_28 : decode b_CI_inside 28 = .ok (.ifCond .eq 6, 3) := by decide +kernel
theorem d_CI_inside_31 : decode b_CI_inside 31 = .ok (.iinc 1 1, 3) := by decide +kernel
theorem d_CI_inside_34 : decode b_CI_inside 34 = .ok (.iinc 2 1, 3) := by decide +kernel
theorem d_CI_inside_37 : decode b_CI_inside 37 = .ok (.goto (-33), 3) := by decide +kernel
theorem d_CI_inside_40 : decode b_CI_inside 40 = .ok (.iload_n 1, 1) := by decide +kernel
theorem d_CI_inside_41 : decode b_CI_inside 41 = .ok (.ireturn, 1) := by decide +kernel
theorem d_CI_sum_0 : decode b_CI_sum 0 = .ok (.iconst 0, 1) := by decide +kernel
theorem d_CI_sum_1 : decode b_CI_sum 1 = .ok (.istore_n 1, 1) := by decide +kernel
theorem d_CI_sum_2 : decode b_CI_sum 2 = .ok (.iconst 0, 1) := by decide +kernel
theorem d_CI_sum_3 : decode b_CI_sum 3 = .ok (.istore_n 2, 1) := by decide +kernel
theorem d_CI_sum_4 : decode b_CI_sum 4 = .ok (.iload_n 2, 1) := by decide +kernel
theorem d_CI_sum_5 : decode b_CI_sum 5 = .ok (.aload_n 0, 1) := by decide +kernel
theorem d_CI_sum_6 : decode b_CI_sum 6 = .ok (.getfield 16, 3) := by decide +kernel
theorem d_CI_sum_9 : decode b_CI_sum 9 = .ok (.getfield 73, 3) := by decide +kernel
theorem d_CI_sum_12 : decode b_CI_sum 12 = .ok (.if_icmp .ge 37, 3) := by decide +kernel
theorem d_CI_sum_15 : decode b_CI_sum 15 = .ok (.aload_n 0, 1) := by decide +kernel
theorem d_CI_sum_16 : decode b_CI_sum 16 = .ok (.aload_n 0, 1) := by decide +kernel
theorem d_CI_sum_17 : decode b_CI_sum 17 = .ok (.getfield 16, 3) := by decide +kernel
theorem d_CI_sum_20 : decode b_CI_sum 20 = .ok (.getfield 76, 3) := by decide +kernel
theorem d_CI_sum_23 : decode b_CI_sum 23 = .ok (.iload_n 2, 1) := by decide +kernel
theorem d_CI_sum_24 : decode b_CI_sum 24 = .ok (.iaload, 1) := by decide +kernel
theorem d_CI_sum_25 : decode b_CI_sum 25 = .ok (.invokevirtual 80, 3) := by decide +kernel
theorem d_CI_sum_28 : decode b_CI_sum 28 = .ok (.ifCond .eq 15, 3) := by decide +kernel
theorem d_CI_sum_31 : decode b_CI_sum 31 = .ok (.iload_n 1, 1) := by decide +kernel
theorem d_CI_sum_32 : decode b_CI_sum 32 = .ok (.aload_n 0, 1) := by decide +kernel
theorem d_CI_sum_33 : decode b_CI_sum 33 = .ok (.getfield 16, 3) := by decide +kernel
theorem d_CI_sum_36 : decode b_CI_sum 36 = .ok (.getfield 83, 3) := by decide +kernel
theorem d_CI_sum_39 : decode b_CI_sum 39 = .ok (.iload_n 2, 1) := by decide +kernel
theorem d_CI_sum_40 : decode b_CI_sum 40 = .ok (.iaload, 1) := by decide +kernel
theorem d_CI_sum_41 : decode b_CI_sum 41 = .ok (.iadd, 1) := by decide +kernel
theorem d_CI_sum_42 : decode b_CI_sum 42 = .ok (.istore_n 1, 1) := by decide +kernel
theorem d_CI_sum_43 : decode b_CI_sum 43 = .ok (.iinc 2 1, 3) := by decide +kernel
theorem d_CI_sum_46 : decode b_CI_sum 46 = .ok (.goto (-42), 3) := by decide +kernel
theorem d_CI_sum_49 : decode b_CI_sum 49 = .ok (.iload_n 1, 1) := by decide +kernel
theorem d_CI_sum_50 : decode b_CI_sum 50 = .ok (.ireturn, 1) := by decide +kernel
theorem d_CI_nth_0 : decode b_CI_nth 0 = .ok (.iload_n 1, 1) := by decide +kernel
theorem d_CI_nth_1 : decode b_CI_nth 1 = .ok (.invokestatic 35, 3) := by decide +kernel
theorem d_CI_nth_4 : decode b_CI_nth 4 = .ok (.ifCond .ne 5, 3) := by decide +kernel
theorem d_CI_nth_7 : decode b_CI_nth 7 = .ok (.iconst (-1), 1) := by decide +kernel
theorem d_CI_nth_8 : decode b_CI_nth 8 = .ok (.ireturn, 1) := by decide +kernel
theorem d_CI_nth_9 : decode b_CI_nth 9 = .ok (.iload_n 1, 1) := by decide +kernel
theorem d_CI_nth_10 : decode b_CI_nth 10 = .ok (.ifCond .ne 10, 3) := by decide +kernel
theorem d_CI_nth_13 : decode b_CI_nth 13 = .ok (.aload_n 0, 1) := by decide +kernel
theorem d_CI_nth_14 : decode b_CI_nth 14 = .ok (.getfield 10, 3) := by decide +kernel
theorem d_CI_nth_17 : decode b_CI_nth 17 = .ok (.goto 7, 3) := by decide +kernel
theorem d_CI_nth_20 : decode b_CI_nth 20 = .ok (.aload_n 0, 1) := by decide +kernel
theorem d_CI_nth_21 : decode b_CI_nth 21 = .ok (.getfield 16, 3) := by decide +kernel
theorem d_CI_nth_24 : decode b_CI_nth 24 = .ok (.astore_n 3, 1) := by decide +kernel
theorem d_CI_nth_25 : decode b_CI_nth 25 = .ok (.iconst 0, 1) := by decide +kernel
theorem d_CI_nth_26 : decode b_CI_nth 26 = .ok (.istore 4, 2) := by decide +kernel
theorem d_CI_nth_28 : decode b_CI_nth 28 = .ok (.iconst 0, 1) := by decide +kernel
theorem d_CI_nth_29 : decode b_CI_nth 29 = .ok (.istore 5, 2) := by decide +kernel
theorem d_CI_nth_31 : decode b_CI_nth 31 = .ok (.iload 5, 2) := by decide +kernel
theorem d_CI_nth_33 : decode b_CI_nth 33 = .ok (.aload_n 3, 1) := by decide +kernel
theorem d_CI_nth_34 : decode b_CI_nth 34 = .ok (.getfield 73, 3) := by decide +kernel
theorem d_CI_nth_37 : decode b_CI_nth 37 = .ok (.if_icmp .ge 39, 3) := by decide +kernel
theorem d_CI_nth_40 : decode b_CI_nth 40 = .ok (.aload_n 3, 1) := by decide +kernel
theorem d_CI_nth_41 : decode b_CI_nth 41 = .ok (.getfield 76, 3) := by decide +kernel
theorem d_CI_nth_44 : decode b_CI_nth 44 = .ok (.iload 5, 2) := by decide +kernel
theorem d_CI_nth_46 : decode b_CI_nth 46 = .ok (.iaload, 1) := by decide +kernel
theorem d_CI_nth_47 : decode b_CI_nth 47 = .ok (.istore 6, 2) := by decide +kernel
theorem d_CI_nth_49 : decode b_CI_nth 49 = .ok (.aload_n 0, 1) := by decide +kernel
theorem d_CI_nth_50 : decode b_CI_nth 50 = .ok (.iload 6, 2) := by decide +kernel
theorem d_CI_nth_52 : decode b_CI_nth 52 = .ok (.invokevirtual 80, 3) := by decide +kernel
theorem d_CI_nth_55 : decode b_CI_nth 55 = .ok (.ifCond .eq 15, 3) := by decide +kernel
theorem d_CI_nth_58 : decode b_CI_nth 58 = .ok (.iload 4, 2) := by decide +kernel
theorem d_CI_nth_60 : decode b_CI_nth 60 = .ok (.iload_n 2, 1) := by decide +kernel
theorem d_CI_nth_61 : decode b_CI_nth 61 = .ok (.if_icmp .ne 6, 3) := by decide +kernel
theorem d_CI_nth_64 : decode b_CI_nth 64 = .ok (.iload 6, 2) := by decide +kernel
theorem d_CI_nth_66 : decode b_CI_nth 66 = .ok (.ireturn, 1) := by decide +kernel
theorem d_CI_nth_67 : decode b_CI_nth 67 = .ok (.iinc 4 1, 3) := by decide +kernel
theorem d_CI_nth_70 : decode b_CI_nth 70 = .ok (.iinc 5 1, 3) := by decide +kernel
theorem d_CI_nth_73 : decode b_CI_nth 73 = .ok (.goto (-42), 3) := by decide +kernel
theorem d_CI_nth_76 : decode b_CI_nth 76 = .ok (.iconst (-1), 1) := by decide +kernel
theorem d_CI_nth_77 : decode b_CI_nth 77 = .ok (.ireturn, 1) := by decide +kernel
theorem d_CI_runs_0 : decode b_CI_runs 0 = .ok (.aload_n 0, 1) := by decide +kernel
theorem d_CI_runs_1 : decode b_CI_runs 1 = .ok (.iload_n 1, 1) := by decide +kernel
theorem d_CI_runs_2 : decode b_CI_runs 2 = .ok (.invokevirtual 86, 3) := by decide +kernel
theorem d_CI_runs_5 : decode b_CI_runs 5 = .ok (.ifCond .eq 15, 3) := by decide +kernel
theorem d_CI_runs_8 : decode b_CI_runs 8 = .ok (.aload_n 0, 1) := by decide +kernel
theorem d_CI_runs_9 : decode b_CI_runs 9 = .ok (.iload_n 1, 1) := by decide +kernel
theorem d_CI_runs_10 : decode b_CI_runs 10 = .ok (.iconst (-1), 1) := by decide +kernel
theorem d_CI_runs_11 : decode b_CI_runs 11 = .ok (.invokevirtual 89, 3) := by decide +kernel
theorem d_CI_runs_14 : decode b_CI_runs 14 = .ok (.getfield 93, 3) := by decide +kernel
theorem d_CI_runs_17 : decode b_CI_runs 17 = .ok (.goto 4, 3) := by decide +kernel
theorem d_CI_runs_20 : decode b_CI_runs 20 = .ok (.iconst (-1), 1) := by decide +kernel
theorem d_CI_runs_21 : decode b_CI_runs 21 = .ok (.ireturn, 1) := by decide +kernel
theorem d_CI_run_0 : decode b_CI_run 0 = .ok (.aload_n 0, 1) := by decide +kernel
theorem d_CI_run_1 : decode b_CI_run 1 = .ok (.iload_n 1, 1) := by decide +kernel
theorem d_CI_run_2 : decode b_CI_run 2 = .ok (.invokevirtual 86, 3) := by decide +kernel
theorem d_CI_run_5 : decode b_CI_run 5 = .ok (.ifCond .eq 16, 3) := by decide +kernel
theorem d_CI_run_8 : decode b_CI_run 8 = .ok (.iload_n 2, 1) := by decide +kernel
theorem d_CI_run_9 : decode b_CI_run 9 = .ok (.ifCond .lt 12, 3) := by decide +kernel
theorem d_CI_run_12 : decode b_CI_run 12 = .ok (.iload_n 3, 1) := by decide +kernel
theorem d_CI_run_13 : decode b_CI_run 13 = .ok (.ifCond .lt 8, 3) := by decide +kernel
theorem d_CI_run_16 : decode b_CI_run 16 = .ok (.iload_n 3, 1) := by decide +kernel
theorem d_CI_run_17 : decode b_CI_run 17 = .ok (.iconst 1, 1) := by decide +kernel
theorem d_CI_run_18 : decode b_CI_run 18 = .ok (.if_icmp .le 5, 3) := by decide +kernel
theorem d_CI_run_21 : decode b_CI_run 21 = .ok (.iconst (-1), 1) := by decide +kernel
theorem d_CI_run_22 : decode b_CI_run 22 = .ok (.ireturn, 1) := by decide +kernel
theorem d_CI_run_23 : decode b_CI_run 23 = .ok (.aload_n 0, 1) := by decide +kernel
theorem d_CI_run_24 : decode b_CI_run 24 = .ok (.iload_n 1, 1) := by decide +kernel
theorem d_CI_run_25 : decode b_CI_run 25 = .ok (.iload_n 2, 1) := by decide +kernel
theorem d_CI_run_26 : decode b_CI_run 26 = .ok (.invokevirtual 89, 3) := by decide +kernel
theorem d_CI_run_29 : decode b_CI_run 29 = .ok (.astore 4, 2) := by decide +kernel
theorem d_CI_run_31 : decode b_CI_run 31 = .ok (.iload_n 3, 1) := by decide +kernel
theorem d_CI_run_32 : decode b_CI_run 32 = .ok (.ifCond .ne 11, 3) := by decide +kernel
theorem d_CI_run_35 : decode b_CI_run 35 = .ok (.aload 4, 2) := by decide +kernel
theorem d_CI_run_37 : decode b_CI_run 37 = .ok (.getfield 98, 3) := by decide +kernel
theorem d_CI_run_40 : decode b_CI_run 40 = .ok (.goto 8, 3) := by decide +kernel
theorem d_CI_run_43 : decode b_CI_run 43 = .ok (.aload 4, 2) := by decide +kernel
theorem d_CI_run_45 : decode b_CI_run 45 = .ok (.getfield 101, 3) := by decide +kernel
theorem d_CI_run_48 : decode b_CI_run 48 = .ok (.ireturn, 1) := by decide +kernel
theorem d_CI_nearest_0 : decode b_CI_nearest 0 = .ok (.aload_n 0, 1) := by decide +kernel
theorem d_CI_nearest_1 : decode b_CI_nearest 1 = .ok (.iload_n 1, 1) := by decide +kernel
theorem d_CI_nearest_2 : decode b_CI_nearest 2 = .ok (.iload_n 2, 1) := by decide +kernel
theorem d_CI_nearest_3 : decode b_CI_nearest 3 = .ok (.invokevirtual 39, 3) := by decide +kernel
theorem d_CI_nearest_6 : decode b_CI_nearest 6 = .ok (.ifCond .ne 5, 3) := by decide +kernel
theorem d_CI_nearest_9 : decode b_CI_nearest 9 = .ok (.iconst (-1), 1) := by decide +kernel
theorem d_CI_nearest_10 : decode b_CI_nearest 10 = .ok (.ireturn, 1) := by decide +kernel
theorem d_CI_nearest_11 : decode b_CI_nearest 11 = .ok (.iconst (-1), 1) := by decide +kernel
theorem d_CI_nearest_12 : decode b_CI_nearest 12 = .ok (.istore_n 3, 1) := by decide +kernel
theorem d_CI_nearest_13 : decode b_CI_nearest 13 = .ok (.lconst 0, 1) := by decide +kernel
theorem d_CI_nearest_14 : decode b_CI_nearest 14 = .ok (.lstore 4, 2) := by decide +kernel
theorem d_CI_nearest_16 : decode b_CI_nearest 16 = .ok (.iconst 0, 1) := by decide +kernel
theorem d_CI_nearest_17 : decode b_CI_nearest 17 = .ok (.istore 6, 2) := by decide +kernel
theorem d_CI_nearest_19 : decode b_CI_nearest 19 = .ok (.iload 6, 2) := by decide +kernel
theorem d_CI_nearest_21 : decode b_CI_nearest 21 = .ok (.aload_n 0, 1) := by decide +kernel
theorem d_CI_nearest_22 : decode b_CI_nearest 22 = .ok (.getfield 16, 3) := by decide +kernel
theorem d_CI_nearest_25 : decode b_CI_nearest 25 = .ok (.getfield 73, 3) := by decide +kernel
theorem d_CI_nearest_28 : decode b_CI_nearest 28 = .ok (.if_icmp .ge 51, 3) := by decide +kernel
theorem d_CI_nearest_31 : decode b_CI_nearest 31 = .ok (.aload_n 0, 1) := by decide +kernel
theorem d_CI_nearest_32 : decode b_CI_nearest 32 = .ok (.getfield 16, 3) := by decide +kernel
theorem d_CI_nearest_35 : decode b_CI_nearest 35 = .ok (.getfield 76, 3) := by decide +kernel
theorem d_CI_nearest_38 : decode b_CI_nearest 38 = .ok (.iload 6, 2) := by decide +kernel
theorem d_CI_nearest_40 : decode b_CI_nearest 40 = .ok (.iaload, 1) := by decide +kernel
theorem d_CI_nearest_41 : decode b_CI_nearest 41 = .ok (.istore 7, 2) := by decide +kernel
theorem d_CI_nearest_43 : decode b_CI_nearest 43 = .ok (.aload_n 0, 1) := by decide +kernel
theorem d_CI_nearest_44 : decode b_CI_nearest 44 = .ok (.iload_n 1, 1) := by decide +kernel
theorem d_CI_nearest_45 : decode b_CI_nearest 45 = .ok (.iload_n 2, 1) := by decide +kernel
theorem d_CI_nearest_46 : decode b_CI_nearest 46 = .ok (.iload 7, 2) := by decide +kernel
theorem d_CI_nearest_48 : decode b_CI_nearest 48 = .ok (.invokevirtual 104, 3) := by decide +kernel
theorem d_CI_nearest_51 : decode b_CI_nearest 51 = .ok (.lstore 8, 2) := by decide +kernel
theorem d_CI_nearest_53 : decode b_CI_nearest 53 = .ok (.iload_n 3, 1) := by decide +kernel
theorem d_CI_nearest_54 : decode b_CI_nearest 54 = .ok (.iconst (-1), 1) := by decide +kernel
theorem d_CI_nearest_55 : decode b_CI_nearest 55 = .ok (.if_icmp .eq 11, 3) := by decide +kernel
theorem d_CI_nearest_58 : decode b_CI_nearest 58 = .ok (.lload 8, 2) := by decide +kernel
theorem d_CI_nearest_60 : decode b_CI_nearest 60 = .ok (.lload 4, 2) := by decide +kernel
theorem d_CI_nearest_62 : decode b_CI_nearest 62 = .ok (.lcmp, 1) := by decide +kernel
theorem d_CI_nearest_63 : decode b_CI_nearest 63 = .ok (.ifCond .ge 10, 3) := by decide +kernel
theorem d_CI_nearest_66 : decode b_CI_nearest 66 = .ok (.iload 7, 2) := by decide +kernel
theorem d_CI_nearest_68 : decode b_CI_nearest 68 = .ok (.istore_n 3, 1) := by decide +kernel
theorem d_CI_nearest_69 : decode b_CI_nearest 69 = .ok (.lload 8, 2) := by decide +kernel
theorem d_CI_nearest_71 : decode b_CI_nearest 71 = .ok (.lstore 4, 2) := by decide +kernel
theorem d_CI_nearest_73 : decode b_CI_nearest 73 = .ok (.iinc 6 1, 3) := by decide +kernel
theorem d_CI_nearest_76 : decode b_CI_nearest 76 = .ok (.goto (-57), 3) := by decide +kernel
theorem d_CI_nearest_79 : decode b_CI_nearest 79 = .ok (.iload_n 3, 1) := by decide +kernel
theorem d_CI_nearest_80 : decode b_CI_nearest 80 = .ok (.ireturn, 1) := by decide +kernel
theorem d_CI_isCurve_0 : decode b_CI_isCurve 0 = .ok (.iload_n 0, 1) := by decide +kernel
theorem d_CI_isCurve_1 : decode b_CI_isCurve 1 = .ok (.ifCond .eq 8, 3) := by decide +kernel
theorem d_CI_isCurve_4 : decode b_CI_isCurve 4 = .ok (.iload_n 0, 1) := by decide +kernel
theorem d_CI_isCurve_5 : decode b_CI_isCurve 5 = .ok (.iconst 1, 1) := by decide +kernel
theorem d_CI_isCurve_6 : decode b_CI_isCurve 6 = .ok (.if_icmp .ne 7, 3) := by decide +kernel
theorem d_CI_isCurve_9 : decode b_CI_isCurve 9 = .ok (.iconst 1, 1) := by decide +kernel
theorem d_CI_isCurve_10 : decode b_CI_isCurve 10 = .ok (.goto 4, 3) := by decide +kernel
theorem d_CI_isCurve_13 : decode b_CI_isCurve 13 = .ok (.iconst 0, 1) := by decide +kernel
theorem d_CI_isCurve_14 : decode b_CI_isCurve 14 = .ok (.ireturn, 1) := by decide +kernel
theorem d_CI_isCell_0 : decode b_CI_isCell 0 = .ok (.iconst 1, 1) := by decide +kernel
theorem d_CI_isCell_1 : decode b_CI_isCell 1 = .ok (.aload_n 0, 1) := by decide +kernel
theorem d_CI_isCell_2 : decode b_CI_isCell 2 = .ok (.getfield 19, 3) := by decide +kernel
theorem d_CI_isCell_5 : decode b_CI_isCell 5 = .ok (.ishl, 1) := by decide +kernel
theorem d_CI_isCell_6 : decode b_CI_isCell 6 = .ok (.istore_n 3, 1) := by decide +kernel
theorem d_CI_isCell_7 : decode b_CI_isCell 7 = .ok (.iload_n 1, 1) := by decide +kernel
theorem d_CI_isCell_8 : decode b_CI_isCell 8 = .ok (.ifCond .lt 21, 3) := by decide +kernel
theorem d_CI_isCell_11 : decode b_CI_isCell 11 = .ok (.iload_n 1, 1) := by decide +kernel
theorem d_CI_isCell_12 : decode b_CI_isCell 12 = .ok (.iload_n 3, 1) := by decide +kernel
theorem d_CI_isCell_13 : decode b_CI_isCell 13 = .ok (.if_icmp .ge 16, 3) := by decide +kernel
theorem d_CI_isCell_16 : decode b_CI_isCell 16 = .ok (.iload_n 2, 1) := by decide +kernel
theorem d_CI_isCell_17 : decode b_CI_isCell 17 = .ok (.ifCond .lt 12, 3) := by decide +kernel
theorem d_CI_isCell_20 : decode b_CI_isCell 20 = .ok (.iload_n 2, 1) := by decide +kernel
theorem d_CI_isCell_21 : decode b_CI_isCell 21 = .ok (.iload_n 3, 1) := by decide +kernel
theorem d_CI_isCell_22 : decode b_CI_isCell 22 = .ok (.if_icmp .ge 7, 3) := by decide +kernel
theorem d_CI_isCell_25 : decode b_CI_isCell 25 = .ok (.iconst 1, 1) := by decide +kernel
theorem d_CI_isCell_26 : decode b_CI_isCell 26 = .ok (.goto 4, 3) := by decide +kernel
theorem d_CI_isCell_29 : decode b_CI_isCell 29 = .ok (.iconst 0, 1) := by decide +kernel
theorem d_CI_isCell_30 : decode b_CI_isCell 30 = .ok (.ireturn, 1) := by decide +kernel
theorem d_CI_isKey_0 : decode b_CI_isKey 0 = .ok (.iload_n 1, 1) := by decide +kernel
theorem d_CI_isKey_1 : decode b_CI_isKey 1 = .ok (.ifCond .lt 19, 3) := by decide +kernel
theorem d_CI_isKey_4 : decode b_CI_isKey 4 = .ok (.iload_n 1, 1) := by decide +kernel
theorem d_CI_isKey_5 : decode b_CI_isKey 5 = .ok (.iconst 1, 1) := by decide +kernel
theorem d_CI_isKey_6 : decode b_CI_isKey 6 = .ok (.iconst 2, 1) := by decide +kernel
theorem d_CI_isKey_7 : decode b_CI_isKey 7 = .ok (.aload_n 0, 1) := by decide +kernel
theorem d_CI_isKey_8 : decode b_CI_isKey 8 = .ok (.getfield 19, 3) := by decide +kernel
theorem d_CI_isKey_11 : decode b_CI_isKey 11 = .ok (.imul, 1) := by decide +kernel
theorem d_CI_isKey_12 : decode b_CI_isKey 12 = .ok (.ishl, 1) := by decide +kernel
theorem d_CI_isKey_13 : decode b_CI_isKey 13 = .ok (.if_icmp .ge 7, 3) := by decide +kernel
theorem d_CI_isKey_16 : decode b_CI_isKey 16 = .ok (.iconst 1, 1) := by decide +kernel
theorem d_CI_isKey_17 : decode b_CI_isKey 17 = .ok (.goto 4, 3) := by decide +kernel
theorem d_CI_isKey_20 : decode b_CI_isKey 20 = .ok (.iconst 0, 1) := by decide +kernel
theorem d_CI_isKey_21 : decode b_CI_isKey 21 = .ok (.ireturn, 1) := by decide +kernel
theorem d_CI_cellNumber_0 : decode b_CI_cellNumber 0 = .ok (.iload_n 1, 1) := by decide +kernel
theorem d_CI_cellNumber_1 : decode b_CI_cellNumber 1 = .ok (.aload_n 0, 1) := by decide +kernel
theorem d_CI_cellNumber_2 : decode b_CI_cellNumber 2 = .ok (.getfield 19, 3) := by decide +kernel
theorem d_CI_cellNumber_5 : decode b_CI_cellNumber 5 = .ok (.ishl, 1) := by decide +kernel
theorem d_CI_cellNumber_6 : decode b_CI_cellNumber 6 = .ok (.iload_n 2, 1) := by decide +kernel
theorem d_CI_cellNumber_7 : decode b_CI_cellNumber 7 = .ok (.iadd, 1) := by decide +kernel
theorem d_CI_cellNumber_8 : decode b_CI_cellNumber 8 = .ok (.ireturn, 1) := by decide +kernel
theorem d_CI_xOf_0 : decode b_CI_xOf 0 = .ok (.iload_n 1, 1) := by decide +kernel
theorem d_CI_xOf_1 : decode b_CI_xOf 1 = .ok (.aload_n 0, 1) := by decide +kernel
theorem d_CI_xOf_2 : decode b_CI_xOf 2 = .ok (.getfield 19, 3) := by decide +kernel
theorem d_CI_xOf_5 : decode b_CI_xOf 5 = .ok (.ishr, 1) := by decide +kernel
theorem d_CI_xOf_6 : decode b_CI_xOf 6 = .ok (.ireturn, 1) := by decide +kernel
theorem d_CI_yOf_0 : decode b_CI_yOf 0 = .ok (.iload_n 1, 1) := by decide +kernel
theorem d_CI_yOf_1 : decode b_CI_yOf 1 = .ok (.iconst 1, 1) := by decide +kernel
theorem d_CI_yOf_2 : decode b_CI_yOf 2 = .ok (.aload_n 0, 1) := by decide +kernel
theorem d_CI_yOf_3 : decode b_CI_yOf 3 = .ok (.getfield 19, 3) := by decide +kernel
theorem d_CI_yOf_6 : decode b_CI_yOf 6 = .ok (.ishl, 1) := by decide +kernel
theorem d_CI_yOf_7 : decode b_CI_yOf 7 = .ok (.iconst 1, 1) := by decide +kernel
theorem d_CI_yOf_8 : decode b_CI_yOf 8 = .ok (.isub, 1) := by decide +kernel
theorem d_CI_yOf_9 : decode b_CI_yOf 9 = .ok (.iand, 1) := by decide +kernel
theorem d_CI_yOf_10 : decode b_CI_yOf 10 = .ok (.ireturn, 1) := by decide +kernel
theorem d_CI_isInFrame_0 : decode b_CI_isInFrame 0 = .ok (.aload_n 0, 1) := by decide +kernel
theorem d_CI_isInFrame_1 : decode b_CI_isInFrame 1 = .ok (.getfield 28, 3) := by decide +kernel
theorem d_CI_isInFrame_4 : decode b_CI_isInFrame 4 = .ok (.aload_n 0, 1) := by decide +kernel
theorem d_CI_isInFrame_5 : decode b_CI_isInFrame 5 = .ok (.iload_n 1, 1) := by decide +kernel
theorem d_CI_isInFrame_6 : decode b_CI_isInFrame 6 = .ok (.invokevirtual 108, 3) := by decide +kernel
theorem d_CI_isInFrame_9 : decode b_CI_isInFrame 9 = .ok (.aload_n 0, 1) := by decide +kernel
theorem d_CI_isInFrame_10 : decode b_CI_isInFrame 10 = .ok (.iload_n 1, 1) := by decide +kernel
theorem d_CI_isInFrame_11 : decode b_CI_isInFrame 11 = .ok (.invokevirtual 111, 3) := by decide +kernel
theorem d_CI_isInFrame_14 : decode b_CI_isInFrame 14 = .ok (.invokevirtual 114, 3) := by decide +kernel
theorem d_CI_isInFrame_17 : decode b_CI_isInFrame 17 = .ok (.ireturn, 1) := by decide +kernel
theorem d_CI_squaredDistance_0 : decode b_CI_squaredDistance 0 = .ok (.iload_n 1, 1) := by decide +kernel
theorem d_CI_squaredDistance_1 : decode b_CI_squaredDistance 1 = .ok (.aload_n 0, 1) := by decide +kernel
theorem d_CI_squaredDistance_2 : decode b_CI_squaredDistance 2 = .ok (.iload_n 3, 1) := by decide +kernel
theorem d_CI_squaredDistance_3 : decode b_CI_squaredDistance 3 = .ok (.invokevirtual 108, 3) := by decide +kernel
theorem d_CI_squaredDistance_6 : decode b_CI_squaredDistance 6 = .ok (.isub, 1) := by decide +kernel
theorem d_CI_squaredDistance_7 : decode b_CI_squaredDistance 7 = .ok (.i2l, 1) := by decide +kernel
theorem d_CI_squaredDistance_8 : decode b_CI_squaredDistance 8 = .ok (.lstore 4, 2) := by decide +kernel
theorem d_CI_squaredDistance_10 : decode b_CI_squaredDistance 10 = .ok (.iload_n 2, 1) := by decide +kernel
theorem d_CI_squaredDistance_11 : decode b_CI_squaredDistance 11 = .ok (.aload_n 0, 1) := by decide +kernel
theorem d_CI_squaredDistance_12 : decode b_CI_squaredDistance 12 = .ok (.iload_n 3, 1) := by decide +kernel
theorem d_CI_squaredDistance_13 : decode b_CI_squaredDistance 13 = .ok (.invokevirtual 111, 3) := by decide +kernel
theorem d_CI_squaredDistance_16 : decode b_CI_squaredDistance 16 = .ok (.isub, 1) := by decide +kernel
theorem d_CI_squaredDistance_17 : decode b_CI_squaredDistance 17 = .ok (.i2l, 1) := by decide +kernel
theorem d_CI_squaredDistance_18 : decode b_CI_squaredDistance 18 = .ok (.lstore 6, 2) := by decide +kernel
theorem d_CI_squaredDistance_20 : decode b_CI_squaredDistance 20 = .ok (.lload 4, 2) := by decide +kernel
theorem d_CI_squaredDistance_22 : decode b_CI_squaredDistance 22 = .ok (.lload 4, 2) := by decide +kernel
theorem d_CI_squaredDistance_24 : decode b_CI_squaredDistance 24 = .ok (.lmul, 1) := by decide +kernel
theorem d_CI_squaredDistance_25 : decode b_CI_squaredDistance 25 = .ok (.lload 6, 2) := by decide +kernel
theorem d_CI_squaredDistance_27 : decode b_CI_squaredDistance 27 = .ok (.lload 6, 2) := by decide +kernel
theorem d_CI_squaredDistance_29 : decode b_CI_squaredDistance 29 = .ok (.lmul, 1) := by decide +kernel
theorem d_CI_squaredDistance_30 : decode b_CI_squaredDistance 30 = .ok (.ladd, 1) := by decide +kernel
theorem d_CI_squaredDistance_31 : decode b_CI_squaredDistance 31 = .ok (.lreturn, 1) := by decide +kernel
theorem d_CI_firstState_0 : decode b_CI_firstState 0 = .ok (.iload_n 0, 1) := by decide +kernel
theorem d_CI_firstState_1 : decode b_CI_firstState 1 = .ok (.ifCond .ne 7, 3) := by decide +kernel
theorem d_CI_firstState_4 : decode b_CI_firstState 4 = .ok (.iconst 4, 1) := by decide +kernel
theorem d_CI_firstState_5 : decode b_CI_firstState 5 = .ok (.goto 4, 3) := by decide +kernel
theorem d_CI_firstState_8 : decode b_CI_firstState 8 = .ok (.iconst 0, 1) := by decide +kernel
theorem d_CI_firstState_9 : decode b_CI_firstState 9 = .ok (.ireturn, 1) := by decide +kernel
theorem d_CI_keyOf_0 : decode b_CI_keyOf 0 = .ok (.iload_n 1, 1) := by decide +kernel
theorem d_CI_keyOf_1 : decode b_CI_keyOf 1 = .ok (.invokestatic 117, 3) := by decide +kernel
theorem d_CI_keyOf_4 : decode b_CI_keyOf 4 = .ok (.istore 4, 2) := by decide +kernel
theorem d_CI_keyOf_6 : decode b_CI_keyOf 6 = .ok (.iconst 0, 1) := by decide +kernel
theorem d_CI_keyOf_7 : decode b_CI_keyOf 7 = .ok (.istore 5, 2) := by decide +kernel
theorem d_CI_keyOf_9 : decode b_CI_keyOf 9 = .ok (.aload_n 0, 1) := by decide +kernel
theorem d_CI_keyOf_10 : decode b_CI_keyOf 10 = .ok (.getfield 19, 3) := by decide +kernel
theorem d_CI_keyOf_13 : decode b_CI_keyOf 13 = .ok (.iconst 1, 1) := by decide +kernel
theorem d_CI_keyOf_14 : decode b_CI_keyOf 14 = .ok (.isub, 1) := by decide +kernel
theorem d_CI_keyOf_15 : decode b_CI_keyOf 15 = .ok (.istore 6, 2) := by decide +kernel
theorem d_CI_keyOf_17 : decode b_CI_keyOf 17 = .ok (.iload 6, 2) := by decide +kernel
theorem d_CI_keyOf_19 : decode b_CI_keyOf 19 = .ok (.ifCond .lt 61, 3) := by decide +kernel
theorem d_CI_keyOf_22 : decode b_CI_keyOf 22 = .ok (.iconst 2, 1) := by decide +kernel
theorem d_CI_keyOf_23 : decode b_CI_keyOf 23 = .ok (.iload_n 2, 1) := by decide +kernel
theorem d_CI_keyOf_24 : decode b_CI_keyOf 24 = .ok (.iload 6, 2) := by decide +kernel
theorem d_CI_keyOf_26 : decode b_CI_keyOf 26 = .ok (.ishr, 1) := by decide +kernel
theorem d_CI_keyOf_27 : decode b_CI_keyOf 27 = .ok (.iconst 1, 1) := by decide +kernel
theorem d_CI_keyOf_28 : decode b_CI_keyOf 28 = .ok (.iand, 1) := by decide +kernel
theorem d_CI_keyOf_29 : decode b_CI_keyOf 29 = .ok (.imul, 1) := by decide +kernel
theorem d_CI_keyOf_30 : decode b_CI_keyOf 30 = .ok (.iload_n 3, 1) := by decide +kernel
theorem d_CI_keyOf_31 : decode b_CI_keyOf 31 = .ok (.iload 6, 2) := by decide +kernel
theorem d_CI_keyOf_33 : decode b_CI_keyOf 33 = .ok (.ishr, 1) := by decide +kernel
theorem d_CI_keyOf_34 : decode b_CI_keyOf 34 = .ok (.iconst 1, 1) := by decide +kernel
theorem d_CI_keyOf_35 : decode b_CI_keyOf 35 = .ok (.iand, 1) := by decide +kernel
theorem d_CI_keyOf_36 : decode b_CI_keyOf 36 = .ok (.iadd, 1) := by decide +kernel
theorem d_CI_keyOf_37 : decode b_CI_keyOf 37 = .ok (.istore 7, 2) := by decide +kernel
theorem d_CI_keyOf_39 : decode b_CI_keyOf 39 = .ok (.getstatic 120, 3) := by decide +kernel
theorem d_CI_keyOf_42 : decode b_CI_keyOf 42 = .ok (.iconst 4, 1) := by decide +kernel
theorem d_CI_keyOf_43 : decode b_CI_keyOf 43 = .ok (.iload 4, 2) := by decide +kernel
theorem d_CI_keyOf_45 : decode b_CI_keyOf 45 = .ok (.imul, 1) := by decide +kernel
theorem d_CI_keyOf_46 : decode b_CI_keyOf 46 = .ok (.iload 7, 2) := by decide +kernel
theorem d_CI_keyOf_48 : decode b_CI_keyOf 48 = .ok (.iadd, 1) := by decide +kernel
theorem d_CI_keyOf_49 : decode b_CI_keyOf 49 = .ok (.iaload, 1) := by decide +kernel
theorem d_CI_keyOf_50 : decode b_CI_keyOf 50 = .ok (.istore 8, 2) := by decide +kernel
theorem d_CI_keyOf_52 : decode b_CI_keyOf 52 = .ok (.iconst 4, 1) := by decide +kernel
theorem d_CI_keyOf_53 : decode b_CI_keyOf 53 = .ok (.iload 5, 2) := by decide +kernel
theorem d_CI_keyOf_55 : decode b_CI_keyOf 55 = .ok (.imul, 1) := by decide +kernel
theorem d_CI_keyOf_56 : decode b_CI_keyOf 56 = .ok (.iload 8, 2) := by decide +kernel
theorem d_CI_keyOf_58 : decode b_CI_keyOf 58 = .ok (.iadd, 1) := by decide +kernel
theorem d_CI_keyOf_59 : decode b_CI_keyOf 59 = .ok (.istore 5, 2) := by decide +kernel
theorem d_CI_keyOf_61 : decode b_CI_keyOf 61 = .ok (.getstatic 123, 3) := by decide +kernel
theorem d_CI_keyOf_64 : decode b_CI_keyOf 64 = .ok (.iconst 4, 1) := by decide +kernel
theorem d_CI_keyOf_65 : decode b_CI_keyOf 65 = .ok (.iload 4, 2) := by decide +kernel
theorem d_CI_keyOf_67 : decode b_CI_keyOf 67 = .ok (.imul, 1) := by decide +kernel
theorem d_CI_keyOf_68 : decode b_CI_keyOf 68 = .ok (.iload 8, 2) := by decide +kernel
theorem d_CI_keyOf_70 : decode b_CI_keyOf 70 = .ok (.iadd, 1) := by decide +kernel
theorem d_CI_keyOf_71 : decode b_CI_keyOf 71 = .ok (.iaload, 1) := by decide +kernel
theorem d_CI_keyOf_72 : decode b_CI_keyOf 72 = .ok (.istore 4, 2) := by decide +kernel
theorem d_CI_keyOf_74 : decode b_CI_keyOf 74 = .ok (.iinc 6 (-1), 3) := by decide +kernel
theorem d_CI_keyOf_77 : decode b_CI_keyOf 77 = .ok (.goto (-60), 3) := by decide +kernel
theorem d_CI_keyOf_80 : decode b_CI_keyOf 80 = .ok (.iload 5, 2) := by decide +kernel
theorem d_CI_keyOf_82 : decode b_CI_keyOf 82 = .ok (.ireturn, 1) := by decide +kernel
theorem d_CI_cellOf_0 : decode b_CI_cellOf 0 = .ok (.iload_n 1, 1) := by decide +kernel
theorem d_CI_cellOf_1 : decode b_CI_cellOf 1 = .ok (.invokestatic 117, 3) := by decide +kernel
theorem d_CI_cellOf_4 : decode b_CI_cellOf 4 = .ok (.istore_n 3, 1) := by decide +kernel
theorem d_CI_cellOf_5 : decode b_CI_cellOf 5 = .ok (.iconst 0, 1) := by decide +kernel
theorem d_CI_cellOf_6 : decode b_CI_cellOf 6 = .ok (.istore 4, 2) := by decide +kernel
theorem d_CI_cellOf_8 : decode b_CI_cellOf 8 = .ok (.iconst 0, 1) := by decide +kernel
theorem d_CI_cellOf_9 : decode b_CI_cellOf 9 = .ok (.istore 5, 2) := by decide +kernel
theorem d_CI_cellOf_11 : decode b_CI_cellOf 11 = .ok (.aload_n 0, 1) := by decide +kernel
theorem d_CI_cellOf_12 : decode b_CI_cellOf 12 = .ok (.getfield 19, 3) := by decide +kernel
theorem d_CI_cellOf_15 : decode b_CI_cellOf 15 = .ok (.iconst 1, 1) := by decide +kernel
theorem d_CI_cellOf_16 : decode b_CI_cellOf 16 = .ok (.isub, 1) := by decide +kernel
theorem d_CI_cellOf_17 : decode b_CI_cellOf 17 = .ok (.istore 6, 2) := by decide +kernel
theorem d_CI_cellOf_19 : decode b_CI_cellOf 19 = .ok (.iload 6, 2) := by decide +kernel
theorem d_CI_cellOf_21 : decode b_CI_cellOf 21 = .ok (.ifCond .lt 64, 3) := by decide +kernel
theorem d_CI_cellOf_24 : decode b_CI_cellOf 24 = .ok (.iload_n 2, 1) := by decide +kernel
theorem d_CI_cellOf_25 : decode b_CI_cellOf 25 = .ok (.iconst 2, 1) := by decide +kernel
theorem d_CI_cellOf_26 : decode b_CI_cellOf 26 = .ok (.iload 6, 2) := by decide +kernel
theorem d_CI_cellOf_28 : decode b_CI_cellOf 28 = .ok (.imul, 1) := by decide +kernel
theorem d_CI_cellOf_29 : decode b_CI_cellOf 29 = .ok (.ishr, 1) := by decide +kernel
theorem d_CI_cellOf_30 : decode b_CI_cellOf 30 = .ok (.iconst 3, 1) := by decide +kernel
theorem d_CI_cellOf_31 : decode b_CI_cellOf 31 = .ok (.iand, 1) := by decide +kernel
theorem d_CI_cellOf_32 : decode b_CI_cellOf 32 = .ok (.istore 7, 2) := by decide +kernel
theorem d_CI_cellOf_34 : decode b_CI_cellOf 34 = .ok (.getstatic 126, 3) := by decide +kernel
theorem d_CI_cellOf_37 : decode b_CI_cellOf 37 = .ok (.iconst 4, 1) := by decide +kernel
theorem d_CI_cellOf_38 : decode b_CI_cellOf 38 = .ok (.iload_n 3, 1) := by decide +kernel
theorem d_CI_cellOf_39 : decode b_CI_cellOf 39 = .ok (.imul, 1) := by decide +kernel
theorem d_CI_cellOf_40 : decode b_CI_cellOf 40 = .ok (.iload 7, 2) := by decide +kernel
theorem d_CI_cellOf_42 : decode b_CI_cellOf 42 = .ok (.iadd, 1) := by decide +kernel
theorem d_CI_cellOf_43 : decode b_CI_cellOf 43 = .ok (.iaload, 1) := by decide +kernel
theorem d_CI_cellOf_44 : decode b_CI_cellOf 44 = .ok (.istore 8, 2) := by decide +kernel
theorem d_CI_cellOf_46 : decode b_CI_cellOf 46 = .ok (.iconst 2, 1) := by decide +kernel
theorem d_CI_cellOf_47 : decode b_CI_cellOf 47 = .ok (.iload 4, 2) := by decide +kernel
theorem d_CI_cellOf_49 : decode b_CI_cellOf 49 = .ok (.imul, 1) := by decide +kernel
theorem d_CI_cellOf_50 : decode b_CI_cellOf 50 = .ok (.iload 8, 2) := by decide +kernel
theorem d_CI_cellOf_52 : decode b_CI_cellOf 52 = .ok (.iconst 1, 1) := by decide +kernel
theorem d_CI_cellOf_53 : decode b_CI_cellOf 53 = .ok (.ishr, 1) := by decide +kernel
theorem d_CI_cellOf_54 : decode b_CI_cellOf 54 = .ok (.iadd, 1) := by decide +kernel
theorem d_CI_cellOf_55 : decode b_CI_cellOf 55 = .ok (.istore 4, 2) := by decide +kernel
theorem d_CI_cellOf_57 : decode b_CI_cellOf 57 = .ok (.iconst 2, 1) := by decide +kernel
theorem d_CI_cellOf_58 : decode b_CI_cellOf 58 = .ok (.iload 5, 2) := by decide +kernel
theorem d_CI_cellOf_60 : decode b_CI_cellOf 60 = .ok (.imul, 1) := by decide +kernel
theorem d_CI_cellOf_61 : decode b_CI_cellOf 61 = .ok (.iload 8, 2) := by decide +kernel
theorem d_CI_cellOf_63 : decode b_CI_cellOf 63 = .ok (.iconst 1, 1) := by decide +kernel
theorem d_CI_cellOf_64 : decode b_CI_cellOf 64 = .ok (.iand, 1) := by decide +kernel
theorem d_CI_cellOf_65 : decode b_CI_cellOf 65 = .ok (.iadd, 1) := by decide +kernel
theorem d_CI_cellOf_66 : decode b_CI_cellOf 66 = .ok (.istore 5, 2) := by decide +kernel
theorem d_CI_cellOf_68 : decode b_CI_cellOf 68 = .ok (.getstatic 123, 3) := by decide +kernel
theorem d_CI_cellOf_71 : decode b_CI_cellOf 71 = .ok (.iconst 4, 1) := by decide +kernel
theorem d_CI_cellOf_72 : decode b_CI_cellOf 72 = .ok (.iload_n 3, 1) := by decide +kernel
theorem d_CI_cellOf_73 : decode b_CI_cellOf 73 = .ok (.imul, 1) := by decide +kernel
theorem d_CI_cellOf_74 : decode b_CI_cellOf 74 = .ok (.iload 7, 2) := by decide +kernel
theorem d_CI_cellOf_76 : decode b_CI_cellOf 76 = .ok (.iadd, 1) := by decide +kernel
theorem d_CI_cellOf_77 : decode b_CI_cellOf 77 = .ok (.iaload, 1) := by decide +kernel
theorem d_CI_cellOf_78 : decode b_CI_cellOf 78 = .ok (.istore_n 3, 1) := by decide +kernel
theorem d_CI_cellOf_79 : decode b_CI_cellOf 79 = .ok (.iinc 6 (-1), 3) := by decide +kernel
theorem d_CI_cellOf_82 : decode b_CI_cellOf 82 = .ok (.goto (-63), 3) := by decide +kernel
theorem d_CI_cellOf_85 : decode b_CI_cellOf 85 = .ok (.aload_n 0, 1) := by decide +kernel
theorem d_CI_cellOf_86 : decode b_CI_cellOf 86 = .ok (.iload 4, 2) := by decide +kernel
theorem d_CI_cellOf_88 : decode b_CI_cellOf 88 = .ok (.iload 5, 2) := by decide +kernel
theorem d_CI_cellOf_90 : decode b_CI_cellOf 90 = .ok (.invokevirtual 62, 3) := by decide +kernel
theorem d_CI_cellOf_93 : decode b_CI_cellOf 93 = .ok (.ireturn, 1) := by decide +kernel
theorem d_CI_hasRuns_0 : decode b_CI_hasRuns 0 = .ok (.iload_n 1, 1) := by decide +kernel
theorem d_CI_hasRuns_1 : decode b_CI_hasRuns 1 = .ok (.invokestatic 35, 3) := by decide +kernel
theorem d_CI_hasRuns_4 : decode b_CI_hasRuns 4 = .ok (.ifCond .eq 20, 3) := by decide +kernel
theorem d_CI_hasRuns_7 : decode b_CI_hasRuns 7 = .ok (.aload_n 0, 1) := by decide +kernel
theorem d_CI_hasRuns_8 : decode b_CI_hasRuns 8 = .ok (.getfield 28, 3) := by decide +kernel
theorem d_CI_hasRuns_11 : decode b_CI_hasRuns 11 = .ok (.invokevirtual 129, 3) := by decide +kernel
theorem d_CI_hasRuns_14 : decode b_CI_hasRuns 14 = .ok (.sipush 4096, 3) := by decide +kernel
theorem d_CI_hasRuns_17 : decode b_CI_hasRuns 17 = .ok (.if_icmp .gt 7, 3) := by decide +kernel
theorem d_CI_hasRuns_20 : decode b_CI_hasRuns 20 = .ok (.iconst 1, 1) := by decide +kernel
theorem d_CI_hasRuns_21 : decode b_CI_hasRuns 21 = .ok (.goto 4, 3) := by decide +kernel
theorem d_CI_hasRuns_24 : decode b_CI_hasRuns 24 = .ok (.iconst 0, 1) := by decide +kernel
theorem d_CI_hasRuns_25 : decode b_CI_hasRuns 25 = .ok (.ireturn, 1) := by decide +kernel
theorem d_CI_walkRuns_0 : decode b_CI_walkRuns 0 = .ok (.new 94, 3) := by decide +kernel
theorem d_CI_walkRuns_3 : decode b_CI_walkRuns 3 = .ok (.dup, 1) := by decide +kernel
theorem d_CI_walkRuns_4 : decode b_CI_walkRuns 4 = .ok (.aload_n 0, 1) := by decide +kernel
theorem d_CI_walkRuns_5 : decode b_CI_walkRuns 5 = .ok (.getfield 28, 3) := by decide +kernel
theorem d_CI_walkRuns_8 : decode b_CI_walkRuns 8 = .ok (.iload_n 2, 1) := by decide +kernel
theorem d_CI_walkRuns_9 : decode b_CI_walkRuns 9 = .ok (.invokespecial 133, 3) := by decide +kernel
theorem d_CI_walkRuns_12 : decode b_CI_walkRuns 12 = .ok (.astore_n 3, 1) := by decide +kernel
theorem d_CI_walkRuns_13 : decode b_CI_walkRuns 13 = .ok (.aload_n 3, 1) := by decide +kernel
theorem d_CI_walkRuns_14 : decode b_CI_walkRuns 14 = .ok (.aload_n 0, 1) := by decide +kernel
theorem d_CI_walkRuns_15 : decode b_CI_walkRuns 15 = .ok (.getfield 19, 3) := by decide +kernel
theorem d_CI_walkRuns_18 : decode b_CI_walkRuns 18 = .ok (.iload_n 1, 1) := by decide +kernel
theorem d_CI_walkRuns_19 : decode b_CI_walkRuns 19 = .ok (.invokestatic 117, 3) := by decide +kernel
theorem d_CI_walkRuns_22 : decode b_CI_walkRuns 22 = .ok (.iconst 0, 1) := by decide +kernel
theorem d_CI_walkRuns_23 : decode b_CI_walkRuns 23 = .ok (.iconst 0, 1) := by decide +kernel
theorem d_CI_walkRuns_24 : decode b_CI_walkRuns 24 = .ok (.iconst 0, 1) := by decide +kernel
theorem d_CI_walkRuns_25 : decode b_CI_walkRuns 25 = .ok (.invokestatic 136, 3) := by decide +kernel
theorem d_CI_walkRuns_28 : decode b_CI_walkRuns 28 = .ok (.aload_n 3, 1) := by decide +kernel
theorem d_CI_walkRuns_29 : decode b_CI_walkRuns 29 = .ok (.areturn, 1) := by decide +kernel
theorem d_Mo_init_0 : decode b_Mo_init 0 = .ok (.aload_n 0, 1) := by decide +kernel
theorem d_Mo_init_1 : decode b_Mo_init 1 = .ok (.invokespecial 1, 3) := by decide +kernel
theorem d_Mo_init_4 : decode b_Mo_init 4 = .ok (.aload_n 0, 1) := by decide +kernel
theorem d_Mo_init_5 : decode b_Mo_init 5 = .ok (.iconst 1, 1) := by decide +kernel
theorem d_Mo_init_6 : decode b_Mo_init 6 = .ok (.putfield 7, 3) := by decide +kernel
theorem d_Mo_init_9 : decode b_Mo_init 9 = .ok (.aload_n 0, 1) := by decide +kernel
theorem d_Mo_init_10 : decode b_Mo_init 10 = .ok (.sipush 500, 3) := by decide +kernel
theorem d_Mo_init_13 : decode b_Mo_init 13 = .ok (.newarray .int, 2) := by decide +kernel
theorem d_Mo_init_15 : decode b_Mo_init 15 = .ok (.putfield 13, 3) := by decide +kernel
theorem d_Mo_init_18 : decode b_Mo_init 18 = .ok (.aload_n 0, 1) := by decide +kernel
theorem d_Mo_init_19 : decode b_Mo_init 19 = .ok (.sipush 500, 3) := by decide +kernel
theorem d_Mo_init_22 : decode b_Mo_init 22 = .ok (.newarray .int, 2) := by decide +kernel
theorem d_Mo_init_24 : decode b_Mo_init 24 = .ok (.putfield 17, 3) := by decide +kernel
theorem d_Mo_init_27 : decode b_Mo_init 27 = .ok (.aload_n 0, 1) := by decide +kernel
theorem d_Mo_init_28 : decode b_Mo_init 28 = .ok (.sipush 4096, 3) := by decide +kernel
theorem d_Mo_init_31 : decode b_Mo_init 31 = .ok (.newarray .int, 2) := by decide +kernel
theorem d_Mo_init_33 : decode b_Mo_init 33 = .ok (.putfield 20, 3) := by decide +kernel
theorem d_Mo_init_36 : decode b_Mo_init 36 = .ok (.aload_n 0, 1) := by decide +kernel
theorem d_Mo_init_37 : decode b_Mo_init 37 = .ok (.sipush 4096, 3) := by decide +kernel
theorem d_Mo_init_40 : decode b_Mo_init 40 = .ok (.newarray .int, 2) := by decide +kernel
theorem d_Mo_init_42 : decode b_Mo_init 42 = .ok (.putfield 23, 3) := by decide +kernel
theorem d_Mo_init_45 : decode b_Mo_init 45 = .ok (.return_, 1) := by decide +kernel
theorem d_Mo_side_0 : decode b_Mo_side 0 = .ok (.iconst 1, 1) := by decide +kernel
theorem d_Mo_side_1 : decode b_Mo_side 1 = .ok (.aload_n 0, 1) := by decide +kernel
theorem d_Mo_side_2 : decode b_Mo_side 2 = .ok (.getfield 7, 3) := by decide +kernel
theorem d_Mo_side_5 : decode b_Mo_side 5 = .ok (.ishl, 1) := by decide +kernel
theorem d_Mo_side_6 : decode b_Mo_side 6 = .ok (.ireturn, 1) := by decide +kernel
theorem d_Mo_isCell_0 : decode b_Mo_isCell 0 = .ok (.iload_n 1, 1) := by decide +kernel
theorem d_Mo_isCell_1 : decode b_Mo_isCell 1 = .ok (.ifCond .lt 27, 3) := by decide +kernel
theorem d_Mo_isCell_4 : decode b_Mo_isCell 4 = .ok (.iload_n 2, 1) := by decide +kernel
theorem d_Mo_isCell_5 : decode b_Mo_isCell 5 = .ok (.ifCond .lt 23, 3) := by decide +kernel
theorem d_Mo_isCell_8 : decode b_Mo_isCell 8 = .ok (.iload_n 1, 1) := by decide +kernel
theorem d_Mo_isCell_9 : decode b_Mo_isCell 9 = .ok (.aload_n 0, 1) := by decide +kernel
theorem d_Mo_isCell_10 : decode b_Mo_isCell 10 = .ok (.invokevirtual 26, 3) := by decide +kernel
theorem d_Mo_isCell_13 : decode b_Mo_isCell 13 = .ok (.if_icmp .ge 15, 3) := by decide +kernel
theorem d_Mo_isCell_16 : decode b_Mo_isCell 16 = .ok (.iload_n 2, 1) := by decide +kernel
theorem d_Mo_isCell_17 : decode b_Mo_isCell 17 = .ok (.aload_n 0, 1) := by decide +kernel
theorem d_Mo_isCell_18 : decode b_Mo_isCell 18 = .ok (.invokevirtual 26, 3) := by decide +kernel
theorem d_Mo_isCell_21 : decode b_Mo_isCell 21 = .ok (.if_icmp .ge 7, 3) := by decide +kernel
theorem d_Mo_isCell_24 : decode b_Mo_isCell 24 = .ok (.iconst 1, 1) := by decide +kernel
theorem d_Mo_isCell_25 : decode b_Mo_isCell 25 = .ok (.goto 4, 3) := by decide +kernel
theorem d_Mo_isCell_28 : decode b_Mo_isCell 28 = .ok (.iconst 0, 1) := by decide +kernel
theorem d_Mo_isCell_29 : decode b_Mo_isCell 29 = .ok (.ireturn, 1) := by decide +kernel
theorem d_Mo_begin_0 : decode b_Mo_begin 0 = .ok (.iload_n 1, 1) := by decide +kernel
theorem d_Mo_begin_1 : decode b_Mo_begin 1 = .ok (.iconst 1, 1) := by decide +kernel
theorem d_Mo_begin_2 : decode b_Mo_begin 2 = .ok (.if_icmp .lt 9, 3) := by decide +kernel
theorem d_Mo_begin_5 : decode b_Mo_begin 5 = .ok (.iload_n 1, 1) := by decide +kernel
theorem d_Mo_begin_6 : decode b_Mo_begin 6 = .ok (.bipush 15, 2) := by decide +kernel
theorem d_Mo_begin_8 : decode b_Mo_begin 8 = .ok (.if_icmp .le 5, 3) := by decide +kernel
theorem d_Mo_begin_11 : decode b_Mo_begin 11 = .ok (.iconst 0, 1) := by decide +kernel
theorem d_Mo_begin_12 : decode b_Mo_begin 12 = .ok (.ireturn, 1) := by decide +kernel
theorem d_Mo_begin_13 : decode b_Mo_begin 13 = .ok (.aload_n 0, 1) := by decide +kernel
theorem d_Mo_begin_14 : decode b_Mo_begin 14 = .ok (.iload_n 1, 1) := by decide +kernel
theorem d_Mo_begin_15 : decode b_Mo_begin 15 = .ok (.putfield 7, 3) := by decide +kernel
theorem d_Mo_begin_18 : decode b_Mo_begin 18 = .ok (.aload_n 0, 1) := by decide +kernel
theorem d_Mo_begin_19 : decode b_Mo_begin 19 = .ok (.iconst 0, 1) := by decide +kernel
theorem d_Mo_begin_20 : decode b_Mo_begin 20 = .ok (.putfield 30, 3) := by decide +kernel
theorem d_Mo_begin_23 : decode b_Mo_begin 23 = .ok (.aload_n 0, 1) := by decide +kernel
theorem d_Mo_begin_24 : decode b_Mo_begin 24 = .ok (.iconst 0, 1) := by decide +kernel
theorem d_Mo_begin_25 : decode b_Mo_begin 25 = .ok (.putfield 33, 3) := by decide +kernel
theorem d_Mo_begin_28 : decode b_Mo_begin 28 = .ok (.aload_n 0, 1) := by decide +kernel
theorem d_Mo_begin_29 : decode b_Mo_begin 29 = .ok (.iconst 0, 1) := by decide +kernel
theorem d_Mo_begin_30 : decode b_Mo_begin 30 = .ok (.putfield 36, 3) := by decide +kernel
theorem d_Mo_begin_33 : decode b_Mo_begin 33 = .ok (.aload_n 0, 1) := by decide +kernel
theorem d_Mo_begin_34 : decode b_Mo_begin 34 = .ok (.iconst 0, 1) := by decide +kernel
theorem d_Mo_begin_35 : decode b_Mo_begin 35 = .ok (.putfield 39, 3) := by decide +kernel
theorem d_Mo_begin_38 : decode b_Mo_begin 38 = .ok (.aload_n 0, 1) := by decide +kernel
theorem d_Mo_begin_39 : decode b_Mo_begin 39 = .ok (.iconst 0, 1) := by decide +kernel
theorem d_Mo_begin_40 : decode b_Mo_begin 40 = .ok (.putfield 42, 3) := by decide +kernel
theorem d_Mo_begin_43 : decode b_Mo_begin 43 = .ok (.iconst 1, 1) := by decide +kernel
theorem d_Mo_begin_44 : decode b_Mo_begin 44 = .ok (.ireturn, 1) := by decide +kernel
end
section
theorem d_Mo_keyOf_0 : decode b_Mo_keyOf 0 = .ok (.iconst 0, 1) := by decide +kernel
theorem d_Mo_keyOf_1 : decode b_Mo_keyOf 1 = .ok (.istore 4, 2) := by decide +kernel
theorem d_Mo_keyOf_3 : decode b_Mo_keyOf 3 = .ok (.iload_n 1, 1) := by decide +kernel
theorem d_Mo_keyOf_4 : decode b_Mo_keyOf 4 = .ok (.ifCond .ne 47, 3) := by decide +kernel
theorem d_Mo_keyOf_7 : decode b_Mo_keyOf 7 = .ok (.aload_n 0, 1) := by decide +kernel
theorem d_Mo_keyOf_8 : decode b_Mo_keyOf 8 = .ok (.getfield 7, 3) := by decide +kernel
theorem d_Mo_keyOf_11 : decode b_Mo_keyOf 11 = .ok (.iconst 1, 1) := by decide +kernel
theorem d_Mo_keyOf_12 : decode b_Mo_keyOf 12 = .ok (.isub, 1) := by decide +kernel
theorem d_Mo_keyOf_13 : decode b_Mo_keyOf 13 = .ok (.istore 5, 2) := by decide +kernel
theorem d_Mo_keyOf_15 : decode b_Mo_keyOf 15 = .ok (.iload 5, 2) := by decide +kernel
theorem d_Mo_keyOf_17 : decode b_Mo_keyOf 17 = .ok (.ifCond .lt 31, 3) := by decide +kernel
theorem d_Mo_keyOf_20 : decode b_Mo_keyOf 20 = .ok (.iconst 4, 1) := by decide +kernel
theorem d_Mo_keyOf_21 : decode b_Mo_keyOf 21 = .ok (.iload 4, 2) := by decide +kernel
theorem d_Mo_keyOf_23 : decode b_Mo_keyOf 23 = .ok (.imul, 1) := by decide +kernel
theorem d_Mo_keyOf_24 : decode b_Mo_keyOf 24 = .ok (.iload_n 2, 1) := by decide +kernel
theorem d_Mo_keyOf_25 : decode b_Mo_keyOf 25 = .ok (.iload 5, 2) := by decide +kernel
theorem d_Mo_keyOf_27 : decode b_Mo_keyOf 27 = .ok (.ishr, 1) := by decide +kernel
theorem d_Mo_keyOf_28 : decode b_Mo_keyOf 28 = .ok (.iconst 1, 1) := by decide +kernel
theorem d_Mo_keyOf_29 : decode b_Mo_keyOf 29 = .ok (.iand, 1) := by decide +kernel
theorem d_Mo_keyOf_30 : decode b_Mo_keyOf 30 = .ok (.iadd, 1) := by decide +kernel
theorem d_Mo_keyOf_31 : decode b_Mo_keyOf 31 = .ok (.iconst 2, 1) := by decide +kernel
theorem d_Mo_keyOf_32 : decode b_Mo_keyOf 32 = .ok (.iload_n 3, 1) := by decide +kernel
theorem d_Mo_keyOf_33 : decode b_Mo_keyOf 33 = .ok (.iload 5, 2) := by decide +kernel
theorem d_Mo_keyOf_35 : decode b_Mo_keyOf 35 = .ok (.ishr, 1) := by decide +kernel
theorem d_Mo_keyOf_36 : decode b_Mo_keyOf 36 = .ok (.iconst 1, 1) := by decide +kernel
theorem d_Mo_keyOf_37 : decode b_Mo_keyOf 37 = .ok (.iand, 1) := by decide +kernel
theorem d_Mo_keyOf_38 : decode b_Mo_keyOf 38 = .ok (.imul, 1) := by decide +kernel
theorem d_Mo_keyOf_39 : decode b_Mo_keyOf 39 = .ok (.iadd, 1) := by decide +kernel
theorem d_Mo_keyOf_40 : decode b_Mo_keyOf 40 = .ok (.istore 4, 2) := by decide +kernel
theorem d_Mo_keyOf_42 : decode b_Mo_keyOf 42 = .ok (.iinc 5 (-1), 3) := by decide +kernel
theorem d_Mo_keyOf_45 : decode b_Mo_keyOf 45 = .ok (.goto (-30), 3) := by decide +kernel
theorem d_Mo_keyOf_48 : decode b_Mo_keyOf 48 = .ok (.iload 4, 2) := by decide +kernel
theorem d_Mo_keyOf_50 : decode b_Mo_keyOf 50 = .ok (.ireturn, 1) := by decide +kernel
theorem d_Mo_keyOf_51 : decode b_Mo_keyOf 51 = .ok (.iload_n 2, 1) := by decide +kernel
theorem d_Mo_keyOf_52 : decode b_Mo_keyOf 52 = .ok (.istore 5, 2) := by decide +kernel
theorem d_Mo_keyOf_54 : decode b_Mo_keyOf 54 = .ok (.iload_n 3, 1) := by decide +kernel
theorem d_Mo_keyOf_55 : decode b_Mo_keyOf 55 = .ok (.istore 6, 2) := by decide +kernel
theorem d_Mo_keyOf_57 : decode b_Mo_keyOf 57 = .ok (.aload_n 0, 1) := by decide +kernel
theorem d_Mo_keyOf_58 : decode b_Mo_keyOf 58 = .ok (.invokevirtual 26, 3) := by decide +kernel
theorem d_Mo_keyOf_61 : decode b_Mo_keyOf 61 = .ok (.iconst 2, 1) := by decide +kernel
theorem d_Mo_keyOf_62 : decode b_Mo_keyOf 62 = .ok (.idiv, 1) := by decide +kernel
theorem d_Mo_keyOf_63 : decode b_Mo_keyOf 63 = .ok (.istore 7, 2) := by decide +kernel
theorem d_Mo_keyOf_65 : decode b_Mo_keyOf 65 = .ok (.iload 7, 2) := by decide +kernel
theorem d_Mo_keyOf_67 : decode b_Mo_keyOf 67 = .ok (.ifCond .le 136, 3) := by decide +kernel
theorem d_Mo_keyOf_70 : decode b_Mo_keyOf 70 = .ok (.iload 5, 2) := by decide +kernel
theorem d_Mo_keyOf_72 : decode b_Mo_keyOf 72 = .ok (.istore 8, 2) := by decide +kernel
theorem d_Mo_keyOf_74 : decode b_Mo_keyOf 74 = .ok (.iload 5, 2) := by decide +kernel
theorem d_Mo_keyOf_76 : decode b_Mo_keyOf 76 = .ok (.iload 7, 2) := by decide +kernel
theorem d_Mo_keyOf_78 : decode b_Mo_keyOf 78 = .ok (.if_icmp .ge 21, 3) := by decide +kernel
theorem d_Mo_keyOf_81 : decode b_Mo_keyOf 81 = .ok (.iload 6, 2) := by decide +kernel
theorem d_Mo_keyOf_83 : decode b_Mo_keyOf 83 = .ok (.iload 7, 2) := by decide +kernel
theorem d_Mo_keyOf_85 : decode b_Mo_keyOf 85 = .ok (.if_icmp .ge 14, 3) := by decide +kernel
theorem d_Mo_keyOf_88 : decode b_Mo_keyOf 88 = .ok (.iload 6, 2) := by decide +kernel
theorem d_Mo_keyOf_90 : decode b_Mo_keyOf 90 = .ok (.istore 5, 2) := by decide +kernel
theorem d_Mo_keyOf_92 : decode b_Mo_keyOf 92 = .ok (.iload 8, 2) := by decide +kernel
theorem d_Mo_keyOf_94 : decode b_Mo_keyOf 94 = .ok (.istore 6, 2) := by decide +kernel
theorem d_Mo_keyOf_96 : decode b_Mo_keyOf 96 = .ok (.goto 98, 3) := by decide +kernel
theorem d_Mo_keyOf_99 : decode b_Mo_keyOf 99 = .ok (.iload 5, 2) := by decide +kernel
theorem d_Mo_keyOf_101 : decode b_Mo_keyOf 101 = .ok (.iload 7, 2) := by decide +kernel
theorem d_Mo_keyOf_103 : decode b_Mo_keyOf 103 = .ok (.if_icmp .ge 23, 3) := by decide +kernel
theorem d_Mo_keyOf_106 : decode b_Mo_keyOf 106 = .ok (.iload 4, 2) := by decide +kernel
theorem d_Mo_keyOf_108 : decode b_Mo_keyOf 108 = .ok (.iload 7, 2) := by decide +kernel
theorem d_Mo_keyOf_110 : decode b_Mo_keyOf 110 = .ok (.iload 7, 2) := by decide +kernel
theorem d_Mo_keyOf_112 : decode b_Mo_keyOf 112 = .ok (.imul, 1) := by decide +kernel
theorem d_Mo_keyOf_113 : decode b_Mo_keyOf 113 = .ok (.iadd, 1) := by decide +kernel
theorem d_Mo_keyOf_114 : decode b_Mo_keyOf 114 = .ok (.istore 4, 2) := by decide +kernel
theorem d_Mo_keyOf_116 : decode b_Mo_keyOf 116 = .ok (.iload 6, 2) := by decide +kernel
theorem d_Mo_keyOf_118 : decode b_Mo_keyOf 118 = .ok (.iload 7, 2) := by decide +kernel
theorem d_Mo_keyOf_120 : decode b_Mo_keyOf 120 = .ok (.isub, 1) := by decide +kernel
theorem d_Mo_keyOf_121 : decode b_Mo_keyOf 121 = .ok (.istore 6, 2) := by decide +kernel
theorem d_Mo_keyOf_123 : decode b_Mo_keyOf 123 = .ok (.goto 71, 3) := by decide +kernel
theorem d_Mo_keyOf_126 : decode b_Mo_keyOf 126 = .ok (.iload 6, 2) := by decide +kernel
theorem d_Mo_keyOf_128 : decode b_Mo_keyOf 128 = .ok (.iload 7, 2) := by decide +kernel
theorem d_Mo_keyOf_130 : decode b_Mo_keyOf 130 = .ok (.if_icmp .lt 32, 3) := by decide +kernel
theorem d_Mo_keyOf_133 : decode b_Mo_keyOf 133 = .ok (.iload 4, 2) := by decide +kernel
theorem d_Mo_keyOf_135 : decode b_Mo_keyOf 135 = .ok (.iconst 2, 1) := by decide +kernel
theorem d_Mo_keyOf_136 : decode b_Mo_keyOf 136 = .ok (.iload 7, 2) := by decide +kernel
theorem d_Mo_keyOf_138 : decode b_Mo_keyOf 138 = .ok (.imul, 1) := by decide +kernel
theorem d_Mo_keyOf_139 : decode b_Mo_keyOf 139 = .ok (.iload 7, 2) := by decide +kernel
theorem d_Mo_keyOf_141 : decode b_Mo_keyOf 141 = .ok (.imul, 1) := by decide +kernel
theorem d_Mo_keyOf_142 : decode b_Mo_keyOf 142 = .ok (.iadd, 1) := by decide +kernel
theorem d_Mo_keyOf_143 : decode b_Mo_keyOf 143 = .ok (.istore 4, 2) := by decide +kernel
theorem d_Mo_keyOf_145 : decode b_Mo_keyOf 145 = .ok (.iload 5, 2) := by decide +kernel
theorem d_Mo_keyOf_147 : decode b_Mo_keyOf 147 = .ok (.iload 7, 2) := by decide +kernel
theorem d_Mo_keyOf_149 : decode b_Mo_keyOf 149 = .ok (.isub, 1) := by decide +kernel
theorem d_Mo_keyOf_150 : decode b_Mo_keyOf 150 = .ok (.istore 5, 2) := by decide +kernel
theorem d_Mo_keyOf_152 : decode b_Mo_keyOf 152 = .ok (.iload 6, 2) := by decide +kernel
theorem d_Mo_keyOf_154 : decode b_Mo_keyOf 154 = .ok (.iload 7, 2) := by decide +kernel
theorem d_Mo_keyOf_156 : decode b_Mo_keyOf 156 = .ok (.isub, 1) := by decide +kernel
theorem d_Mo_keyOf_157 : decode b_Mo_keyOf 157 = .ok (.istore 6, 2) := by decide +kernel
theorem d_Mo_keyOf_159 : decode b_Mo_keyOf 159 = .ok (.goto 35, 3) := by decide +kernel
theorem d_Mo_keyOf_162 : decode b_Mo_keyOf 162 = .ok (.iload 4, 2) := by decide +kernel
theorem d_Mo_keyOf_164 : decode b_Mo_keyOf 164 = .ok (.iconst 3, 1) := by decide +kernel
theorem d_Mo_keyOf_165 : decode b_Mo_keyOf 165 = .ok (.iload 7, 2) := by decide +kernel
theorem d_Mo_keyOf_167 : decode b_Mo_keyOf 167 = .ok (.imul, 1) := by decide +kernel
theorem d_Mo_keyOf_168 : decode b_Mo_keyOf 168 = .ok (.iload 7, 2) := by decide +kernel
theorem d_Mo_keyOf_170 : decode b_Mo_keyOf 170 = .ok (.imul, 1) := by decide +kernel
theorem d_Mo_keyOf_171 : decode b_Mo_keyOf 171 = .ok (.iadd, 1) := by decide +kernel
theorem d_Mo_keyOf_172 : decode b_Mo_keyOf 172 = .ok (.istore 4, 2) := by decide +kernel
theorem d_Mo_keyOf_174 : decode b_Mo_keyOf 174 = .ok (.iload 7, 2) := by decide +kernel
theorem d_Mo_keyOf_176 : decode b_Mo_keyOf 176 = .ok (.iconst 1, 1) := by decide +kernel
theorem d_Mo_keyOf_177 : decode b_Mo_keyOf 177 = .ok (.isub, 1) := by decide +kernel
theorem d_Mo_keyOf_178 : decode b_Mo_keyOf 178 = .ok (.iload 6, 2) := by decide +kernel
theorem d_Mo_keyOf_180 : decode b_Mo_keyOf 180 = .ok (.isub, 1) := by decide +kernel
theorem d_Mo_keyOf_181 : decode b_Mo_keyOf 181 = .ok (.istore 5, 2) := by decide +kernel
theorem d_Mo_keyOf_183 : decode b_Mo_keyOf 183 = .ok (.iconst 2, 1) := by decide +kernel
theorem d_Mo_keyOf_184 : decode b_Mo_keyOf 184 = .ok (.iload 7, 2) := by decide +kernel
theorem d_Mo_keyOf_186 : decode b_Mo_keyOf 186 = .ok (.imul, 1) := by decide +kernel
theorem d_Mo_keyOf_187 : decode b_Mo_keyOf 187 = .ok (.iconst 1, 1) := by decide +kernel
theorem d_Mo_keyOf_188 : decode b_Mo_keyOf 188 = .ok (.isub, 1) := by decide +kernel
theorem d_Mo_keyOf_189 : decode b_Mo_keyOf 189 = .ok (.iload 8, 2) := by decide +kernel
theorem d_Mo_keyOf_191 : decode b_Mo_keyOf 191 = .ok (.isub, 1) := by decide +kernel
theorem d_Mo_keyOf_192 : decode b_Mo_keyOf 192 = .ok (.istore 6, 2) := by decide +kernel
theorem d_Mo_keyOf_194 : decode b_Mo_keyOf 194 = .ok (.iload 7, 2) := by decide +kernel
theorem d_Mo_keyOf_196 : decode b_Mo_keyOf 196 = .ok (.iconst 2, 1) := by decide +kernel
theorem d_Mo_keyOf_197 : decode b_Mo_keyOf 197 = .ok (.idiv, 1) := by decide +kernel
theorem d_Mo_keyOf_198 : decode b_Mo_keyOf 198 = .ok (.istore 7, 2) := by decide +kernel
theorem d_Mo_keyOf_200 : decode b_Mo_keyOf 200 = .ok (.goto (-135), 3) := by decide +kernel
theorem d_Mo_keyOf_203 : decode b_Mo_keyOf 203 = .ok (.iload 4, 2) := by decide +kernel
theorem d_Mo_keyOf_205 : decode b_Mo_keyOf 205 = .ok (.ireturn, 1) := by decide +kernel
theorem d_Mo_cellOf_0 : decode b_Mo_cellOf 0 = .ok (.iconst 0, 1) := by decide +kernel
theorem d_Mo_cellOf_1 : decode b_Mo_cellOf 1 = .ok (.istore_n 3, 1) := by decide +kernel
theorem d_Mo_cellOf_2 : decode b_Mo_cellOf 2 = .ok (.iconst 0, 1) := by decide +kernel
theorem d_Mo_cellOf_3 : decode b_Mo_cellOf 3 = .ok (.istore 4, 2) := by decide +kernel
theorem d_Mo_cellOf_5 : decode b_Mo_cellOf 5 = .ok (.iconst 0, 1) := by decide +kernel
theorem d_Mo_cellOf_6 : decode b_Mo_cellOf 6 = .ok (.istore 5, 2) := by decide +kernel
theorem d_Mo_cellOf_8 : decode b_Mo_cellOf 8 = .ok (.iload 5, 2) := by decide +kernel
theorem d_Mo_cellOf_10 : decode b_Mo_cellOf 10 = .ok (.aload_n 0, 1) := by decide +kernel
theorem d_Mo_cellOf_11 : decode b_Mo_cellOf 11 = .ok (.getfield 7, 3) := by decide +kernel
theorem d_Mo_cellOf_14 : decode b_Mo_cellOf 14 = .ok (.if_icmp .ge 128, 3) := by decide +kernel
theorem d_Mo_cellOf_17 : decode b_Mo_cellOf 17 = .ok (.iconst 1, 1) := by decide +kernel
theorem d_Mo_cellOf_18 : decode b_Mo_cellOf 18 = .ok (.iload 5, 2) := by decide +kernel
theorem d_Mo_cellOf_20 : decode b_Mo_cellOf 20 = .ok (.ishl, 1) := by decide +kernel
theorem d_Mo_cellOf_21 : decode b_Mo_cellOf 21 = .ok (.istore 6, 2) := by decide +kernel
theorem d_Mo_cellOf_23 : decode b_Mo_cellOf 23 = .ok (.iload_n 2, 1) := by decide +kernel
theorem d_Mo_cellOf_24 : decode b_Mo_cellOf 24 = .ok (.iconst 2, 1) := by decide +kernel
theorem d_Mo_cellOf_25 : decode b_Mo_cellOf 25 = .ok (.iload 5, 2) := by decide +kernel
theorem d_Mo_cellOf_27 : decode b_Mo_cellOf 27 = .ok (.imul, 1) := by decide +kernel
theorem d_Mo_cellOf_28 : decode b_Mo_cellOf 28 = .ok (.ishr, 1) := by decide +kernel
theorem d_Mo_cellOf_29 : decode b_Mo_cellOf 29 = .ok (.iconst 3, 1) := by decide +kernel
theorem d_Mo_cellOf_30 : decode b_Mo_cellOf 30 = .ok (.iand, 1) := by decide +kernel
theorem d_Mo_cellOf_31 : decode b_Mo_cellOf 31 = .ok (.istore 7, 2) := by decide +kernel
theorem d_Mo_cellOf_33 : decode b_Mo_cellOf 33 = .ok (.iload_n 1, 1) := by decide +kernel
theorem d_Mo_cellOf_34 : decode b_Mo_cellOf 34 = .ok (.ifCond .ne 28, 3) := by decide +kernel
theorem d_Mo_cellOf_37 : decode b_Mo_cellOf 37 = .ok (.iload_n 3, 1) := by decide +kernel
theorem d_Mo_cellOf_38 : decode b_Mo_cellOf 38 = .ok (.iload 6, 2) := by decide +kernel
theorem d_Mo_cellOf_40 : decode b_Mo_cellOf 40 = .ok (.iload 7, 2) := by decide +kernel
theorem d_Mo_cellOf_42 : decode b_Mo_cellOf 42 = .ok (.iconst 1, 1) := by decide +kernel
theorem d_Mo_cellOf_43 : decode b_Mo_cellOf 43 = .ok (.iand, 1) := by decide +kernel
theorem d_Mo_cellOf_44 : decode b_Mo_cellOf 44 = .ok (.imul, 1) := by decide +kernel
theorem d_Mo_cellOf_45 : decode b_Mo_cellOf 45 = .ok (.iadd, 1) := by decide +kernel
theorem d_Mo_cellOf_46 : decode b_Mo_cellOf 46 = .ok (.istore_n 3, 1) := by decide +kernel
theorem d_Mo_cellOf_47 : decode b_Mo_cellOf 47 = .ok (.iload 4, 2) := by decide +kernel
theorem d_Mo_cellOf_49 : decode b_Mo_cellOf 49 = .ok (.iload 6, 2) := by decide +kernel
theorem d_Mo_cellOf_51 : decode b_Mo_cellOf 51 = .ok (.iload 7, 2) := by decide +kernel
theorem d_Mo_cellOf_53 : decode b_Mo_cellOf 53 = .ok (.iconst 1, 1) := by decide +kernel
theorem d_Mo_cellOf_54 : decode b_Mo_cellOf 54 = .ok (.ishr, 1) := by decide +kernel
theorem d_Mo_cellOf_55 : decode b_Mo_cellOf 55 = .ok (.imul, 1) := by decide +kernel
theorem d_Mo_cellOf_56 : decode b_Mo_cellOf 56 = .ok (.iadd, 1) := by decide +kernel
theorem d_Mo_cellOf_57 : decode b_Mo_cellOf 57 = .ok (.istore 4, 2) := by decide +kernel
theorem d_Mo_cellOf_59 : decode b_Mo_cellOf 59 = .ok (.goto 77, 3) := by decide +kernel
theorem d_Mo_cellOf_62 : decode b_Mo_cellOf 62 = .ok (.iload_n 3, 1) := by decide +kernel
theorem d_Mo_cellOf_63 : decode b_Mo_cellOf 63 = .ok (.istore 8, 2) := by decide +kernel
theorem d_Mo_cellOf_65 : decode b_Mo_cellOf 65 = .ok (.iload 7, 2) := by decide +kernel
theorem d_Mo_cellOf_67 : decode b_Mo_cellOf 67 = .ok (.ifCond .ne 13, 3) := by decide +kernel
theorem d_Mo_cellOf_70 : decode b_Mo_cellOf 70 = .ok (.iload 4, 2) := by decide +kernel
theorem d_Mo_cellOf_72 : decode b_Mo_cellOf 72 = .ok (.istore_n 3, 1) := by decide +kernel
theorem d_Mo_cellOf_73 : decode b_Mo_cellOf 73 = .ok (.iload 8, 2) := by decide +kernel
theorem d_Mo_cellOf_75 : decode b_Mo_cellOf 75 = .ok (.istore 4, 2) := by decide +kernel
theorem d_Mo_cellOf_77 : decode b_Mo_cellOf 77 = .ok (.goto 59, 3) := by decide +kernel
theorem d_Mo_cellOf_80 : decode b_Mo_cellOf 80 = .ok (.iload 7, 2) := by decide +kernel
theorem d_Mo_cellOf_82 : decode b_Mo_cellOf 82 = .ok (.iconst 1, 1) := by decide +kernel
theorem d_Mo_cellOf_83 : decode b_Mo_cellOf 83 = .ok (.if_icmp .ne 13, 3) := by decide +kernel
theorem d_Mo_cellOf_86 : decode b_Mo_cellOf 86 = .ok (.iload 4, 2) := by decide +kernel
theorem d_Mo_cellOf_88 : decode b_Mo_cellOf 88 = .ok (.iload 6, 2) := by decide +kernel
theorem d_Mo_cellOf_90 : decode b_Mo_cellOf 90 = .ok (.iadd, 1) := by decide +kernel
theorem d_Mo_cellOf_91 : decode b_Mo_cellOf 91 = .ok (.istore 4, 2) := by decide +kernel
theorem d_Mo_cellOf_93 : decode b_Mo_cellOf 93 = .ok (.goto 43, 3) := by decide +kernel
theorem d_Mo_cellOf_96 : decode b_Mo_cellOf 96 = .ok (.iload 7, 2) := by decide +kernel
theorem d_Mo_cellOf_98 : decode b_Mo_cellOf 98 = .ok (.iconst 2, 1) := by decide +kernel
theorem d_Mo_cellOf_99 : decode b_Mo_cellOf 99 = .ok (.if_icmp .ne 18, 3) := by decide +kernel
theorem d_Mo_cellOf_102 : decode b_Mo_cellOf 102 = .ok (.iload_n 3, 1) := by decide +kernel
theorem d_Mo_cellOf_103 : decode b_Mo_cellOf 103 = .ok (.iload 6, 2) := by decide +kernel
theorem d_Mo_cellOf_105 : decode b_Mo_cellOf 105 = .ok (.iadd, 1) := by decide +kernel
theorem d_Mo_cellOf_106 : decode b_Mo_cellOf 106 = .ok (.istore_n 3, 1) := by decide +kernel
theorem d_Mo_cellOf_107 : decode b_Mo_cellOf 107 = .ok (.iload 4, 2) := by decide +kernel
theorem d_Mo_cellOf_109 : decode b_Mo_cellOf 109 = .ok (.iload 6, 2) := by decide +kernel
theorem d_Mo_cellOf_111 : decode b_Mo_cellOf 111 = .ok (.iadd, 1) := by decide +kernel
theorem d_Mo_cellOf_112 : decode b_Mo_cellOf 112 = .ok (.istore 4, 2) := by decide +kernel
theorem d_Mo_cellOf_114 : decode b_Mo_cellOf 114 = .ok (.goto 22, 3) := by decide +kernel
theorem d_Mo_cellOf_117 : decode b_Mo_cellOf 117 = .ok (.iconst 2, 1) := by decide +kernel
theorem d_Mo_cellOf_118 : decode b_Mo_cellOf 118 = .ok (.iload 6, 2) := by decide +kernel
theorem d_Mo_cellOf_120 : decode b_Mo_cellOf 120 = .ok (.imul, 1) := by decide +kernel
theorem d_Mo_cellOf_121 : decode b_Mo_cellOf 121 = .ok (.iconst 1, 1) := by decide +kernel
theorem d_Mo_cellOf_122 : decode b_Mo_cellOf 122 = .ok (.isub, 1) := by decide +kernel
theorem d_Mo_cellOf_123 : decode b_Mo_cellOf 123 = .ok (.iload 4, 2) := by decide +kernel
theorem d_Mo_cellOf_125 : decode b_Mo_cellOf 125 = .ok (.isub, 1) := by decide +kernel
theorem d_Mo_cellOf_126 : decode b_Mo_cellOf 126 = .ok (.istore_n 3, 1) := by decide +kernel
theorem d_Mo_cellOf_127 : decode b_Mo_cellOf 127 = .ok (.iload 6, 2) := by decide +kernel
theorem d_Mo_cellOf_129 : decode b_Mo_cellOf 129 = .ok (.iconst 1, 1) := by decide +kernel
theorem d_Mo_cellOf_130 : decode b_Mo_cellOf 130 = .ok (.isub, 1) := by decide +kernel
theorem d_Mo_cellOf_131 : decode b_Mo_cellOf 131 = .ok (.iload 8, 2) := by decide +kernel
theorem d_Mo_cellOf_133 : decode b_Mo_cellOf 133 = .ok (.isub, 1) := by decide +kernel
theorem d_Mo_cellOf_134 : decode b_Mo_cellOf 134 = .ok (.istore 4, 2) := by decide +kernel
theorem d_Mo_cellOf_136 : decode b_Mo_cellOf 136 = .ok (.iinc 5 1, 3) := by decide +kernel
theorem d_Mo_cellOf_139 : decode b_Mo_cellOf 139 = .ok (.goto (-131), 3) := by decide +kernel
theorem d_Mo_cellOf_142 : decode b_Mo_cellOf 142 = .ok (.iload_n 3, 1) := by decide +kernel
theorem d_Mo_cellOf_143 : decode b_Mo_cellOf 143 = .ok (.aload_n 0, 1) := by decide +kernel
theorem d_Mo_cellOf_144 : decode b_Mo_cellOf 144 = .ok (.invokevirtual 26, 3) := by decide +kernel
theorem d_Mo_cellOf_147 : decode b_Mo_cellOf 147 = .ok (.imul, 1) := by decide +kernel
theorem d_Mo_cellOf_148 : decode b_Mo_cellOf 148 = .ok (.iload 4, 2) := by decide +kernel
theorem d_Mo_cellOf_150 : decode b_Mo_cellOf 150 = .ok (.iadd, 1) := by decide +kernel
theorem d_Mo_cellOf_151 : decode b_Mo_cellOf 151 = .ok (.ireturn, 1) := by decide +kernel
theorem d_Mo_isCurve_0 : decode b_Mo_isCurve 0 = .ok (.iload_n 0, 1) := by decide +kernel
theorem d_Mo_isCurve_1 : decode b_Mo_isCurve 1 = .ok (.ifCond .eq 8, 3) := by decide +kernel
theorem d_Mo_isCurve_4 : decode b_Mo_isCurve 4 = .ok (.iload_n 0, 1) := by decide +kernel
theorem d_Mo_isCurve_5 : decode b_Mo_isCurve 5 = .ok (.iconst 1, 1) := by decide +kernel
theorem d_Mo_isCurve_6 : decode b_Mo_isCurve 6 = .ok (.if_icmp .ne 7, 3) := by decide +kernel
theorem d_Mo_isCurve_9 : decode b_Mo_isCurve 9 = .ok (.iconst 1, 1) := by decide +kernel
theorem d_Mo_isCurve_10 : decode b_Mo_isCurve 10 = .ok (.goto 4, 3) := by decide +kernel
theorem d_Mo_isCurve_13 : decode b_Mo_isCurve 13 = .ok (.iconst 0, 1) := by decide +kernel
theorem d_Mo_isCurve_14 : decode b_Mo_isCurve 14 = .ok (.ireturn, 1) := by decide +kernel
theorem d_Mo_key_0 : decode b_Mo_key 0 = .ok (.iload_n 1, 1) := by decide +kernel
theorem d_Mo_key_1 : decode b_Mo_key 1 = .ok (.invokestatic 45, 3) := by decide +kernel
theorem d_Mo_key_4 : decode b_Mo_key 4 = .ok (.ifCond .eq 22, 3) := by decide +kernel
theorem d_Mo_key_7 : decode b_Mo_key 7 = .ok (.aload_n 0, 1) := by decide +kernel
theorem d_Mo_key_8 : decode b_Mo_key 8 = .ok (.iload_n 2, 1) := by decide +kernel
theorem d_Mo_key_9 : decode b_Mo_key 9 = .ok (.iload_n 3, 1) := by decide +kernel
theorem d_Mo_key_10 : decode b_Mo_key 10 = .ok (.invokevirtual 49, 3) := by decide +kernel
theorem d_Mo_key_13 : decode b_Mo_key 13 = .ok (.ifCond .eq 13, 3) := by decide +kernel
theorem d_Mo_key_16 : decode b_Mo_key 16 = .ok (.aload_n 0, 1) := by decide +kernel
theorem d_Mo_key_17 : decode b_Mo_key 17 = .ok (.iload_n 1, 1) := by decide +kernel
theorem d_Mo_key_18 : decode b_Mo_key 18 = .ok (.iload_n 2, 1) := by decide +kernel
theorem d_Mo_key_19 : decode b_Mo_key 19 = .ok (.iload_n 3, 1) := by decide +kernel
theorem d_Mo_key_20 : decode b_Mo_key 20 = .ok (.invokevirtual 53, 3) := by decide +kernel
theorem d_Mo_key_23 : decode b_Mo_key 23 = .ok (.goto 4, 3) := by decide +kernel
theorem d_Mo_key_26 : decode b_Mo_key 26 = .ok (.iconst (-1), 1) := by decide +kernel
theorem d_Mo_key_27 : decode b_Mo_key 27 = .ok (.ireturn, 1) := by decide +kernel
theorem d_Mo_cell_0 : decode b_Mo_cell 0 = .ok (.iload_n 1, 1) := by decide +kernel
theorem d_Mo_cell_1 : decode b_Mo_cell 1 = .ok (.invokestatic 45, 3) := by decide +kernel
theorem d_Mo_cell_4 : decode b_Mo_cell 4 = .ok (.ifCond .eq 29, 3) := by decide +kernel
theorem d_Mo_cell_7 : decode b_Mo_cell 7 = .ok (.iload_n 2, 1) := by decide +kernel
theorem d_Mo_cell_8 : decode b_Mo_cell 8 = .ok (.ifCond .lt 25, 3) := by decide +kernel
theorem d_Mo_cell_11 : decode b_Mo_cell 11 = .ok (.iload_n 2, 1) := by decide +kernel
theorem d_Mo_cell_12 : decode b_Mo_cell 12 = .ok (.aload_n 0, 1) := by decide +kernel
theorem d_Mo_cell_13 : decode b_Mo_cell 13 = .ok (.invokevirtual 26, 3) := by decide +kernel
theorem d_Mo_cell_16 : decode b_Mo_cell 16 = .ok (.aload_n 0, 1) := by decide +kernel
theorem d_Mo_cell_17 : decode b_Mo_cell 17 = .ok (.invokevirtual 26, 3) := by decide +kernel
theorem d_Mo_cell_20 : decode b_Mo_cell 20 = .ok (.imul, 1) := by decide +kernel
theorem d_Mo_cell_21 : decode b_Mo_cell 21 = .ok (.if_icmp .ge 12, 3) := by decide +kernel
theorem d_Mo_cell_24 : decode b_Mo_cell 24 = .ok (.aload_n 0, 1) := by decide +kernel
theorem d_Mo_cell_25 : decode b_Mo_cell 25 = .ok (.iload_n 1, 1) := by decide +kernel
theorem d_Mo_cell_26 : decode b_Mo_cell 26 = .ok (.iload_n 2, 1) := by decide +kernel
theorem d_Mo_cell_27 : decode b_Mo_cell 27 = .ok (.invokevirtual 57, 3) := by decide +kernel
theorem d_Mo_cell_30 : decode b_Mo_cell 30 = .ok (.goto 4, 3) := by decide +kernel
theorem d_Mo_cell_33 : decode b_Mo_cell 33 = .ok (.iconst (-1), 1) := by decide +kernel
theorem d_Mo_cell_34 : decode b_Mo_cell 34 = .ok (.ireturn, 1) := by decide +kernel
theorem d_Mo_find_0 : decode b_Mo_find 0 = .ok (.iconst 0, 1) := by decide +kernel
theorem d_Mo_find_1 : decode b_Mo_find 1 = .ok (.istore_n 2, 1) := by decide +kernel
theorem d_Mo_find_2 : decode b_Mo_find 2 = .ok (.iload_n 2, 1) := by decide +kernel
theorem d_Mo_find_3 : decode b_Mo_find 3 = .ok (.aload_n 0, 1) := by decide +kernel
theorem d_Mo_find_4 : decode b_Mo_find 4 = .ok (.getfield 30, 3) := by decide +kernel
theorem d_Mo_find_7 : decode b_Mo_find 7 = .ok (.if_icmp .ge 19, 3) := by decide +kernel
theorem d_Mo_find_10 : decode b_Mo_find 10 = .ok (.aload_n 0, 1) := by decide +kernel
theorem d_Mo_find_11 : decode b_Mo_find 11 = .ok (.getfield 13, 3) := by decide +kernel
theorem d_Mo_find_14 : decode b_Mo_find 14 = .ok (.iload_n 2, 1) := by decide +kernel
theorem d_Mo_find_15 : decode b_Mo_find 15 = .ok (.iaload, 1) := by decide +kernel
theorem d_Mo_find_16 : decode b_Mo_find 16 = .ok (.iload_n 1, 1) := by decide +kernel
theorem d_Mo_find_17 : decode b_Mo_find 17 = .ok (.if_icmp .eq 9, 3) := by decide +kernel
theorem d_Mo_find_20 : decode b_Mo_find 20 = .ok (.iinc 2 1, 3) := by decide +kernel
theorem d_Mo_find_23 : decode b_Mo_find 23 = .ok (.goto (-21), 3) := by decide +kernel
theorem d_Mo_find_26 : decode b_Mo_find 26 = .ok (.iload_n 2, 1) := by decide +kernel
theorem d_Mo_find_27 : decode b_Mo_find 27 = .ok (.ireturn, 1) := by decide +kernel
theorem d_Mo_put_0 : decode b_Mo_put 0 = .ok (.aload_n 0, 1) := by decide +kernel
theorem d_Mo_put_1 : decode b_Mo_put 1 = .ok (.iload_n 1, 1) := by decide +kernel
theorem d_Mo_put_2 : decode b_Mo_put 2 = .ok (.iload_n 2, 1) := by decide +kernel
theorem d_Mo_put_3 : decode b_Mo_put 3 = .ok (.invokevirtual 49, 3) := by decide +kernel
theorem d_Mo_put_6 : decode b_Mo_put 6 = .ok (.ifCond .eq 15, 3) := by decide +kernel
theorem d_Mo_put_9 : decode b_Mo_put 9 = .ok (.iload_n 3, 1) := by decide +kernel
theorem d_Mo_put_10 : decode b_Mo_put 10 = .ok (.iconst 1, 1) := by decide +kernel
theorem d_Mo_put_11 : decode b_Mo_put 11 = .ok (.if_icmp .lt 10, 3) := by decide +kernel
theorem d_Mo_put_14 : decode b_Mo_put 14 = .ok (.iload_n 3, 1) := by decide +kernel
theorem d_Mo_put_15 : decode b_Mo_put 15 = .ok (.sipush 999, 3) := by decide +kernel
theorem d_Mo_put_18 : decode b_Mo_put 18 = .ok (.if_icmp .le 5, 3) := by decide +kernel
theorem d_Mo_put_21 : decode b_Mo_put 21 = .ok (.iconst (-1), 1) := by decide +kernel
theorem d_Mo_put_22 : decode b_Mo_put 22 = .ok (.ireturn, 1) := by decide +kernel
theorem d_Mo_put_23 : decode b_Mo_put 23 = .ok (.aload_n 0, 1) := by decide +kernel
theorem d_Mo_put_24 : decode b_Mo_put 24 = .ok (.iload_n 1, 1) := by decide +kernel
theorem d_Mo_put_25 : decode b_Mo_put 25 = .ok (.aload_n 0, 1) := by decide +kernel
theorem d_Mo_put_26 : decode b_Mo_put 26 = .ok (.invokevirtual 26, 3) := by decide +kernel
theorem d_Mo_put_29 : decode b_Mo_put 29 = .ok (.imul, 1) := by decide +kernel
theorem d_Mo_put_30 : decode b_Mo_put 30 = .ok (.iload_n 2, 1) := by decide +kernel
theorem d_Mo_put_31 : decode b_Mo_put 31 = .ok (.iadd, 1) := by decide +kernel
theorem d_Mo_put_32 : decode b_Mo_put 32 = .ok (.invokevirtual 61, 3) := by decide +kernel
theorem d_Mo_put_35 : decode b_Mo_put 35 = .ok (.istore 4, 2) := by decide +kernel
theorem d_Mo_put_37 : decode b_Mo_put 37 = .ok (.iload 4, 2) := by decide +kernel
theorem d_Mo_put_39 : decode b_Mo_put 39 = .ok (.sipush 500, 3) := by decide +kernel
theorem d_Mo_put_42 : decode b_Mo_put 42 = .ok (.if_icmp .ne 5, 3) := by decide +kernel
theorem d_Mo_put_45 : decode b_Mo_put 45 = .ok (.iconst (-1), 1) := by decide +kernel
theorem d_Mo_put_46 : decode b_Mo_put 46 = .ok (.ireturn, 1) := by decide +kernel
theorem d_Mo_put_47 : decode b_Mo_put 47 = .ok (.iload 4, 2) := by decide +kernel
theorem d_Mo_put_49 : decode b_Mo_put 49 = .ok (.aload_n 0, 1) := by decide +kernel
theorem d_Mo_put_50 : decode b_Mo_put 50 = .ok (.getfield 30, 3) := by decide +kernel
theorem d_Mo_put_53 : decode b_Mo_put 53 = .ok (.if_icmp .ge 13, 3) := by decide +kernel
theorem d_Mo_put_56 : decode b_Mo_put 56 = .ok (.aload_n 0, 1) := by decide +kernel
theorem d_Mo_put_57 : decode b_Mo_put 57 = .ok (.getfield 17, 3) := by decide +kernel
theorem d_Mo_put_60 : decode b_Mo_put 60 = .ok (.iload 4, 2) := by decide +kernel
theorem d_Mo_put_62 : decode b_Mo_put 62 = .ok (.iaload, 1) := by decide +kernel
theorem d_Mo_put_63 : decode b_Mo_put 63 = .ok (.goto 4, 3) := by decide +kernel
theorem d_Mo_put_66 : decode b_Mo_put 66 = .ok (.iconst 0, 1) := by decide +kernel
theorem d_Mo_put_67 : decode b_Mo_put 67 = .ok (.istore 5, 2) := by decide +kernel
theorem d_Mo_put_69 : decode b_Mo_put 69 = .ok (.aload_n 0, 1) := by decide +kernel
theorem d_Mo_put_70 : decode b_Mo_put 70 = .ok (.getfield 13, 3) := by decide +kernel
theorem d_Mo_put_73 : decode b_Mo_put 73 = .ok (.iload 4, 2) := by decide +kernel
theorem d_Mo_put_75 : decode b_Mo_put 75 = .ok (.iload_n 1, 1) := by decide +kernel
theorem d_Mo_put_76 : decode b_Mo_put 76 = .ok (.aload_n 0, 1) := by decide +kernel
theorem d_Mo_put_77 : decode b_Mo_put 77 = .ok (.invokevirtual 26, 3) := by decide +kernel
theorem d_Mo_put_80 : decode b_Mo_put 80 = .ok (.imul, 1) := by decide +kernel
theorem d_Mo_put_81 : decode b_Mo_put 81 = .ok (.iload_n 2, 1) := by decide +kernel
theorem d_Mo_put_82 : decode b_Mo_put 82 = .ok (.iadd, 1) := by decide +kernel
theorem d_Mo_put_83 : decode b_Mo_put 83 = .ok (.iastore, 1) := by decide +kernel
theorem d_Mo_put_84 : decode b_Mo_put 84 = .ok (.aload_n 0, 1) := by decide +kernel
theorem d_Mo_put_85 : decode b_Mo_put 85 = .ok (.getfield 17, 3) := by decide +kernel
theorem d_Mo_put_88 : decode b_Mo_put 88 = .ok (.iload 4, 2) := by decide +kernel
theorem d_Mo_put_90 : decode b_Mo_put 90 = .ok (.iload_n 3, 1) := by decide +kernel
theorem d_Mo_put_91 : decode b_Mo_put 91 = .ok (.iastore, 1) := by decide +kernel
theorem d_Mo_put_92 : decode b_Mo_put 92 = .ok (.aload_n 0, 1) := by decide +kernel
theorem d_Mo_put_93 : decode b_Mo_put 93 = .ok (.iload 4, 2) := by decide +kernel
theorem d_Mo_put_95 : decode b_Mo_put 95 = .ok (.aload_n 0, 1) := by decide +kernel
theorem d_Mo_put_96 : decode b_Mo_put 96 = .ok (.getfield 30, 3) := by decide +kernel
theorem d_Mo_put_99 : decode b_Mo_put 99 = .ok (.if_icmp .ne 12, 3) := by decide +kernel
theorem d_Mo_put_102 : decode b_Mo_put 102 = .ok (.aload_n 0, 1) := by decide +kernel
theorem d_Mo_put_103 : decode b_Mo_put 103 = .ok (.getfield 30, 3) := by decide +kernel
theorem d_Mo_put_106 : decode b_Mo_put 106 = .ok (.iconst 1, 1) := by decide +kernel
theorem d_Mo_put_107 : decode b_Mo_put 107 = .ok (.iadd, 1) := by decide +kernel
theorem d_Mo_put_108 : decode b_Mo_put 108 = .ok (.goto 7, 3) := by decide +kernel
theorem d_Mo_put_111 : decode b_Mo_put 111 = .ok (.aload_n 0, 1) := by decide +kernel
theorem d_Mo_put_112 : decode b_Mo_put 112 = .ok (.getfield 30, 3) := by decide +kernel
theorem d_Mo_put_115 : decode b_Mo_put 115 = .ok (.putfield 30, 3) := by decide +kernel
theorem d_Mo_put_118 : decode b_Mo_put 118 = .ok (.iload 5, 2) := by decide +kernel
theorem d_Mo_put_120 : decode b_Mo_put 120 = .ok (.ireturn, 1) := by decide +kernel
theorem d_Mo_take_0 : decode b_Mo_take 0 = .ok (.aload_n 0, 1) := by decide +kernel
theorem d_Mo_take_1 : decode b_Mo_take 1 = .ok (.iload_n 1, 1) := by decide +kernel
theorem d_Mo_take_2 : decode b_Mo_take 2 = .ok (.iload_n 2, 1) := by decide +kernel
theorem d_Mo_take_3 : decode b_Mo_take 3 = .ok (.invokevirtual 49, 3) := by decide +kernel
theorem d_Mo_take_6 : decode b_Mo_take 6 = .ok (.ifCond .ne 5, 3) := by decide +kernel
theorem d_Mo_take_9 : decode b_Mo_take 9 = .ok (.iconst (-1), 1) := by decide +kernel
theorem d_Mo_take_10 : decode b_Mo_take 10 = .ok (.ireturn, 1) := by decide +kernel
theorem d_Mo_take_11 : decode b_Mo_take 11 = .ok (.aload_n 0, 1) := by decide +kernel
theorem d_Mo_take_12 : decode b_Mo_take 12 = .ok (.iload_n 1, 1) := by decide +kernel
theorem d_Mo_take_13 : decode b_Mo_take 13 = .ok (.aload_n 0, 1) := by decide +kernel
theorem d_Mo_take_14 : decode b_Mo_take 14 = .ok (.invokevirtual 26, 3) := by decide +kernel
theorem d_Mo_take_17 : decode b_Mo_take 17 = .ok (.imul, 1) := by decide +kernel
theorem d_Mo_take_18 : decode b_Mo_take 18 = .ok (.iload_n 2, 1) := by decide +kernel
theorem d_Mo_take_19 : decode b_Mo_take 19 = .ok (.iadd, 1) := by decide +kernel
theorem d_Mo_take_20 : decode b_Mo_take 20 = .ok (.invokevirtual 61, 3) := by decide +kernel
theorem d_Mo_take_23 : decode b_Mo_take 23 = .ok (.istore_n 3, 1) := by decide +kernel
theorem d_Mo_take_24 : decode b_Mo_take 24 = .ok (.iload_n 3, 1) := by decide +kernel
theorem d_Mo_take_25 : decode b_Mo_take 25 = .ok (.aload_n 0, 1) := by decide +kernel
theorem d_Mo_take_26 : decode b_Mo_take 26 = .ok (.getfield 30, 3) := by decide +kernel
theorem d_Mo_take_29 : decode b_Mo_take 29 = .ok (.if_icmp .ne 5, 3) := by decide +kernel
theorem d_Mo_take_32 : decode b_Mo_take 32 = .ok (.iconst 0, 1) := by decide +kernel
theorem d_Mo_take_33 : decode b_Mo_take 33 = .ok (.ireturn, 1) := by decide +kernel
theorem d_Mo_take_34 : decode b_Mo_take 34 = .ok (.aload_n 0, 1) := by decide +kernel
theorem d_Mo_take_35 : decode b_Mo_take 35 = .ok (.getfield 17, 3) := by decide +kernel
theorem d_Mo_take_38 : decode b_Mo_take 38 = .ok (.iload_n 3, 1) := by decide +kernel
theorem d_Mo_take_39 : decode b_Mo_take 39 = .ok (.iaload, 1) := by decide +kernel
theorem d_Mo_take_40 : decode b_Mo_take 40 = .ok (.istore 4, 2) := by decide +kernel
theorem d_Mo_take_42 : decode b_Mo_take 42 = .ok (.aload_n 0, 1) := by decide +kernel
theorem d_Mo_take_43 : decode b_Mo_take 43 = .ok (.dup, 1) := by decide +kernel
theorem d_Mo_take_44 : decode b_Mo_take 44 = .ok (.getfield 30, 3) := by decide +kernel
theorem d_Mo_take_47 : decode b_Mo_take 47 = .ok (.iconst 1, 1) := by decide +kernel
theorem d_Mo_take_48 : decode b_Mo_take 48 = .ok (.isub, 1) := by decide +kernel
theorem d_Mo_take_49 : decode b_Mo_take 49 = .ok (.putfield 30, 3) := by decide +kernel
theorem d_Mo_take_52 : decode b_Mo_take 52 = .ok (.aload_n 0, 1) := by decide +kernel
theorem d_Mo_take_53 : decode b_Mo_take 53 = .ok (.getfield 13, 3) := by decide +kernel
theorem d_Mo_take_56 : decode b_Mo_take 56 = .ok (.iload_n 3, 1) := by decide +kernel
theorem d_Mo_take_57 : decode b_Mo_take 57 = .ok (.aload_n 0, 1) := by decide +kernel
theorem d_Mo_take_58 : decode b_Mo_take 58 = .ok (.getfield 13, 3) := by decide +kernel
theorem d_Mo_take_61 : decode b_Mo_take 61 = .ok (.aload_n 0, 1) := by decide +kernel
theorem d_Mo_take_62 : decode b_Mo_take 62 = .ok (.getfield 30, 3) := by decide +kernel
theorem d_Mo_take_65 : decode b_Mo_take 65 = .ok (.iaload, 1) := by decide +kernel
theorem d_Mo_take_66 : decode b_Mo_take 66 = .ok (.iastore, 1) := by decide +kernel
theorem d_Mo_take_67 : decode b_Mo_take 67 = .ok (.aload_n 0, 1) := by decide +kernel
theorem d_Mo_take_68 : decode b_Mo_take 68 = .ok (.getfield 17, 3) := by decide +kernel
theorem d_Mo_take_71 : decode b_Mo_take 71 = .ok (.iload_n 3, 1) := by decide +kernel
theorem d_Mo_take_72 : decode b_Mo_take 72 = .ok (.aload_n 0, 1) := by decide +kernel
theorem d_Mo_take_73 : decode b_Mo_take 73 = .ok (.getfield 17, 3) := by decide +kernel
theorem d_Mo_take_76 : decode b_Mo_take 76 = .ok (.aload_n 0, 1) := by decide +kernel
theorem d_Mo_take_77 : decode b_Mo_take 77 = .ok (.getfield 30, 3) := by decide +kernel
theorem d_Mo_take_80 : decode b_Mo_take 80 = .ok (.iaload, 1) := by decide +kernel
theorem d_Mo_take_81 : decode b_Mo_take 81 = .ok (.iastore, 1) := by decide +kernel
theorem d_Mo_take_82 : decode b_Mo_take 82 = .ok (.iload 4, 2) := by decide +kernel
theorem d_Mo_take_84 : decode b_Mo_take 84 = .ok (.ireturn, 1) := by decide +kernel
theorem d_Mo_at_0 : decode b_Mo_at 0 = .ok (.aload_n 0, 1) := by decide +kernel
theorem d_Mo_at_1 : decode b_Mo_at 1 = .ok (.iload_n 1, 1) := by decide +kernel
theorem d_Mo_at_2 : decode b_Mo_at 2 = .ok (.iload_n 2, 1) := by decide +kernel
theorem d_Mo_at_3 : decode b_Mo_at 3 = .ok (.invokevirtual 49, 3) := by decide +kernel
theorem d_Mo_at_6 : decode b_Mo_at 6 = .ok (.ifCond .ne 5, 3) := by decide +kernel
theorem d_Mo_at_9 : decode b_Mo_at 9 = .ok (.iconst (-1), 1) := by decide +kernel
theorem d_Mo_at_10 : decode b_Mo_at 10 = .ok (.ireturn, 1) := by decide +kernel
theorem d_Mo_at_11 : decode b_Mo_at 11 = .ok (.aload_n 0, 1) := by decide +kernel
theorem d_Mo_at_12 : decode b_Mo_at 12 = .ok (.iload_n 1, 1) := by decide +kernel
theorem d_Mo_at_13 : decode b_Mo_at 13 = .ok (.aload_n 0, 1) := by decide +kernel
theorem d_Mo_at_14 : decode b_Mo_at 14 = .ok (.invokevirtual 26, 3) := by decide +kernel
theorem d_Mo_at_17 : decode b_Mo_at 17 = .ok (.imul, 1) := by decide +kernel
theorem d_Mo_at_18 : decode b_Mo_at 18 = .ok (.iload_n 2, 1) := by decide +kernel
theorem d_Mo_at_19 : decode b_Mo_at 19 = .ok (.iadd, 1) := by decide +kernel
theorem d_Mo_at_20 : decode b_Mo_at 20 = .ok (.invokevirtual 61, 3) := by decide +kernel
theorem d_Mo_at_23 : decode b_Mo_at 23 = .ok (.istore_n 3, 1) := by decide +kernel
theorem d_Mo_at_24 : decode b_Mo_at 24 = .ok (.iload_n 3, 1) := by decide +kernel
theorem d_Mo_at_25 : decode b_Mo_at 25 = .ok (.aload_n 0, 1) := by decide +kernel
theorem d_Mo_at_26 : decode b_Mo_at 26 = .ok (.getfield 30, 3) := by decide +kernel
theorem d_Mo_at_29 : decode b_Mo_at 29 = .ok (.if_icmp .ge 12, 3) := by decide +kernel
theorem d_Mo_at_32 : decode b_Mo_at 32 = .ok (.aload_n 0, 1) := by decide +kernel
theorem d_Mo_at_33 : decode b_Mo_at 33 = .ok (.getfield 17, 3) := by decide +kernel
theorem d_Mo_at_36 : decode b_Mo_at 36 = .ok (.iload_n 3, 1) := by decide +kernel
theorem d_Mo_at_37 : decode b_Mo_at 37 = .ok (.iaload, 1) := by decide +kernel
theorem d_Mo_at_38 : decode b_Mo_at 38 = .ok (.goto 4, 3) := by decide +kernel
theorem d_Mo_at_41 : decode b_Mo_at 41 = .ok (.iconst 0, 1) := by decide +kernel
theorem d_Mo_at_42 : decode b_Mo_at 42 = .ok (.ireturn, 1) := by decide +kernel
theorem d_Mo_many_0 : decode b_Mo_many 0 = .ok (.aload_n 0, 1) := by decide +kernel
theorem d_Mo_many_1 : decode b_Mo_many 1 = .ok (.getfield 30, 3) := by decide +kernel
theorem d_Mo_many_4 : decode b_Mo_many 4 = .ok (.ireturn, 1) := by decide +kernel
theorem d_Mo_window_0 : decode b_Mo_window 0 = .ok (.aload_n 0, 1) := by decide +kernel
theorem d_Mo_window_1 : decode b_Mo_window 1 = .ok (.iload_n 1, 1) := by decide +kernel
theorem d_Mo_window_2 : decode b_Mo_window 2 = .ok (.iload_n 2, 1) := by decide +kernel
theorem d_Mo_window_3 : decode b_Mo_window 3 = .ok (.invokevirtual 49, 3) := by decide +kernel
theorem d_Mo_window_6 : decode b_Mo_window 6 = .ok (.ifCond .eq 24, 3) := by decide +kernel
theorem d_Mo_window_9 : decode b_Mo_window 9 = .ok (.aload_n 0, 1) := by decide +kernel
theorem d_Mo_window_10 : decode b_Mo_window 10 = .ok (.iload_n 3, 1) := by decide +kernel
theorem d_Mo_window_11 : decode b_Mo_window 11 = .ok (.iload 4, 2) := by decide +kernel
theorem d_Mo_window_13 : decode b_Mo_window 13 = .ok (.invokevirtual 49, 3) := by decide +kernel
theorem d_Mo_window_16 : decode b_Mo_window 16 = .ok (.ifCond .eq 14, 3) := by decide +kernel
theorem d_Mo_window_19 : decode b_Mo_window 19 = .ok (.iload_n 3, 1) := by decide +kernel
theorem d_Mo_window_20 : decode b_Mo_window 20 = .ok (.iload_n 1, 1) := by decide +kernel
theorem d_Mo_window_21 : decode b_Mo_window 21 = .ok (.if_icmp .lt 9, 3) := by decide +kernel
theorem d_Mo_window_24 : decode b_Mo_window 24 = .ok (.iload 4, 2) := by decide +kernel
theorem d_Mo_window_26 : decode b_Mo_window 26 = .ok (.iload_n 2, 1) := by decide +kernel
theorem d_Mo_window_27 : decode b_Mo_window 27 = .ok (.if_icmp .ge 5, 3) := by decide +kernel
theorem d_Mo_window_30 : decode b_Mo_window 30 = .ok (.iconst 0, 1) := by decide +kernel
theorem d_Mo_window_31 : decode b_Mo_window 31 = .ok (.ireturn, 1) := by decide +kernel
theorem d_Mo_window_32 : decode b_Mo_window 32 = .ok (.aload_n 0, 1) := by decide +kernel
theorem d_Mo_window_33 : decode b_Mo_window 33 = .ok (.iload_n 1, 1) := by decide +kernel
theorem d_Mo_window_34 : decode b_Mo_window 34 = .ok (.putfield 33, 3) := by decide +kernel
theorem d_Mo_window_37 : decode b_Mo_window 37 = .ok (.aload_n 0, 1) := by decide +kernel
theorem d_Mo_window_38 : decode b_Mo_window 38 = .ok (.iload_n 2, 1) := by decide +kernel
theorem d_Mo_window_39 : decode b_Mo_window 39 = .ok (.putfield 36, 3) := by decide +kernel
theorem d_Mo_window_42 : decode b_Mo_window 42 = .ok (.aload_n 0, 1) := by decide +kernel
theorem d_Mo_window_43 : decode b_Mo_window 43 = .ok (.iload_n 3, 1) := by decide +kernel
theorem d_Mo_window_44 : decode b_Mo_window 44 = .ok (.putfield 39, 3) := by decide +kernel
theorem d_Mo_window_47 : decode b_Mo_window 47 = .ok (.aload_n 0, 1) := by decide +kernel
theorem d_Mo_window_48 : decode b_Mo_window 48 = .ok (.iload 4, 2) := by decide +kernel
theorem d_Mo_window_50 : decode b_Mo_window 50 = .ok (.putfield 42, 3) := by decide +kernel
theorem d_Mo_window_53 : decode b_Mo_window 53 = .ok (.iconst 1, 1) := by decide +kernel
theorem d_Mo_window_54 : decode b_Mo_window 54 = .ok (.ireturn, 1) := by decide +kernel
theorem d_Mo_isInside_0 : decode b_Mo_isInside 0 = .ok (.aload_n 0, 1) := by decide +kernel
theorem d_Mo_isInside_1 : decode b_Mo_isInside 1 = .ok (.getfield 13, 3) := by decide +kernel
theorem d_Mo_isInside_4 : decode b_Mo_isInside 4 = .ok (.iload_n 1, 1) := by decide +kernel
theorem d_Mo_isInside_5 : decode b_Mo_isInside 5 = .ok (.iaload, 1) := by decide +kernel
theorem d_Mo_isInside_6 : decode b_Mo_isInside 6 = .ok (.aload_n 0, 1) := by decide +kernel
theorem d_Mo_isInside_7 : decode b_Mo_isInside 7 = .ok (.invokevirtual 26, 3) := by decide +kernel
theorem d_Mo_isInside_10 : decode b_Mo_isInside 10 = .ok (.idiv, 1) := by decide +kernel
theorem d_Mo_isInside_11 : decode b_Mo_isInside 11 = .ok (.istore_n 2, 1) := by decide +kernel
theorem d_Mo_isInside_12 : decode b_Mo_isInside 12 = .ok (.aload_n 0, 1) := by decide +kernel
theorem d_Mo_isInside_13 : decode b_Mo_isInside 13 = .ok (.getfield 13, 3) := by decide +kernel
theorem d_Mo_isInside_16 : decode b_Mo_isInside 16 = .ok (.iload_n 1, 1) := by decide +kernel
theorem d_Mo_isInside_17 : decode b_Mo_isInside 17 = .ok (.iaload, 1) := by decide +kernel
theorem d_Mo_isInside_18 : decode b_Mo_isInside 18 = .ok (.aload_n 0, 1) := by decide +kernel
theorem d_Mo_isInside_19 : decode b_Mo_isInside 19 = .ok (.invokevirtual 26, 3) := by decide +kernel
theorem d_Mo_isInside_22 : decode b_Mo_isInside 22 = .ok (.irem, 1) := by decide +kernel
theorem d_Mo_isInside_23 : decode b_Mo_isInside 23 = .ok (.istore_n 3, 1) := by decide +kernel
theorem d_Mo_isInside_24 : decode b_Mo_isInside 24 = .ok (.iload_n 2, 1) := by decide +kernel
theorem d_Mo_isInside_25 : decode b_Mo_isInside 25 = .ok (.aload_n 0, 1) := by decide +kernel
theorem d_Mo_isInside_26 : decode b_Mo_isInside 26 = .ok (.getfield 33, 3) := by decide +kernel
theorem d_Mo_isInside_29 : decode b_Mo_isInside 29 = .ok (.if_icmp .lt 31, 3) := by decide +kernel
theorem d_Mo_isInside_32 : decode b_Mo_isInside 32 = .ok (.iload_n 2, 1) := by decide +kernel
theorem d_Mo_isInside_33 : decode b_Mo_isInside 33 = .ok (.aload_n 0, 1) := by decide +kernel
theorem d_Mo_isInside_34 : decode b_Mo_isInside 34 = .ok (.getfield 39, 3) := by decide +kernel
theorem d_Mo_isInside_37 : decode b_Mo_isInside 37 = .ok (.if_icmp .gt 23, 3) := by decide +kernel
theorem d_Mo_isInside_40 : decode b_Mo_isInside 40 = .ok (.iload_n 3, 1) := by decide +kernel
theorem d_Mo_isInside_41 : decode b_Mo_isInside 41 = .ok (.aload_n 0, 1) := by decide +kernel
theorem d_Mo_isInside_42 : decode b_Mo_isInside 42 = .ok (.getfield 36, 3) := by decide +kernel
theorem d_Mo_isInside_45 : decode b_Mo_isInside 45 = .ok (.if_icmp .lt 15, 3) := by decide +kernel
theorem d_Mo_isInside_48 : decode b_Mo_isInside 48 = .ok (.iload_n 3, 1) := by decide +kernel
theorem d_Mo_isInside_49 : decode b_Mo_isInside 49 = .ok (.aload_n 0, 1) := by decide +kernel
theorem d_Mo_isInside_50 : decode b_Mo_isInside 50 = .ok (.getfield 42, 3) := by decide +kernel
theorem d_Mo_isInside_53 : decode b_Mo_isInside 53 = .ok (.if_icmp .gt 7, 3) := by decide +kernel
theorem d_Mo_isInside_56 : decode b_Mo_isInside 56 = .ok (.iconst 1, 1) := by decide +kernel
theorem d_Mo_isInside_57 : decode b_Mo_isInside 57 = .ok (.goto 4, 3) := by decide +kernel
theorem d_Mo_isInside_60 : decode b_Mo_isInside 60 = .ok (.iconst 0, 1) := by decide +kernel
theorem d_Mo_isInside_61 : decode b_Mo_isInside 61 = .ok (.ireturn, 1) := by decide +kernel
theorem d_Mo_inside_0 : decode b_Mo_inside 0 = .ok (.iconst 0, 1) := by decide +kernel
theorem d_Mo_inside_1 : decode b_Mo_inside 1 = .ok (.istore_n 1, 1) := by decide +kernel
theorem d_Mo_inside_2 : decode b_Mo_inside 2 = .ok (.iconst 0, 1) := by decide +kernel
theorem d_Mo_inside_3 : decode b_Mo_inside 3 = .ok (.istore_n 2, 1) := by decide +kernel
theorem d_Mo_inside_4 : decode b_Mo_inside 4 = .ok (.iload_n 2, 1) := by decide +kernel
theorem d_Mo_inside_5 : decode b_Mo_inside 5 = .ok (.aload_n 0, 1) := by decide +kernel
theorem d_Mo_inside_6 : decode b_Mo_inside 6 = .ok (.getfield 30, 3) := by decide +kernel
theorem d_Mo_inside_9 : decode b_Mo_inside 9 = .ok (.if_icmp .ge 25, 3) := by decide +kernel
theorem d_Mo_inside_12 : decode b_Mo_inside 12 = .ok (.aload_n 0, 1) := by decide +kernel
theorem d_Mo_inside_13 : decode b_Mo_inside 13 = .ok (.iload_n 2, 1) := by decide +kernel
theorem d_Mo_inside_14 : decode b_Mo_inside 14 = .ok (.invokevirtual 65, 3) := by decide +kernel
theorem d_Mo_inside_17 : decode b_Mo_inside 17 = .ok (.ifCond .eq 9, 3) := by decide +kernel
theorem d_Mo_inside_20 : decode b_Mo_inside 20 = .ok (.iload_n 1, 1) := by decide +kernel
theorem d_Mo_inside_21 : decode b_Mo_inside 21 = .ok (.iconst 1, 1) := by decide +kernel
theorem d_Mo_inside_22 : decode b_Mo_inside 22 = .ok (.iadd, 1) := by decide +kernel
theorem d_Mo_inside_23 : decode b_Mo_inside 23 = .ok (.goto 4, 3) := by decide +kernel
theorem d_Mo_inside_26 : decode b_Mo_inside 26 = .ok (.iload_n 1, 1) := by decide +kernel
theorem d_Mo_inside_27 : decode b_Mo_inside 27 = .ok (.istore_n 1, 1) := by decide +kernel
theorem d_Mo_inside_28 : decode b_Mo_inside 28 = .ok (.iinc 2 1, 3) := by decide +kernel
theorem d_Mo_inside_31 : decode b_Mo_inside 31 = .ok (.goto (-27), 3) := by decide +kernel
theorem d_Mo_inside_34 : decode b_Mo_inside 34 = .ok (.iload_n 1, 1) := by decide +kernel
theorem d_Mo_inside_35 : decode b_Mo_inside 35 = .ok (.ireturn, 1) := by decide +kernel
theorem d_Mo_sum_0 : decode b_Mo_sum 0 = .ok (.iconst 0, 1) := by decide +kernel
theorem d_Mo_sum_1 : decode b_Mo_sum 1 = .ok (.istore_n 1, 1) := by decide +kernel
theorem d_Mo_sum_2 : decode b_Mo_sum 2 = .ok (.iconst 0, 1) := by decide +kernel
theorem d_Mo_sum_3 : decode b_Mo_sum 3 = .ok (.istore_n 2, 1) := by decide +kernel
theorem d_Mo_sum_4 : decode b_Mo_sum 4 = .ok (.iload_n 2, 1) := by decide +kernel
theorem d_Mo_sum_5 : decode b_Mo_sum 5 = .ok (.aload_n 0, 1) := by decide +kernel
theorem d_Mo_sum_6 : decode b_Mo_sum 6 = .ok (.getfield 30, 3) := by decide +kernel
theorem d_Mo_sum_9 : decode b_Mo_sum 9 = .ok (.if_icmp .ge 30, 3) := by decide +kernel
theorem d_Mo_sum_12 : decode b_Mo_sum 12 = .ok (.aload_n 0, 1) := by decide +kernel
theorem d_Mo_sum_13 : decode b_Mo_sum 13 = .ok (.iload_n 2, 1) := by decide +kernel
theorem d_Mo_sum_14 : decode b_Mo_sum 14 = .ok (.invokevirtual 65, 3) := by decide +kernel
theorem d_Mo_sum_17 : decode b_Mo_sum 17 = .ok (.ifCond .eq 14, 3) := by decide +kernel
theorem d_Mo_sum_20 : decode b_Mo_sum 20 = .ok (.iload_n 1, 1) := by decide +kernel
theorem d_Mo_sum_21 : decode b_Mo_sum 21 = .ok (.aload_n 0, 1) := by decide +kernel
theorem d_Mo_sum_22 : decode b_Mo_sum 22 = .ok (.getfield 17, 3) := by decide +kernel
theorem d_Mo_sum_25 : decode b_Mo_sum 25 = .ok (.iload_n 2, 1) := by decide +kernel
theorem d_Mo_sum_26 : decode b_Mo_sum 26 = .ok (.iaload, 1) := by decide +kernel
theorem d_Mo_sum_27 : decode b_Mo_sum 27 = .ok (.iadd, 1) := by decide +kernel
theorem d_Mo_sum_28 : decode b_Mo_sum 28 = .ok (.goto 4, 3) := by decide +kernel
theorem d_Mo_sum_31 : decode b_Mo_sum 31 = .ok (.iload_n 1, 1) := by decide +kernel
theorem d_Mo_sum_32 : decode b_Mo_sum 32 = .ok (.istore_n 1, 1) := by decide +kernel
theorem d_Mo_sum_33 : decode b_Mo_sum 33 = .ok (.iinc 2 1, 3) := by decide +kernel
theorem d_Mo_sum_36 : decode b_Mo_sum 36 = .ok (.goto (-32), 3) := by decide +kernel
theorem d_Mo_sum_39 : decode b_Mo_sum 39 = .ok (.iload_n 1, 1) := by decide +kernel
theorem d_Mo_sum_40 : decode b_Mo_sum 40 = .ok (.ireturn, 1) := by decide +kernel
theorem d_Mo_keyAt_0 : decode b_Mo_keyAt 0 = .ok (.aload_n 0, 1) := by decide +kernel
theorem d_Mo_keyAt_1 : decode b_Mo_keyAt 1 = .ok (.iload_n 1, 1) := by decide +kernel
theorem d_Mo_keyAt_2 : decode b_Mo_keyAt 2 = .ok (.aload_n 0, 1) := by decide +kernel
theorem d_Mo_keyAt_3 : decode b_Mo_keyAt 3 = .ok (.getfield 13, 3) := by decide +kernel
theorem d_Mo_keyAt_6 : decode b_Mo_keyAt 6 = .ok (.iload_n 2, 1) := by decide +kernel
theorem d_Mo_keyAt_7 : decode b_Mo_keyAt 7 = .ok (.iaload, 1) := by decide +kernel
theorem d_Mo_keyAt_8 : decode b_Mo_keyAt 8 = .ok (.aload_n 0, 1) := by decide +kernel
theorem d_Mo_keyAt_9 : decode b_Mo_keyAt 9 = .ok (.invokevirtual 26, 3) := by decide +kernel
theorem d_Mo_keyAt_12 : decode b_Mo_keyAt 12 = .ok (.idiv, 1) := by decide +kernel
theorem d_Mo_keyAt_13 : decode b_Mo_keyAt 13 = .ok (.aload_n 0, 1) := by decide +kernel
theorem d_Mo_keyAt_14 : decode b_Mo_keyAt 14 = .ok (.getfield 13, 3) := by decide +kernel
theorem d_Mo_keyAt_17 : decode b_Mo_keyAt 17 = .ok (.iload_n 2, 1) := by decide +kernel
theorem d_Mo_keyAt_18 : decode b_Mo_keyAt 18 = .ok (.iaload, 1) := by decide +kernel
theorem d_Mo_keyAt_19 : decode b_Mo_keyAt 19 = .ok (.aload_n 0, 1) := by decide +kernel
theorem d_Mo_keyAt_20 : decode b_Mo_keyAt 20 = .ok (.invokevirtual 26, 3) := by decide +kernel
theorem d_Mo_keyAt_23 : decode b_Mo_keyAt 23 = .ok (.irem, 1) := by decide +kernel
theorem d_Mo_keyAt_24 : decode b_Mo_keyAt 24 = .ok (.invokevirtual 53, 3) := by decide +kernel
theorem d_Mo_keyAt_27 : decode b_Mo_keyAt 27 = .ok (.ireturn, 1) := by decide +kernel
theorem d_Mo_nth_0 : decode b_Mo_nth 0 = .ok (.iload_n 1, 1) := by decide +kernel
theorem d_Mo_nth_1 : decode b_Mo_nth 1 = .ok (.invokestatic 45, 3) := by decide +kernel
theorem d_Mo_nth_4 : decode b_Mo_nth 4 = .ok (.ifCond .eq 7, 3) := by decide +kernel
theorem d_Mo_nth_7 : decode b_Mo_nth 7 = .ok (.iload_n 2, 1) := by decide +kernel
theorem d_Mo_nth_8 : decode b_Mo_nth 8 = .ok (.ifCond .ge 5, 3) := by decide +kernel
theorem d_Mo_nth_11 : decode b_Mo_nth 11 = .ok (.iconst (-1), 1) := by decide +kernel
theorem d_Mo_nth_12 : decode b_Mo_nth 12 = .ok (.ireturn, 1) := by decide +kernel
theorem d_Mo_nth_13 : decode b_Mo_nth 13 = .ok (.iconst 0, 1) := by decide +kernel
theorem d_Mo_nth_14 : decode b_Mo_nth 14 = .ok (.istore_n 3, 1) := by decide +kernel
theorem d_Mo_nth_15 : decode b_Mo_nth 15 = .ok (.iload_n 3, 1) := by decide +kernel
theorem d_Mo_nth_16 : decode b_Mo_nth 16 = .ok (.aload_n 0, 1) := by decide +kernel
theorem d_Mo_nth_17 : decode b_Mo_nth 17 = .ok (.getfield 30, 3) := by decide +kernel
theorem d_Mo_nth_20 : decode b_Mo_nth 20 = .ok (.if_icmp .ge 91, 3) := by decide +kernel
theorem d_Mo_nth_23 : decode b_Mo_nth 23 = .ok (.aload_n 0, 1) := by decide +kernel
theorem d_Mo_nth_24 : decode b_Mo_nth 24 = .ok (.iload_n 3, 1) := by decide +kernel
theorem d_Mo_nth_25 : decode b_Mo_nth 25 = .ok (.invokevirtual 65, 3) := by decide +kernel
theorem d_Mo_nth_28 : decode b_Mo_nth 28 = .ok (.ifCond .eq 77, 3) := by decide +kernel
theorem d_Mo_nth_31 : decode b_Mo_nth 31 = .ok (.iconst 0, 1) := by decide +kernel
theorem d_Mo_nth_32 : decode b_Mo_nth 32 = .ok (.istore 4, 2) := by decide +kernel
theorem d_Mo_nth_34 : decode b_Mo_nth 34 = .ok (.aload_n 0, 1) := by decide +kernel
theorem d_Mo_nth_35 : decode b_Mo_nth 35 = .ok (.iload_n 1, 1) := by decide +kernel
theorem d_Mo_nth_36 : decode b_Mo_nth 36 = .ok (.iload_n 3, 1) := by decide +kernel
theorem d_Mo_nth_37 : decode b_Mo_nth 37 = .ok (.invokevirtual 68, 3) := by decide +kernel
theorem d_Mo_nth_40 : decode b_Mo_nth 40 = .ok (.istore 5, 2) := by decide +kernel
theorem d_Mo_nth_42 : decode b_Mo_nth 42 = .ok (.iconst 0, 1) := by decide +kernel
theorem d_Mo_nth_43 : decode b_Mo_nth 43 = .ok (.istore 6, 2) := by decide +kernel
theorem d_Mo_nth_45 : decode b_Mo_nth 45 = .ok (.iload 6, 2) := by decide +kernel
theorem d_Mo_nth_47 : decode b_Mo_nth 47 = .ok (.aload_n 0, 1) := by decide +kernel
theorem d_Mo_nth_48 : decode b_Mo_nth 48 = .ok (.getfield 30, 3) := by decide +kernel
theorem d_Mo_nth_51 : decode b_Mo_nth 51 = .ok (.if_icmp .ge 41, 3) := by decide +kernel
theorem d_Mo_nth_54 : decode b_Mo_nth 54 = .ok (.aload_n 0, 1) := by decide +kernel
theorem d_Mo_nth_55 : decode b_Mo_nth 55 = .ok (.iload 6, 2) := by decide +kernel
theorem d_Mo_nth_57 : decode b_Mo_nth 57 = .ok (.invokevirtual 65, 3) := by decide +kernel
theorem d_Mo_nth_60 : decode b_Mo_nth 60 = .ok (.ifCond .eq 22, 3) := by decide +kernel
theorem d_Mo_nth_63 : decode b_Mo_nth 63 = .ok (.aload_n 0, 1) := by decide +kernel
theorem d_Mo_nth_64 : decode b_Mo_nth 64 = .ok (.iload_n 1, 1) := by decide +kernel
theorem d_Mo_nth_65 : decode b_Mo_nth 65 = .ok (.iload 6, 2) := by decide +kernel
theorem d_Mo_nth_67 : decode b_Mo_nth 67 = .ok (.invokevirtual 68, 3) := by decide +kernel
theorem d_Mo_nth_70 : decode b_Mo_nth 70 = .ok (.iload 5, 2) := by decide +kernel
theorem d_Mo_nth_72 : decode b_Mo_nth 72 = .ok (.if_icmp .ge 10, 3) := by decide +kernel
theorem d_Mo_nth_75 : decode b_Mo_nth 75 = .ok (.iload 4, 2) := by decide +kernel
theorem d_Mo_nth_77 : decode b_Mo_nth 77 = .ok (.iconst 1, 1) := by decide +kernel
theorem d_Mo_nth_78 : decode b_Mo_nth 78 = .ok (.iadd, 1) := by decide +kernel
theorem d_Mo_nth_79 : decode b_Mo_nth 79 = .ok (.goto 5, 3) := by decide +kernel
theorem d_Mo_nth_82 : decode b_Mo_nth 82 = .ok (.iload 4, 2) := by decide +kernel
theorem d_Mo_nth_84 : decode b_Mo_nth 84 = .ok (.istore 4, 2) := by decide +kernel
theorem d_Mo_nth_86 : decode b_Mo_nth 86 = .ok (.iinc 6 1, 3) := by decide +kernel
theorem d_Mo_nth_89 : decode b_Mo_nth 89 = .ok (.goto (-44), 3) := by decide +kernel
theorem d_Mo_nth_92 : decode b_Mo_nth 92 = .ok (.iload 4, 2) := by decide +kernel
theorem d_Mo_nth_94 : decode b_Mo_nth 94 = .ok (.iload_n 2, 1) := by decide +kernel
theorem d_Mo_nth_95 : decode b_Mo_nth 95 = .ok (.if_icmp .ne 10, 3) := by decide +kernel
theorem d_Mo_nth_98 : decode b_Mo_nth 98 = .ok (.aload_n 0, 1) := by decide +kernel
theorem d_Mo_nth_99 : decode b_Mo_nth 99 = .ok (.getfield 13, 3) := by decide +kernel
theorem d_Mo_nth_102 : decode b_Mo_nth 102 = .ok (.iload_n 3, 1) := by decide +kernel
theorem d_Mo_nth_103 : decode b_Mo_nth 103 = .ok (.iaload, 1) := by decide +kernel
theorem d_Mo_nth_104 : decode b_Mo_nth 104 = .ok (.ireturn, 1) := by decide +kernel
theorem d_Mo_nth_105 : decode b_Mo_nth 105 = .ok (.iinc 3 1, 3) := by decide +kernel
theorem d_Mo_nth_108 : decode b_Mo_nth 108 = .ok (.goto (-93), 3) := by decide +kernel
theorem d_Mo_nth_111 : decode b_Mo_nth 111 = .ok (.iconst (-1), 1) := by decide +kernel
theorem d_Mo_nth_112 : decode b_Mo_nth 112 = .ok (.ireturn, 1) := by decide +kernel
theorem d_Mo_sort_0 : decode b_Mo_sort 0 = .ok (.aload_n 0, 1) := by decide +kernel
theorem d_Mo_sort_1 : decode b_Mo_sort 1 = .ok (.getfield 39, 3) := by decide +kernel
theorem d_Mo_sort_4 : decode b_Mo_sort 4 = .ok (.aload_n 0, 1) := by decide +kernel
theorem d_Mo_sort_5 : decode b_Mo_sort 5 = .ok (.getfield 33, 3) := by decide +kernel
theorem d_Mo_sort_8 : decode b_Mo_sort 8 = .ok (.isub, 1) := by decide +kernel
theorem d_Mo_sort_9 : decode b_Mo_sort 9 = .ok (.iconst 1, 1) := by decide +kernel
theorem d_Mo_sort_10 : decode b_Mo_sort 10 = .ok (.iadd, 1) := by decide +kernel
theorem d_Mo_sort_11 : decode b_Mo_sort 11 = .ok (.i2l, 1) := by decide +kernel
theorem d_Mo_sort_12 : decode b_Mo_sort 12 = .ok (.aload_n 0, 1) := by decide +kernel
theorem d_Mo_sort_13 : decode b_Mo_sort 13 = .ok (.getfield 42, 3) := by decide +kernel
theorem d_Mo_sort_16 : decode b_Mo_sort 16 = .ok (.aload_n 0, 1) := by decide +kernel
theorem d_Mo_sort_17 : decode b_Mo_sort 17 = .ok (.getfield 36, 3) := by decide +kernel
theorem d_Mo_sort_20 : decode b_Mo_sort 20 = .ok (.isub, 1) := by decide +kernel
theorem d_Mo_sort_21 : decode b_Mo_sort 21 = .ok (.iconst 1, 1) := by decide +kernel
theorem d_Mo_sort_22 : decode b_Mo_sort 22 = .ok (.iadd, 1) := by decide +kernel
theorem d_Mo_sort_23 : decode b_Mo_sort 23 = .ok (.i2l, 1) := by decide +kernel
theorem d_Mo_sort_24 : decode b_Mo_sort 24 = .ok (.lmul, 1) := by decide +kernel
theorem d_Mo_sort_25 : decode b_Mo_sort 25 = .ok (.lstore_n 2, 1) := by decide +kernel
theorem d_Mo_sort_26 : decode b_Mo_sort 26 = .ok (.iload_n 1, 1) := by decide +kernel
theorem d_Mo_sort_27 : decode b_Mo_sort 27 = .ok (.invokestatic 45, 3) := by decide +kernel
theorem d_Mo_sort_30 : decode b_Mo_sort 30 = .ok (.ifCond .eq 11, 3) := by decide +kernel
theorem d_Mo_sort_33 : decode b_Mo_sort 33 = .ok (.lload_n 2, 1) := by decide +kernel
theorem d_Mo_sort_34 : decode b_Mo_sort 34 = .ok (.ldc2_w 71, 3) := by decide +kernel
theorem d_Mo_sort_37 : decode b_Mo_sort 37 = .ok (.lcmp, 1) := by decide +kernel
theorem d_Mo_sort_38 : decode b_Mo_sort 38 = .ok (.ifCond .le 5, 3) := by decide +kernel
theorem d_Mo_sort_41 : decode b_Mo_sort 41 = .ok (.iconst (-1), 1) := by decide +kernel
theorem d_Mo_sort_42 : decode b_Mo_sort 42 = .ok (.ireturn, 1) := by decide +kernel
theorem d_Mo_sort_43 : decode b_Mo_sort 43 = .ok (.iconst 0, 1) := by decide +kernel
theorem d_Mo_sort_44 : decode b_Mo_sort 44 = .ok (.istore 4, 2) := by decide +kernel
theorem d_Mo_sort_46 : decode b_Mo_sort 46 = .ok (.aload_n 0, 1) := by decide +kernel
theorem d_Mo_sort_47 : decode b_Mo_sort 47 = .ok (.getfield 33, 3) := by decide +kernel
theorem d_Mo_sort_50 : decode b_Mo_sort 50 = .ok (.istore 5, 2) := by decide +kernel
theorem d_Mo_sort_52 : decode b_Mo_sort 52 = .ok (.iload 5, 2) := by decide +kernel
theorem d_Mo_sort_54 : decode b_Mo_sort 54 = .ok (.aload_n 0, 1) := by decide +kernel
theorem d_Mo_sort_55 : decode b_Mo_sort 55 = .ok (.getfield 39, 3) := by decide +kernel
theorem d_Mo_sort_58 : decode b_Mo_sort 58 = .ok (.if_icmp .gt 49, 3) := by decide +kernel
theorem d_Mo_sort_61 : decode b_Mo_sort 61 = .ok (.aload_n 0, 1) := by decide +kernel
theorem d_Mo_sort_62 : decode b_Mo_sort 62 = .ok (.getfield 36, 3) := by decide +kernel
theorem d_Mo_sort_65 : decode b_Mo_sort 65 = .ok (.istore 6, 2) := by decide +kernel
theorem d_Mo_sort_67 : decode b_Mo_sort 67 = .ok (.iload 6, 2) := by decide +kernel
theorem d_Mo_sort_69 : decode b_Mo_sort 69 = .ok (.aload_n 0, 1) := by decide +kernel
theorem d_Mo_sort_70 : decode b_Mo_sort 70 = .ok (.getfield 42, 3) := by decide +kernel
theorem d_Mo_sort_73 : decode b_Mo_sort 73 = .ok (.if_icmp .gt 28, 3) := by decide +kernel
theorem d_Mo_sort_76 : decode b_Mo_sort 76 = .ok (.aload_n 0, 1) := by decide +kernel
theorem d_Mo_sort_77 : decode b_Mo_sort 77 = .ok (.getfield 20, 3) := by decide +kernel
theorem d_Mo_sort_80 : decode b_Mo_sort 80 = .ok (.iload 4, 2) := by decide +kernel
theorem d_Mo_sort_82 : decode b_Mo_sort 82 = .ok (.aload_n 0, 1) := by decide +kernel
theorem d_Mo_sort_83 : decode b_Mo_sort 83 = .ok (.iload_n 1, 1) := by decide +kernel
theorem d_Mo_sort_84 : decode b_Mo_sort 84 = .ok (.iload 5, 2) := by decide +kernel
theorem d_Mo_sort_86 : decode b_Mo_sort 86 = .ok (.iload 6, 2) := by decide +kernel
theorem d_Mo_sort_88 : decode b_Mo_sort 88 = .ok (.invokevirtual 53, 3) := by decide +kernel
theorem d_Mo_sort_91 : decode b_Mo_sort 91 = .ok (.iastore, 1) := by decide +kernel
theorem d_Mo_sort_92 : decode b_Mo_sort 92 = .ok (.iinc 4 1, 3) := by decide +kernel
theorem d_Mo_sort_95 : decode b_Mo_sort 95 = .ok (.iinc 6 1, 3) := by decide +kernel
theorem d_Mo_sort_98 : decode b_Mo_sort 98 = .ok (.goto (-31), 3) := by decide +kernel
theorem d_Mo_sort_101 : decode b_Mo_sort 101 = .ok (.iinc 5 1, 3) := by decide +kernel
theorem d_Mo_sort_104 : decode b_Mo_sort 104 = .ok (.goto (-52), 3) := by decide +kernel
theorem d_Mo_sort_107 : decode b_Mo_sort 107 = .ok (.iconst 1, 1) := by decide +kernel
theorem d_Mo_sort_108 : decode b_Mo_sort 108 = .ok (.istore 5, 2) := by decide +kernel
theorem d_Mo_sort_110 : decode b_Mo_sort 110 = .ok (.iload 5, 2) := by decide +kernel
theorem d_Mo_sort_112 : decode b_Mo_sort 112 = .ok (.iload 4, 2) := by decide +kernel
theorem d_Mo_sort_114 : decode b_Mo_sort 114 = .ok (.if_icmp .ge 236, 3) := by decide +kernel
theorem d_Mo_sort_117 : decode b_Mo_sort 117 = .ok (.iconst 0, 1) := by decide +kernel
theorem d_Mo_sort_118 : decode b_Mo_sort 118 = .ok (.istore 6, 2) := by decide +kernel
theorem d_Mo_sort_120 : decode b_Mo_sort 120 = .ok (.iload 6, 2) := by decide +kernel
theorem d_Mo_sort_122 : decode b_Mo_sort 122 = .ok (.iload 4, 2) := by decide +kernel
theorem d_Mo_sort_124 : decode b_Mo_sort 124 = .ok (.if_icmp .ge 187, 3) := by decide +kernel
theorem d_Mo_sort_127 : decode b_Mo_sort 127 = .ok (.iload 6, 2) := by decide +kernel
theorem d_Mo_sort_129 : decode b_Mo_sort 129 = .ok (.istore 7, 2) := by decide +kernel
theorem d_Mo_sort_131 : decode b_Mo_sort 131 = .ok (.iload 6, 2) := by decide +kernel
theorem d_Mo_sort_133 : decode b_Mo_sort 133 = .ok (.iload 5, 2) := by decide +kernel
theorem d_Mo_sort_135 : decode b_Mo_sort 135 = .ok (.iadd, 1) := by decide +kernel
theorem d_Mo_sort_136 : decode b_Mo_sort 136 = .ok (.iload 4, 2) := by decide +kernel
theorem d_Mo_sort_138 : decode b_Mo_sort 138 = .ok (.if_icmp .ge 11, 3) := by decide +kernel
theorem d_Mo_sort_141 : decode b_Mo_sort 141 = .ok (.iload 6, 2) := by decide +kernel
theorem d_Mo_sort_143 : decode b_Mo_sort 143 = .ok (.iload 5, 2) := by decide +kernel
theorem d_Mo_sort_145 : decode b_Mo_sort 145 = .ok (.iadd, 1) := by decide +kernel
theorem d_Mo_sort_146 : decode b_Mo_sort 146 = .ok (.goto 5, 3) := by decide +kernel
theorem d_Mo_sort_149 : decode b_Mo_sort 149 = .ok (.iload 4, 2) := by decide +kernel
theorem d_Mo_sort_151 : decode b_Mo_sort 151 = .ok (.istore 8, 2) := by decide +kernel
theorem d_Mo_sort_153 : decode b_Mo_sort 153 = .ok (.iload 8, 2) := by decide +kernel
theorem d_Mo_sort_155 : decode b_Mo_sort 155 = .ok (.istore 9, 2) := by decide +kernel
theorem d_Mo_sort_157 : decode b_Mo_sort 157 = .ok (.iload 6, 2) := by decide +kernel
theorem d_Mo_sort_159 : decode b_Mo_sort 159 = .ok (.iconst 2, 1) := by decide +kernel
theorem d_Mo_sort_160 : decode b_Mo_sort 160 = .ok (.iload 5, 2) := by decide +kernel
theorem d_Mo_sort_162 : decode b_Mo_sort 162 = .ok (.imul, 1) := by decide +kernel
theorem d_Mo_sort_163 : decode b_Mo_sort 163 = .ok (.iadd, 1) := by decide +kernel
theorem d_Mo_sort_164 : decode b_Mo_sort 164 = .ok (.iload 4, 2) := by decide +kernel
theorem d_Mo_sort_166 : decode b_Mo_sort 166 = .ok (.if_icmp .ge 13, 3) := by decide +kernel
theorem d_Mo_sort_169 : decode b_Mo_sort 169 = .ok (.iload 6, 2) := by decide +kernel
theorem d_Mo_sort_171 : decode b_Mo_sort 171 = .ok (.iconst 2, 1) := by decide +kernel
end
section
theorem d_Mo_sort_172 : decode b_Mo_sort 172 = .ok (.iload 5, 2) := by decide +kernel
theorem d_Mo_sort_174 : decode b_Mo_sort 174 = .ok (.imul, 1) := by decide +kernel
theorem d_Mo_sort_175 : decode b_Mo_sort 175 = .ok (.iadd, 1) := by decide +kernel
theorem d_Mo_sort_176 : decode b_Mo_sort 176 = .ok (.goto 5, 3) := by decide +kernel
theorem d_Mo_sort_179 : decode b_Mo_sort 179 = .ok (.iload 4, 2) := by decide +kernel
theorem d_Mo_sort_181 : decode b_Mo_sort 181 = .ok (.istore 10, 2) := by decide +kernel
theorem d_Mo_sort_183 : decode b_Mo_sort 183 = .ok (.iload 6, 2) := by decide +kernel
theorem d_Mo_sort_185 : decode b_Mo_sort 185 = .ok (.istore 11, 2) := by decide +kernel
theorem d_Mo_sort_187 : decode b_Mo_sort 187 = .ok (.iload 11, 2) := by decide +kernel
theorem d_Mo_sort_189 : decode b_Mo_sort 189 = .ok (.iload 10, 2) := by decide +kernel
theorem d_Mo_sort_191 : decode b_Mo_sort 191 = .ok (.if_icmp .ge 108, 3) := by decide +kernel
theorem d_Mo_sort_194 : decode b_Mo_sort 194 = .ok (.iload 7, 2) := by decide +kernel
theorem d_Mo_sort_196 : decode b_Mo_sort 196 = .ok (.iload 8, 2) := by decide +kernel
theorem d_Mo_sort_198 : decode b_Mo_sort 198 = .ok (.if_icmp .ge 31, 3) := by decide +kernel
theorem d_Mo_sort_201 : decode b_Mo_sort 201 = .ok (.iload 9, 2) := by decide +kernel
theorem d_Mo_sort_203 : decode b_Mo_sort 203 = .ok (.iload 10, 2) := by decide +kernel
theorem d_Mo_sort_205 : decode b_Mo_sort 205 = .ok (.if_icmp .eq 20, 3) := by decide +kernel
theorem d_Mo_sort_208 : decode b_Mo_sort 208 = .ok (.aload_n 0, 1) := by decide +kernel
theorem d_Mo_sort_209 : decode b_Mo_sort 209 = .ok (.getfield 20, 3) := by decide +kernel
theorem d_Mo_sort_212 : decode b_Mo_sort 212 = .ok (.iload 7, 2) := by decide +kernel
theorem d_Mo_sort_214 : decode b_Mo_sort 214 = .ok (.iaload, 1) := by decide +kernel
theorem d_Mo_sort_215 : decode b_Mo_sort 215 = .ok (.aload_n 0, 1) := by decide +kernel
theorem d_Mo_sort_216 : decode b_Mo_sort 216 = .ok (.getfield 20, 3) := by decide +kernel
theorem d_Mo_sort_219 : decode b_Mo_sort 219 = .ok (.iload 9, 2) := by decide +kernel
theorem d_Mo_sort_221 : decode b_Mo_sort 221 = .ok (.iaload, 1) := by decide +kernel
theorem d_Mo_sort_222 : decode b_Mo_sort 222 = .ok (.if_icmp .ge 7, 3) := by decide +kernel
theorem d_Mo_sort_225 : decode b_Mo_sort 225 = .ok (.iconst 1, 1) := by decide +kernel
theorem d_Mo_sort_226 : decode b_Mo_sort 226 = .ok (.goto 4, 3) := by decide +kernel
theorem d_Mo_sort_229 : decode b_Mo_sort 229 = .ok (.iconst 0, 1) := by decide +kernel
theorem d_Mo_sort_230 : decode b_Mo_sort 230 = .ok (.istore 12, 2) := by decide +kernel
theorem d_Mo_sort_232 : decode b_Mo_sort 232 = .ok (.aload_n 0, 1) := by decide +kernel
theorem d_Mo_sort_233 : decode b_Mo_sort 233 = .ok (.getfield 23, 3) := by decide +kernel
theorem d_Mo_sort_236 : decode b_Mo_sort 236 = .ok (.iload 11, 2) := by decide +kernel
theorem d_Mo_sort_238 : decode b_Mo_sort 238 = .ok (.iload 12, 2) := by decide +kernel
theorem d_Mo_sort_240 : decode b_Mo_sort 240 = .ok (.ifCond .eq 13, 3) := by decide +kernel
theorem d_Mo_sort_243 : decode b_Mo_sort 243 = .ok (.aload_n 0, 1) := by decide +kernel
theorem d_Mo_sort_244 : decode b_Mo_sort 244 = .ok (.getfield 20, 3) := by decide +kernel
theorem d_Mo_sort_247 : decode b_Mo_sort 247 = .ok (.iload 7, 2) := by decide +kernel
theorem d_Mo_sort_249 : decode b_Mo_sort 249 = .ok (.iaload, 1) := by decide +kernel
theorem d_Mo_sort_250 : decode b_Mo_sort 250 = .ok (.goto 10, 3) := by decide +kernel
theorem d_Mo_sort_253 : decode b_Mo_sort 253 = .ok (.aload_n 0, 1) := by decide +kernel
theorem d_Mo_sort_254 : decode b_Mo_sort 254 = .ok (.getfield 20, 3) := by decide +kernel
theorem d_Mo_sort_257 : decode b_Mo_sort 257 = .ok (.iload 9, 2) := by decide +kernel
theorem d_Mo_sort_259 : decode b_Mo_sort 259 = .ok (.iaload, 1) := by decide +kernel
theorem d_Mo_sort_260 : decode b_Mo_sort 260 = .ok (.iastore, 1) := by decide +kernel
theorem d_Mo_sort_261 : decode b_Mo_sort 261 = .ok (.iload 12, 2) := by decide +kernel
theorem d_Mo_sort_263 : decode b_Mo_sort 263 = .ok (.ifCond .eq 10, 3) := by decide +kernel
theorem d_Mo_sort_266 : decode b_Mo_sort 266 = .ok (.iload 7, 2) := by decide +kernel
theorem d_Mo_sort_268 : decode b_Mo_sort 268 = .ok (.iconst 1, 1) := by decide +kernel
theorem d_Mo_sort_269 : decode b_Mo_sort 269 = .ok (.iadd, 1) := by decide +kernel
theorem d_Mo_sort_270 : decode b_Mo_sort 270 = .ok (.goto 5, 3) := by decide +kernel
theorem d_Mo_sort_273 : decode b_Mo_sort 273 = .ok (.iload 7, 2) := by decide +kernel
theorem d_Mo_sort_275 : decode b_Mo_sort 275 = .ok (.istore 7, 2) := by decide +kernel
theorem d_Mo_sort_277 : decode b_Mo_sort 277 = .ok (.iload 12, 2) := by decide +kernel
theorem d_Mo_sort_279 : decode b_Mo_sort 279 = .ok (.ifCond .eq 8, 3) := by decide +kernel
theorem d_Mo_sort_282 : decode b_Mo_sort 282 = .ok (.iload 9, 2) := by decide +kernel
theorem d_Mo_sort_284 : decode b_Mo_sort 284 = .ok (.goto 7, 3) := by decide +kernel
theorem d_Mo_sort_287 : decode b_Mo_sort 287 = .ok (.iload 9, 2) := by decide +kernel
theorem d_Mo_sort_289 : decode b_Mo_sort 289 = .ok (.iconst 1, 1) := by decide +kernel
theorem d_Mo_sort_290 : decode b_Mo_sort 290 = .ok (.iadd, 1) := by decide +kernel
theorem d_Mo_sort_291 : decode b_Mo_sort 291 = .ok (.istore 9, 2) := by decide +kernel
theorem d_Mo_sort_293 : decode b_Mo_sort 293 = .ok (.iinc 11 1, 3) := by decide +kernel
theorem d_Mo_sort_296 : decode b_Mo_sort 296 = .ok (.goto (-109), 3) := by decide +kernel
theorem d_Mo_sort_299 : decode b_Mo_sort 299 = .ok (.iload 6, 2) := by decide +kernel
theorem d_Mo_sort_301 : decode b_Mo_sort 301 = .ok (.iconst 2, 1) := by decide +kernel
theorem d_Mo_sort_302 : decode b_Mo_sort 302 = .ok (.iload 5, 2) := by decide +kernel
theorem d_Mo_sort_304 : decode b_Mo_sort 304 = .ok (.imul, 1) := by decide +kernel
theorem d_Mo_sort_305 : decode b_Mo_sort 305 = .ok (.iadd, 1) := by decide +kernel
theorem d_Mo_sort_306 : decode b_Mo_sort 306 = .ok (.istore 6, 2) := by decide +kernel
theorem d_Mo_sort_308 : decode b_Mo_sort 308 = .ok (.goto (-188), 3) := by decide +kernel
theorem d_Mo_sort_311 : decode b_Mo_sort 311 = .ok (.iconst 0, 1) := by decide +kernel
theorem d_Mo_sort_312 : decode b_Mo_sort 312 = .ok (.istore 6, 2) := by decide +kernel
theorem d_Mo_sort_314 : decode b_Mo_sort 314 = .ok (.iload 6, 2) := by decide +kernel
theorem d_Mo_sort_316 : decode b_Mo_sort 316 = .ok (.iload 4, 2) := by decide +kernel
theorem d_Mo_sort_318 : decode b_Mo_sort 318 = .ok (.if_icmp .ge 23, 3) := by decide +kernel
theorem d_Mo_sort_321 : decode b_Mo_sort 321 = .ok (.aload_n 0, 1) := by decide +kernel
theorem d_Mo_sort_322 : decode b_Mo_sort 322 = .ok (.getfield 20, 3) := by decide +kernel
theorem d_Mo_sort_325 : decode b_Mo_sort 325 = .ok (.iload 6, 2) := by decide +kernel
theorem d_Mo_sort_327 : decode b_Mo_sort 327 = .ok (.aload_n 0, 1) := by decide +kernel
theorem d_Mo_sort_328 : decode b_Mo_sort 328 = .ok (.getfield 23, 3) := by decide +kernel
theorem d_Mo_sort_331 : decode b_Mo_sort 331 = .ok (.iload 6, 2) := by decide +kernel
theorem d_Mo_sort_333 : decode b_Mo_sort 333 = .ok (.iaload, 1) := by decide +kernel
theorem d_Mo_sort_334 : decode b_Mo_sort 334 = .ok (.iastore, 1) := by decide +kernel
theorem d_Mo_sort_335 : decode b_Mo_sort 335 = .ok (.iinc 6 1, 3) := by decide +kernel
theorem d_Mo_sort_338 : decode b_Mo_sort 338 = .ok (.goto (-24), 3) := by decide +kernel
theorem d_Mo_sort_341 : decode b_Mo_sort 341 = .ok (.iconst 2, 1) := by decide +kernel
theorem d_Mo_sort_342 : decode b_Mo_sort 342 = .ok (.iload 5, 2) := by decide +kernel
theorem d_Mo_sort_344 : decode b_Mo_sort 344 = .ok (.imul, 1) := by decide +kernel
theorem d_Mo_sort_345 : decode b_Mo_sort 345 = .ok (.istore 5, 2) := by decide +kernel
theorem d_Mo_sort_347 : decode b_Mo_sort 347 = .ok (.goto (-237), 3) := by decide +kernel
theorem d_Mo_sort_350 : decode b_Mo_sort 350 = .ok (.iload 4, 2) := by decide +kernel
theorem d_Mo_sort_352 : decode b_Mo_sort 352 = .ok (.ireturn, 1) := by decide +kernel
theorem d_Mo_runs_0 : decode b_Mo_runs 0 = .ok (.aload_n 0, 1) := by decide +kernel
theorem d_Mo_runs_1 : decode b_Mo_runs 1 = .ok (.iload_n 1, 1) := by decide +kernel
theorem d_Mo_runs_2 : decode b_Mo_runs 2 = .ok (.invokevirtual 73, 3) := by decide +kernel
theorem d_Mo_runs_5 : decode b_Mo_runs 5 = .ok (.istore_n 2, 1) := by decide +kernel
theorem d_Mo_runs_6 : decode b_Mo_runs 6 = .ok (.iload_n 2, 1) := by decide +kernel
theorem d_Mo_runs_7 : decode b_Mo_runs 7 = .ok (.ifCond .ge 5, 3) := by decide +kernel
theorem d_Mo_runs_10 : decode b_Mo_runs 10 = .ok (.iconst (-1), 1) := by decide +kernel
theorem d_Mo_runs_11 : decode b_Mo_runs 11 = .ok (.ireturn, 1) := by decide +kernel
theorem d_Mo_runs_12 : decode b_Mo_runs 12 = .ok (.iconst 0, 1) := by decide +kernel
theorem d_Mo_runs_13 : decode b_Mo_runs 13 = .ok (.istore_n 3, 1) := by decide +kernel
theorem d_Mo_runs_14 : decode b_Mo_runs 14 = .ok (.iconst 0, 1) := by decide +kernel
theorem d_Mo_runs_15 : decode b_Mo_runs 15 = .ok (.istore 4, 2) := by decide +kernel
theorem d_Mo_runs_17 : decode b_Mo_runs 17 = .ok (.iload 4, 2) := by decide +kernel
theorem d_Mo_runs_19 : decode b_Mo_runs 19 = .ok (.iload_n 2, 1) := by decide +kernel
theorem d_Mo_runs_20 : decode b_Mo_runs 20 = .ok (.if_icmp .ge 43, 3) := by decide +kernel
theorem d_Mo_runs_23 : decode b_Mo_runs 23 = .ok (.iload 4, 2) := by decide +kernel
theorem d_Mo_runs_25 : decode b_Mo_runs 25 = .ok (.ifCond .eq 24, 3) := by decide +kernel
theorem d_Mo_runs_28 : decode b_Mo_runs 28 = .ok (.aload_n 0, 1) := by decide +kernel
theorem d_Mo_runs_29 : decode b_Mo_runs 29 = .ok (.getfield 20, 3) := by decide +kernel
theorem d_Mo_runs_32 : decode b_Mo_runs 32 = .ok (.iload 4, 2) := by decide +kernel
theorem d_Mo_runs_34 : decode b_Mo_runs 34 = .ok (.iaload, 1) := by decide +kernel
theorem d_Mo_runs_35 : decode b_Mo_runs 35 = .ok (.aload_n 0, 1) := by decide +kernel
theorem d_Mo_runs_36 : decode b_Mo_runs 36 = .ok (.getfield 20, 3) := by decide +kernel
theorem d_Mo_runs_39 : decode b_Mo_runs 39 = .ok (.iload 4, 2) := by decide +kernel
theorem d_Mo_runs_41 : decode b_Mo_runs 41 = .ok (.iconst 1, 1) := by decide +kernel
theorem d_Mo_runs_42 : decode b_Mo_runs 42 = .ok (.isub, 1) := by decide +kernel
theorem d_Mo_runs_43 : decode b_Mo_runs 43 = .ok (.iaload, 1) := by decide +kernel
theorem d_Mo_runs_44 : decode b_Mo_runs 44 = .ok (.iconst 1, 1) := by decide +kernel
theorem d_Mo_runs_45 : decode b_Mo_runs 45 = .ok (.iadd, 1) := by decide +kernel
theorem d_Mo_runs_46 : decode b_Mo_runs 46 = .ok (.if_icmp .le 9, 3) := by decide +kernel
theorem d_Mo_runs_49 : decode b_Mo_runs 49 = .ok (.iload_n 3, 1) := by decide +kernel
theorem d_Mo_runs_50 : decode b_Mo_runs 50 = .ok (.iconst 1, 1) := by decide +kernel
theorem d_Mo_runs_51 : decode b_Mo_runs 51 = .ok (.iadd, 1) := by decide +kernel
theorem d_Mo_runs_52 : decode b_Mo_runs 52 = .ok (.goto 4, 3) := by decide +kernel
theorem d_Mo_runs_55 : decode b_Mo_runs 55 = .ok (.iload_n 3, 1) := by decide +kernel
theorem d_Mo_runs_56 : decode b_Mo_runs 56 = .ok (.istore_n 3, 1) := by decide +kernel
theorem d_Mo_runs_57 : decode b_Mo_runs 57 = .ok (.iinc 4 1, 3) := by decide +kernel
theorem d_Mo_runs_60 : decode b_Mo_runs 60 = .ok (.goto (-43), 3) := by decide +kernel
theorem d_Mo_runs_63 : decode b_Mo_runs 63 = .ok (.iload_n 3, 1) := by decide +kernel
theorem d_Mo_runs_64 : decode b_Mo_runs 64 = .ok (.ireturn, 1) := by decide +kernel
theorem d_Mo_run_0 : decode b_Mo_run 0 = .ok (.aload_n 0, 1) := by decide +kernel
theorem d_Mo_run_1 : decode b_Mo_run 1 = .ok (.iload_n 1, 1) := by decide +kernel
theorem d_Mo_run_2 : decode b_Mo_run 2 = .ok (.invokevirtual 73, 3) := by decide +kernel
theorem d_Mo_run_5 : decode b_Mo_run 5 = .ok (.istore 4, 2) := by decide +kernel
theorem d_Mo_run_7 : decode b_Mo_run 7 = .ok (.iload 4, 2) := by decide +kernel
theorem d_Mo_run_9 : decode b_Mo_run 9 = .ok (.ifCond .lt 16, 3) := by decide +kernel
theorem d_Mo_run_12 : decode b_Mo_run 12 = .ok (.iload_n 2, 1) := by decide +kernel
theorem d_Mo_run_13 : decode b_Mo_run 13 = .ok (.ifCond .lt 12, 3) := by decide +kernel
theorem d_Mo_run_16 : decode b_Mo_run 16 = .ok (.iload_n 3, 1) := by decide +kernel
theorem d_Mo_run_17 : decode b_Mo_run 17 = .ok (.ifCond .lt 8, 3) := by decide +kernel
theorem d_Mo_run_20 : decode b_Mo_run 20 = .ok (.iload_n 3, 1) := by decide +kernel
theorem d_Mo_run_21 : decode b_Mo_run 21 = .ok (.iconst 1, 1) := by decide +kernel
theorem d_Mo_run_22 : decode b_Mo_run 22 = .ok (.if_icmp .le 5, 3) := by decide +kernel
theorem d_Mo_run_25 : decode b_Mo_run 25 = .ok (.iconst (-1), 1) := by decide +kernel
theorem d_Mo_run_26 : decode b_Mo_run 26 = .ok (.ireturn, 1) := by decide +kernel
theorem d_Mo_run_27 : decode b_Mo_run 27 = .ok (.iconst (-1), 1) := by decide +kernel
theorem d_Mo_run_28 : decode b_Mo_run 28 = .ok (.istore 5, 2) := by decide +kernel
theorem d_Mo_run_30 : decode b_Mo_run 30 = .ok (.iconst 0, 1) := by decide +kernel
theorem d_Mo_run_31 : decode b_Mo_run 31 = .ok (.istore 6, 2) := by decide +kernel
theorem d_Mo_run_33 : decode b_Mo_run 33 = .ok (.iload 6, 2) := by decide +kernel
theorem d_Mo_run_35 : decode b_Mo_run 35 = .ok (.iload 4, 2) := by decide +kernel
theorem d_Mo_run_37 : decode b_Mo_run 37 = .ok (.if_icmp .ge 106, 3) := by decide +kernel
theorem d_Mo_run_40 : decode b_Mo_run 40 = .ok (.iload 6, 2) := by decide +kernel
theorem d_Mo_run_42 : decode b_Mo_run 42 = .ok (.ifCond .eq 24, 3) := by decide +kernel
theorem d_Mo_run_45 : decode b_Mo_run 45 = .ok (.aload_n 0, 1) := by decide +kernel
theorem d_Mo_run_46 : decode b_Mo_run 46 = .ok (.getfield 20, 3) := by decide +kernel
theorem d_Mo_run_49 : decode b_Mo_run 49 = .ok (.iload 6, 2) := by decide +kernel
theorem d_Mo_run_51 : decode b_Mo_run 51 = .ok (.iaload, 1) := by decide +kernel
theorem d_Mo_run_52 : decode b_Mo_run 52 = .ok (.aload_n 0, 1) := by decide +kernel
theorem d_Mo_run_53 : decode b_Mo_run 53 = .ok (.getfield 20, 3) := by decide +kernel
theorem d_Mo_run_56 : decode b_Mo_run 56 = .ok (.iload 6, 2) := by decide +kernel
theorem d_Mo_run_58 : decode b_Mo_run 58 = .ok (.iconst 1, 1) := by decide +kernel
theorem d_Mo_run_59 : decode b_Mo_run 59 = .ok (.isub, 1) := by decide +kernel
theorem d_Mo_run_60 : decode b_Mo_run 60 = .ok (.iaload, 1) := by decide +kernel
theorem d_Mo_run_61 : decode b_Mo_run 61 = .ok (.iconst 1, 1) := by decide +kernel
theorem d_Mo_run_62 : decode b_Mo_run 62 = .ok (.iadd, 1) := by decide +kernel
theorem d_Mo_run_63 : decode b_Mo_run 63 = .ok (.if_icmp .le 10, 3) := by decide +kernel
theorem d_Mo_run_66 : decode b_Mo_run 66 = .ok (.iload 5, 2) := by decide +kernel
theorem d_Mo_run_68 : decode b_Mo_run 68 = .ok (.iconst 1, 1) := by decide +kernel
theorem d_Mo_run_69 : decode b_Mo_run 69 = .ok (.iadd, 1) := by decide +kernel
theorem d_Mo_run_70 : decode b_Mo_run 70 = .ok (.goto 5, 3) := by decide +kernel
theorem d_Mo_run_73 : decode b_Mo_run 73 = .ok (.iload 5, 2) := by decide +kernel
theorem d_Mo_run_75 : decode b_Mo_run 75 = .ok (.istore 5, 2) := by decide +kernel
theorem d_Mo_run_77 : decode b_Mo_run 77 = .ok (.iload 6, 2) := by decide +kernel
theorem d_Mo_run_79 : decode b_Mo_run 79 = .ok (.iload 4, 2) := by decide +kernel
theorem d_Mo_run_81 : decode b_Mo_run 81 = .ok (.iconst 1, 1) := by decide +kernel
theorem d_Mo_run_82 : decode b_Mo_run 82 = .ok (.isub, 1) := by decide +kernel
theorem d_Mo_run_83 : decode b_Mo_run 83 = .ok (.if_icmp .eq 24, 3) := by decide +kernel
theorem d_Mo_run_86 : decode b_Mo_run 86 = .ok (.aload_n 0, 1) := by decide +kernel
theorem d_Mo_run_87 : decode b_Mo_run 87 = .ok (.getfield 20, 3) := by decide +kernel
theorem d_Mo_run_90 : decode b_Mo_run 90 = .ok (.iload 6, 2) := by decide +kernel
theorem d_Mo_run_92 : decode b_Mo_run 92 = .ok (.iconst 1, 1) := by decide +kernel
theorem d_Mo_run_93 : decode b_Mo_run 93 = .ok (.iadd, 1) := by decide +kernel
theorem d_Mo_run_94 : decode b_Mo_run 94 = .ok (.iaload, 1) := by decide +kernel
theorem d_Mo_run_95 : decode b_Mo_run 95 = .ok (.aload_n 0, 1) := by decide +kernel
theorem d_Mo_run_96 : decode b_Mo_run 96 = .ok (.getfield 20, 3) := by decide +kernel
theorem d_Mo_run_99 : decode b_Mo_run 99 = .ok (.iload 6, 2) := by decide +kernel
theorem d_Mo_run_101 : decode b_Mo_run 101 = .ok (.iaload, 1) := by decide +kernel
theorem d_Mo_run_102 : decode b_Mo_run 102 = .ok (.iconst 1, 1) := by decide +kernel
theorem d_Mo_run_103 : decode b_Mo_run 103 = .ok (.iadd, 1) := by decide +kernel
theorem d_Mo_run_104 : decode b_Mo_run 104 = .ok (.if_icmp .le 7, 3) := by decide +kernel
theorem d_Mo_run_107 : decode b_Mo_run 107 = .ok (.iconst 1, 1) := by decide +kernel
theorem d_Mo_run_108 : decode b_Mo_run 108 = .ok (.goto 4, 3) := by decide +kernel
theorem d_Mo_run_111 : decode b_Mo_run 111 = .ok (.iconst 0, 1) := by decide +kernel
theorem d_Mo_run_112 : decode b_Mo_run 112 = .ok (.istore 7, 2) := by decide +kernel
theorem d_Mo_run_114 : decode b_Mo_run 114 = .ok (.iload 5, 2) := by decide +kernel
theorem d_Mo_run_116 : decode b_Mo_run 116 = .ok (.iload_n 2, 1) := by decide +kernel
theorem d_Mo_run_117 : decode b_Mo_run 117 = .ok (.if_icmp .ne 20, 3) := by decide +kernel
theorem d_Mo_run_120 : decode b_Mo_run 120 = .ok (.iload_n 3, 1) := by decide +kernel
theorem d_Mo_run_121 : decode b_Mo_run 121 = .ok (.ifCond .eq 8, 3) := by decide +kernel
theorem d_Mo_run_124 : decode b_Mo_run 124 = .ok (.iload 7, 2) := by decide +kernel
theorem d_Mo_run_126 : decode b_Mo_run 126 = .ok (.ifCond .eq 11, 3) := by decide +kernel
theorem d_Mo_run_129 : decode b_Mo_run 129 = .ok (.aload_n 0, 1) := by decide +kernel
theorem d_Mo_run_130 : decode b_Mo_run 130 = .ok (.getfield 20, 3) := by decide +kernel
theorem d_Mo_run_133 : decode b_Mo_run 133 = .ok (.iload 6, 2) := by decide +kernel
theorem d_Mo_run_135 : decode b_Mo_run 135 = .ok (.iaload, 1) := by decide +kernel
theorem d_Mo_run_136 : decode b_Mo_run 136 = .ok (.ireturn, 1) := by decide +kernel
theorem d_Mo_run_137 : decode b_Mo_run 137 = .ok (.iinc 6 1, 3) := by decide +kernel
theorem d_Mo_run_140 : decode b_Mo_run 140 = .ok (.goto (-107), 3) := by decide +kernel
theorem d_Mo_run_143 : decode b_Mo_run 143 = .ok (.iconst (-1), 1) := by decide +kernel
theorem d_Mo_run_144 : decode b_Mo_run 144 = .ok (.ireturn, 1) := by decide +kernel
theorem d_Mo_nearest_0 : decode b_Mo_nearest 0 = .ok (.aload_n 0, 1) := by decide +kernel
theorem d_Mo_nearest_1 : decode b_Mo_nearest 1 = .ok (.iload_n 1, 1) := by decide +kernel
theorem d_Mo_nearest_2 : decode b_Mo_nearest 2 = .ok (.iload_n 2, 1) := by decide +kernel
theorem d_Mo_nearest_3 : decode b_Mo_nearest 3 = .ok (.invokevirtual 49, 3) := by decide +kernel
theorem d_Mo_nearest_6 : decode b_Mo_nearest 6 = .ok (.ifCond .ne 5, 3) := by decide +kernel
theorem d_Mo_nearest_9 : decode b_Mo_nearest 9 = .ok (.iconst (-1), 1) := by decide +kernel
theorem d_Mo_nearest_10 : decode b_Mo_nearest 10 = .ok (.ireturn, 1) := by decide +kernel
theorem d_Mo_nearest_11 : decode b_Mo_nearest 11 = .ok (.iconst (-1), 1) := by decide +kernel
theorem d_Mo_nearest_12 : decode b_Mo_nearest 12 = .ok (.istore_n 3, 1) := by decide +kernel
theorem d_Mo_nearest_13 : decode b_Mo_nearest 13 = .ok (.lconst 0, 1) := by decide +kernel
theorem d_Mo_nearest_14 : decode b_Mo_nearest 14 = .ok (.lstore 4, 2) := by decide +kernel
theorem d_Mo_nearest_16 : decode b_Mo_nearest 16 = .ok (.iconst 0, 1) := by decide +kernel
theorem d_Mo_nearest_17 : decode b_Mo_nearest 17 = .ok (.istore 6, 2) := by decide +kernel
theorem d_Mo_nearest_19 : decode b_Mo_nearest 19 = .ok (.iload 6, 2) := by decide +kernel
theorem d_Mo_nearest_21 : decode b_Mo_nearest 21 = .ok (.aload_n 0, 1) := by decide +kernel
theorem d_Mo_nearest_22 : decode b_Mo_nearest 22 = .ok (.getfield 30, 3) := by decide +kernel
theorem d_Mo_nearest_25 : decode b_Mo_nearest 25 = .ok (.if_icmp .ge 99, 3) := by decide +kernel
theorem d_Mo_nearest_28 : decode b_Mo_nearest 28 = .ok (.aload_n 0, 1) := by decide +kernel
theorem d_Mo_nearest_29 : decode b_Mo_nearest 29 = .ok (.getfield 13, 3) := by decide +kernel
theorem d_Mo_nearest_32 : decode b_Mo_nearest 32 = .ok (.iload 6, 2) := by decide +kernel
theorem d_Mo_nearest_34 : decode b_Mo_nearest 34 = .ok (.iaload, 1) := by decide +kernel
theorem d_Mo_nearest_35 : decode b_Mo_nearest 35 = .ok (.aload_n 0, 1) := by decide +kernel
theorem d_Mo_nearest_36 : decode b_Mo_nearest 36 = .ok (.invokevirtual 26, 3) := by decide +kernel
theorem d_Mo_nearest_39 : decode b_Mo_nearest 39 = .ok (.idiv, 1) := by decide +kernel
theorem d_Mo_nearest_40 : decode b_Mo_nearest 40 = .ok (.iload_n 1, 1) := by decide +kernel
theorem d_Mo_nearest_41 : decode b_Mo_nearest 41 = .ok (.isub, 1) := by decide +kernel
theorem d_Mo_nearest_42 : decode b_Mo_nearest 42 = .ok (.i2l, 1) := by decide +kernel
theorem d_Mo_nearest_43 : decode b_Mo_nearest 43 = .ok (.lstore 7, 2) := by decide +kernel
theorem d_Mo_nearest_45 : decode b_Mo_nearest 45 = .ok (.aload_n 0, 1) := by decide +kernel
theorem d_Mo_nearest_46 : decode b_Mo_nearest 46 = .ok (.getfield 13, 3) := by decide +kernel
theorem d_Mo_nearest_49 : decode b_Mo_nearest 49 = .ok (.iload 6, 2) := by decide +kernel
theorem d_Mo_nearest_51 : decode b_Mo_nearest 51 = .ok (.iaload, 1) := by decide +kernel
theorem d_Mo_nearest_52 : decode b_Mo_nearest 52 = .ok (.aload_n 0, 1) := by decide +kernel
theorem d_Mo_nearest_53 : decode b_Mo_nearest 53 = .ok (.invokevirtual 26, 3) := by decide +kernel
theorem d_Mo_nearest_56 : decode b_Mo_nearest 56 = .ok (.irem, 1) := by decide +kernel
theorem d_Mo_nearest_57 : decode b_Mo_nearest 57 = .ok (.iload_n 2, 1) := by decide +kernel
theorem d_Mo_nearest_58 : decode b_Mo_nearest 58 = .ok (.isub, 1) := by decide +kernel
theorem d_Mo_nearest_59 : decode b_Mo_nearest 59 = .ok (.i2l, 1) := by decide +kernel
theorem d_Mo_nearest_60 : decode b_Mo_nearest 60 = .ok (.lstore 9, 2) := by decide +kernel
theorem d_Mo_nearest_62 : decode b_Mo_nearest 62 = .ok (.lload 7, 2) := by decide +kernel
theorem d_Mo_nearest_64 : decode b_Mo_nearest 64 = .ok (.lload 7, 2) := by decide +kernel
theorem d_Mo_nearest_66 : decode b_Mo_nearest 66 = .ok (.lmul, 1) := by decide +kernel
theorem d_Mo_nearest_67 : decode b_Mo_nearest 67 = .ok (.lload 9, 2) := by decide +kernel
theorem d_Mo_nearest_69 : decode b_Mo_nearest 69 = .ok (.lload 9, 2) := by decide +kernel
theorem d_Mo_nearest_71 : decode b_Mo_nearest 71 = .ok (.lmul, 1) := by decide +kernel
theorem d_Mo_nearest_72 : decode b_Mo_nearest 72 = .ok (.ladd, 1) := by decide +kernel
theorem d_Mo_nearest_73 : decode b_Mo_nearest 73 = .ok (.lstore 11, 2) := by decide +kernel
theorem d_Mo_nearest_75 : decode b_Mo_nearest 75 = .ok (.iload_n 3, 1) := by decide +kernel
theorem d_Mo_nearest_76 : decode b_Mo_nearest 76 = .ok (.ifCond .lt 35, 3) := by decide +kernel
theorem d_Mo_nearest_79 : decode b_Mo_nearest 79 = .ok (.lload 11, 2) := by decide +kernel
theorem d_Mo_nearest_81 : decode b_Mo_nearest 81 = .ok (.lload 4, 2) := by decide +kernel
theorem d_Mo_nearest_83 : decode b_Mo_nearest 83 = .ok (.lcmp, 1) := by decide +kernel
theorem d_Mo_nearest_84 : decode b_Mo_nearest 84 = .ok (.ifCond .lt 27, 3) := by decide +kernel
theorem d_Mo_nearest_87 : decode b_Mo_nearest 87 = .ok (.lload 11, 2) := by decide +kernel
theorem d_Mo_nearest_89 : decode b_Mo_nearest 89 = .ok (.lload 4, 2) := by decide +kernel
theorem d_Mo_nearest_91 : decode b_Mo_nearest 91 = .ok (.lcmp, 1) := by decide +kernel
theorem d_Mo_nearest_92 : decode b_Mo_nearest 92 = .ok (.ifCond .ne 26, 3) := by decide +kernel
theorem d_Mo_nearest_95 : decode b_Mo_nearest 95 = .ok (.aload_n 0, 1) := by decide +kernel
theorem d_Mo_nearest_96 : decode b_Mo_nearest 96 = .ok (.iconst 1, 1) := by decide +kernel
theorem d_Mo_nearest_97 : decode b_Mo_nearest 97 = .ok (.iload 6, 2) := by decide +kernel
theorem d_Mo_nearest_99 : decode b_Mo_nearest 99 = .ok (.invokevirtual 68, 3) := by decide +kernel
theorem d_Mo_nearest_102 : decode b_Mo_nearest 102 = .ok (.aload_n 0, 1) := by decide +kernel
theorem d_Mo_nearest_103 : decode b_Mo_nearest 103 = .ok (.iconst 1, 1) := by decide +kernel
theorem d_Mo_nearest_104 : decode b_Mo_nearest 104 = .ok (.iload_n 3, 1) := by decide +kernel
theorem d_Mo_nearest_105 : decode b_Mo_nearest 105 = .ok (.invokevirtual 68, 3) := by decide +kernel
theorem d_Mo_nearest_108 : decode b_Mo_nearest 108 = .ok (.if_icmp .ge 10, 3) := by decide +kernel
theorem d_Mo_nearest_111 : decode b_Mo_nearest 111 = .ok (.iload 6, 2) := by decide +kernel
theorem d_Mo_nearest_113 : decode b_Mo_nearest 113 = .ok (.istore_n 3, 1) := by decide +kernel
theorem d_Mo_nearest_114 : decode b_Mo_nearest 114 = .ok (.lload 11, 2) := by decide +kernel
theorem d_Mo_nearest_116 : decode b_Mo_nearest 116 = .ok (.lstore 4, 2) := by decide +kernel
theorem d_Mo_nearest_118 : decode b_Mo_nearest 118 = .ok (.iinc 6 1, 3) := by decide +kernel
theorem d_Mo_nearest_121 : decode b_Mo_nearest 121 = .ok (.goto (-102), 3) := by decide +kernel
theorem d_Mo_nearest_124 : decode b_Mo_nearest 124 = .ok (.iload_n 3, 1) := by decide +kernel
theorem d_Mo_nearest_125 : decode b_Mo_nearest 125 = .ok (.ifCond .ge 7, 3) := by decide +kernel
theorem d_Mo_nearest_128 : decode b_Mo_nearest 128 = .ok (.iconst (-1), 1) := by decide +kernel
theorem d_Mo_nearest_129 : decode b_Mo_nearest 129 = .ok (.goto 9, 3) := by decide +kernel
theorem d_Mo_nearest_132 : decode b_Mo_nearest 132 = .ok (.aload_n 0, 1) := by decide +kernel
theorem d_Mo_nearest_133 : decode b_Mo_nearest 133 = .ok (.getfield 13, 3) := by decide +kernel
theorem d_Mo_nearest_136 : decode b_Mo_nearest 136 = .ok (.iload_n 3, 1) := by decide +kernel
theorem d_Mo_nearest_137 : decode b_Mo_nearest 137 = .ok (.iaload, 1) := by decide +kernel
theorem d_Mo_nearest_138 : decode b_Mo_nearest 138 = .ok (.ireturn, 1) := by decide +kernel
theorem d_Fr_init_0 : decode b_Fr_init 0 = .ok (.aload_n 0, 1) := by decide +kernel
theorem d_Fr_init_1 : decode b_Fr_init 1 = .ok (.invokespecial 1, 3) := by decide +kernel
theorem d_Fr_init_4 : decode b_Fr_init 4 = .ok (.aload_n 0, 1) := by decide +kernel
theorem d_Fr_init_5 : decode b_Fr_init 5 = .ok (.iload_n 1, 1) := by decide +kernel
theorem d_Fr_init_6 : decode b_Fr_init 6 = .ok (.putfield 7, 3) := by decide +kernel
theorem d_Fr_init_9 : decode b_Fr_init 9 = .ok (.aload_n 0, 1) := by decide +kernel
theorem d_Fr_init_10 : decode b_Fr_init 10 = .ok (.iload_n 2, 1) := by decide +kernel
theorem d_Fr_init_11 : decode b_Fr_init 11 = .ok (.putfield 13, 3) := by decide +kernel
theorem d_Fr_init_14 : decode b_Fr_init 14 = .ok (.aload_n 0, 1) := by decide +kernel
theorem d_Fr_init_15 : decode b_Fr_init 15 = .ok (.iload_n 3, 1) := by decide +kernel
theorem d_Fr_init_16 : decode b_Fr_init 16 = .ok (.putfield 16, 3) := by decide +kernel
theorem d_Fr_init_19 : decode b_Fr_init 19 = .ok (.aload_n 0, 1) := by decide +kernel
theorem d_Fr_init_20 : decode b_Fr_init 20 = .ok (.iload 4, 2) := by decide +kernel
theorem d_Fr_init_22 : decode b_Fr_init 22 = .ok (.putfield 19, 3) := by decide +kernel
theorem d_Fr_init_25 : decode b_Fr_init 25 = .ok (.return_, 1) := by decide +kernel
theorem d_Fr_holds_0 : decode b_Fr_holds 0 = .ok (.iload_n 1, 1) := by decide +kernel
theorem d_Fr_holds_1 : decode b_Fr_holds 1 = .ok (.aload_n 0, 1) := by decide +kernel
theorem d_Fr_holds_2 : decode b_Fr_holds 2 = .ok (.getfield 7, 3) := by decide +kernel
theorem d_Fr_holds_5 : decode b_Fr_holds 5 = .ok (.if_icmp .lt 31, 3) := by decide +kernel
theorem d_Fr_holds_8 : decode b_Fr_holds 8 = .ok (.iload_n 1, 1) := by decide +kernel
theorem d_Fr_holds_9 : decode b_Fr_holds 9 = .ok (.aload_n 0, 1) := by decide +kernel
theorem d_Fr_holds_10 : decode b_Fr_holds 10 = .ok (.getfield 16, 3) := by decide +kernel
theorem d_Fr_holds_13 : decode b_Fr_holds 13 = .ok (.if_icmp .gt 23, 3) := by decide +kernel
theorem d_Fr_holds_16 : decode b_Fr_holds 16 = .ok (.iload_n 2, 1) := by decide +kernel
theorem d_Fr_holds_17 : decode b_Fr_holds 17 = .ok (.aload_n 0, 1) := by decide +kernel
theorem d_Fr_holds_18 : decode b_Fr_holds 18 = .ok (.getfield 13, 3) := by decide +kernel
theorem d_Fr_holds_21 : decode b_Fr_holds 21 = .ok (.if_icmp .lt 15, 3) := by decide +kernel
theorem d_Fr_holds_24 : decode b_Fr_holds 24 = .ok (.iload_n 2, 1) := by decide +kernel
theorem d_Fr_holds_25 : decode b_Fr_holds 25 = .ok (.aload_n 0, 1) := by decide +kernel
theorem d_Fr_holds_26 : decode b_Fr_holds 26 = .ok (.getfield 19, 3) := by decide +kernel
theorem d_Fr_holds_29 : decode b_Fr_holds 29 = .ok (.if_icmp .gt 7, 3) := by decide +kernel
theorem d_Fr_holds_32 : decode b_Fr_holds 32 = .ok (.iconst 1, 1) := by decide +kernel
theorem d_Fr_holds_33 : decode b_Fr_holds 33 = .ok (.goto 4, 3) := by decide +kernel
theorem d_Fr_holds_36 : decode b_Fr_holds 36 = .ok (.iconst 0, 1) := by decide +kernel
theorem d_Fr_holds_37 : decode b_Fr_holds 37 = .ok (.ireturn, 1) := by decide +kernel
theorem d_Fr_holdsSquare_0 : decode b_Fr_holdsSquare 0 = .ok (.aload_n 0, 1) := by decide +kernel
theorem d_Fr_holdsSquare_1 : decode b_Fr_holdsSquare 1 = .ok (.iload_n 1, 1) := by decide +kernel
theorem d_Fr_holdsSquare_2 : decode b_Fr_holdsSquare 2 = .ok (.iload_n 2, 1) := by decide +kernel
theorem d_Fr_holdsSquare_3 : decode b_Fr_holdsSquare 3 = .ok (.invokevirtual 22, 3) := by decide +kernel
theorem d_Fr_holdsSquare_6 : decode b_Fr_holdsSquare 6 = .ok (.ifCond .eq 24, 3) := by decide +kernel
theorem d_Fr_holdsSquare_9 : decode b_Fr_holdsSquare 9 = .ok (.aload_n 0, 1) := by decide +kernel
theorem d_Fr_holdsSquare_10 : decode b_Fr_holdsSquare 10 = .ok (.iload_n 1, 1) := by decide +kernel
theorem d_Fr_holdsSquare_11 : decode b_Fr_holdsSquare 11 = .ok (.iload_n 3, 1) := by decide +kernel
theorem d_Fr_holdsSquare_12 : decode b_Fr_holdsSquare 12 = .ok (.iadd, 1) := by decide +kernel
theorem d_Fr_holdsSquare_13 : decode b_Fr_holdsSquare 13 = .ok (.iconst 1, 1) := by decide +kernel
theorem d_Fr_holdsSquare_14 : decode b_Fr_holdsSquare 14 = .ok (.isub, 1) := by decide +kernel
theorem d_Fr_holdsSquare_15 : decode b_Fr_holdsSquare 15 = .ok (.iload_n 2, 1) := by decide +kernel
theorem d_Fr_holdsSquare_16 : decode b_Fr_holdsSquare 16 = .ok (.iload_n 3, 1) := by decide +kernel
theorem d_Fr_holdsSquare_17 : decode b_Fr_holdsSquare 17 = .ok (.iadd, 1) := by decide +kernel
theorem d_Fr_holdsSquare_18 : decode b_Fr_holdsSquare 18 = .ok (.iconst 1, 1) := by decide +kernel
theorem d_Fr_holdsSquare_19 : decode b_Fr_holdsSquare 19 = .ok (.isub, 1) := by decide +kernel
theorem d_Fr_holdsSquare_20 : decode b_Fr_holdsSquare 20 = .ok (.invokevirtual 22, 3) := by decide +kernel
theorem d_Fr_holdsSquare_23 : decode b_Fr_holdsSquare 23 = .ok (.ifCond .eq 7, 3) := by decide +kernel
theorem d_Fr_holdsSquare_26 : decode b_Fr_holdsSquare 26 = .ok (.iconst 1, 1) := by decide +kernel
theorem d_Fr_holdsSquare_27 : decode b_Fr_holdsSquare 27 = .ok (.goto 4, 3) := by decide +kernel
theorem d_Fr_holdsSquare_30 : decode b_Fr_holdsSquare 30 = .ok (.iconst 0, 1) := by decide +kernel
theorem d_Fr_holdsSquare_31 : decode b_Fr_holdsSquare 31 = .ok (.ireturn, 1) := by decide +kernel
theorem d_Fr_missesSquare_0 : decode b_Fr_missesSquare 0 = .ok (.iload_n 1, 1) := by decide +kernel
theorem d_Fr_missesSquare_1 : decode b_Fr_missesSquare 1 = .ok (.aload_n 0, 1) := by decide +kernel
theorem d_Fr_missesSquare_2 : decode b_Fr_missesSquare 2 = .ok (.getfield 16, 3) := by decide +kernel
theorem d_Fr_missesSquare_5 : decode b_Fr_missesSquare 5 = .ok (.if_icmp .gt 31, 3) := by decide +kernel
theorem d_Fr_missesSquare_8 : decode b_Fr_missesSquare 8 = .ok (.iload_n 1, 1) := by decide +kernel
theorem d_Fr_missesSquare_9 : decode b_Fr_missesSquare 9 = .ok (.iload_n 3, 1) := by decide +kernel
theorem d_Fr_missesSquare_10 : decode b_Fr_missesSquare 10 = .ok (.iadd, 1) := by decide +kernel
theorem d_Fr_missesSquare_11 : decode b_Fr_missesSquare 11 = .ok (.aload_n 0, 1) := by decide +kernel
theorem d_Fr_missesSquare_12 : decode b_Fr_missesSquare 12 = .ok (.getfield 7, 3) := by decide +kernel
theorem d_Fr_missesSquare_15 : decode b_Fr_missesSquare 15 = .ok (.if_icmp .le 21, 3) := by decide +kernel
theorem d_Fr_missesSquare_18 : decode b_Fr_missesSquare 18 = .ok (.iload_n 2, 1) := by decide +kernel
theorem d_Fr_missesSquare_19 : decode b_Fr_missesSquare 19 = .ok (.aload_n 0, 1) := by decide +kernel
theorem d_Fr_missesSquare_20 : decode b_Fr_missesSquare 20 = .ok (.getfield 19, 3) := by decide +kernel
theorem d_Fr_missesSquare_23 : decode b_Fr_missesSquare 23 = .ok (.if_icmp .gt 13, 3) := by decide +kernel
theorem d_Fr_missesSquare_26 : decode b_Fr_missesSquare 26 = .ok (.iload_n 2, 1) := by decide +kernel
theorem d_Fr_missesSquare_27 : decode b_Fr_missesSquare 27 = .ok (.iload_n 3, 1) := by decide +kernel
theorem d_Fr_missesSquare_28 : decode b_Fr_missesSquare 28 = .ok (.iadd, 1) := by decide +kernel
theorem d_Fr_missesSquare_29 : decode b_Fr_missesSquare 29 = .ok (.aload_n 0, 1) := by decide +kernel
theorem d_Fr_missesSquare_30 : decode b_Fr_missesSquare 30 = .ok (.getfield 13, 3) := by decide +kernel
theorem d_Fr_missesSquare_33 : decode b_Fr_missesSquare 33 = .ok (.if_icmp .gt 7, 3) := by decide +kernel
theorem d_Fr_missesSquare_36 : decode b_Fr_missesSquare 36 = .ok (.iconst 1, 1) := by decide +kernel
theorem d_Fr_missesSquare_37 : decode b_Fr_missesSquare 37 = .ok (.goto 4, 3) := by decide +kernel
theorem d_Fr_missesSquare_40 : decode b_Fr_missesSquare 40 = .ok (.iconst 0, 1) := by decide +kernel
theorem d_Fr_missesSquare_41 : decode b_Fr_missesSquare 41 = .ok (.ireturn, 1) := by decide +kernel
theorem d_Fr_cellCount_0 : decode b_Fr_cellCount 0 = .ok (.aload_n 0, 1) := by decide +kernel
theorem d_Fr_cellCount_1 : decode b_Fr_cellCount 1 = .ok (.getfield 16, 3) := by decide +kernel
theorem d_Fr_cellCount_4 : decode b_Fr_cellCount 4 = .ok (.aload_n 0, 1) := by decide +kernel
theorem d_Fr_cellCount_5 : decode b_Fr_cellCount 5 = .ok (.getfield 7, 3) := by decide +kernel
theorem d_Fr_cellCount_8 : decode b_Fr_cellCount 8 = .ok (.isub, 1) := by decide +kernel
theorem d_Fr_cellCount_9 : decode b_Fr_cellCount 9 = .ok (.iconst 1, 1) := by decide +kernel
theorem d_Fr_cellCount_10 : decode b_Fr_cellCount 10 = .ok (.iadd, 1) := by decide +kernel
theorem d_Fr_cellCount_11 : decode b_Fr_cellCount 11 = .ok (.aload_n 0, 1) := by decide +kernel
theorem d_Fr_cellCount_12 : decode b_Fr_cellCount 12 = .ok (.getfield 19, 3) := by decide +kernel
theorem d_Fr_cellCount_15 : decode b_Fr_cellCount 15 = .ok (.aload_n 0, 1) := by decide +kernel
theorem d_Fr_cellCount_16 : decode b_Fr_cellCount 16 = .ok (.getfield 13, 3) := by decide +kernel
theorem d_Fr_cellCount_19 : decode b_Fr_cellCount 19 = .ok (.isub, 1) := by decide +kernel
theorem d_Fr_cellCount_20 : decode b_Fr_cellCount 20 = .ok (.iconst 1, 1) := by decide +kernel
theorem d_Fr_cellCount_21 : decode b_Fr_cellCount 21 = .ok (.iadd, 1) := by decide +kernel
theorem d_Fr_cellCount_22 : decode b_Fr_cellCount 22 = .ok (.imul, 1) := by decide +kernel
theorem d_Fr_cellCount_23 : decode b_Fr_cellCount 23 = .ok (.ireturn, 1) := by decide +kernel
theorem d_Row_init_0 : decode b_Row_init 0 = .ok (.aload_n 0, 1) := by decide +kernel
theorem d_Row_init_1 : decode b_Row_init 1 = .ok (.invokespecial 3, 3) := by decide +kernel
theorem d_Row_init_4 : decode b_Row_init 4 = .ok (.aload_n 0, 1) := by decide +kernel
theorem d_Row_init_5 : decode b_Row_init 5 = .ok (.sipush 500, 3) := by decide +kernel
theorem d_Row_init_8 : decode b_Row_init 8 = .ok (.newarray .int, 2) := by decide +kernel
theorem d_Row_init_10 : decode b_Row_init 10 = .ok (.putfield 9, 3) := by decide +kernel
theorem d_Row_init_13 : decode b_Row_init 13 = .ok (.aload_n 0, 1) := by decide +kernel
theorem d_Row_init_14 : decode b_Row_init 14 = .ok (.sipush 500, 3) := by decide +kernel
theorem d_Row_init_17 : decode b_Row_init 17 = .ok (.newarray .int, 2) := by decide +kernel
theorem d_Row_init_19 : decode b_Row_init 19 = .ok (.putfield 15, 3) := by decide +kernel
theorem d_Row_init_22 : decode b_Row_init 22 = .ok (.aload_n 0, 1) := by decide +kernel
theorem d_Row_init_23 : decode b_Row_init 23 = .ok (.sipush 500, 3) := by decide +kernel
theorem d_Row_init_26 : decode b_Row_init 26 = .ok (.newarray .int, 2) := by decide +kernel
theorem d_Row_init_28 : decode b_Row_init 28 = .ok (.putfield 18, 3) := by decide +kernel
theorem d_Row_init_31 : decode b_Row_init 31 = .ok (.aload_n 0, 1) := by decide +kernel
theorem d_Row_init_32 : decode b_Row_init 32 = .ok (.iconst 0, 1) := by decide +kernel
theorem d_Row_init_33 : decode b_Row_init 33 = .ok (.putfield 21, 3) := by decide +kernel
theorem d_Row_init_36 : decode b_Row_init 36 = .ok (.return_, 1) := by decide +kernel
theorem d_Row_clear_0 : decode b_Row_clear 0 = .ok (.aload_n 0, 1) := by decide +kernel
theorem d_Row_clear_1 : decode b_Row_clear 1 = .ok (.iconst 0, 1) := by decide +kernel
theorem d_Row_clear_2 : decode b_Row_clear 2 = .ok (.putfield 21, 3) := by decide +kernel
theorem d_Row_clear_5 : decode b_Row_clear 5 = .ok (.return_, 1) := by decide +kernel
theorem d_Row_isFull_0 : decode b_Row_isFull 0 = .ok (.aload_n 0, 1) := by decide +kernel
theorem d_Row_isFull_1 : decode b_Row_isFull 1 = .ok (.getfield 21, 3) := by decide +kernel
theorem d_Row_isFull_4 : decode b_Row_isFull 4 = .ok (.sipush 500, 3) := by decide +kernel
theorem d_Row_isFull_7 : decode b_Row_isFull 7 = .ok (.if_icmp .lt 7, 3) := by decide +kernel
theorem d_Row_isFull_10 : decode b_Row_isFull 10 = .ok (.iconst 1, 1) := by decide +kernel
theorem d_Row_isFull_11 : decode b_Row_isFull 11 = .ok (.goto 4, 3) := by decide +kernel
theorem d_Row_isFull_14 : decode b_Row_isFull 14 = .ok (.iconst 0, 1) := by decide +kernel
theorem d_Row_isFull_15 : decode b_Row_isFull 15 = .ok (.ireturn, 1) := by decide +kernel
theorem d_Row_placeOf_0 : decode b_Row_placeOf 0 = .ok (.iconst 0, 1) := by decide +kernel
theorem d_Row_placeOf_1 : decode b_Row_placeOf 1 = .ok (.istore_n 2, 1) := by decide +kernel
theorem d_Row_placeOf_2 : decode b_Row_placeOf 2 = .ok (.iload_n 2, 1) := by decide +kernel
theorem d_Row_placeOf_3 : decode b_Row_placeOf 3 = .ok (.aload_n 0, 1) := by decide +kernel
theorem d_Row_placeOf_4 : decode b_Row_placeOf 4 = .ok (.getfield 21, 3) := by decide +kernel
theorem d_Row_placeOf_7 : decode b_Row_placeOf 7 = .ok (.if_icmp .ge 19, 3) := by decide +kernel
theorem d_Row_placeOf_10 : decode b_Row_placeOf 10 = .ok (.aload_n 0, 1) := by decide +kernel
theorem d_Row_placeOf_11 : decode b_Row_placeOf 11 = .ok (.getfield 9, 3) := by decide +kernel
theorem d_Row_placeOf_14 : decode b_Row_placeOf 14 = .ok (.iload_n 2, 1) := by decide +kernel
theorem d_Row_placeOf_15 : decode b_Row_placeOf 15 = .ok (.iaload, 1) := by decide +kernel
theorem d_Row_placeOf_16 : decode b_Row_placeOf 16 = .ok (.iload_n 1, 1) := by decide +kernel
theorem d_Row_placeOf_17 : decode b_Row_placeOf 17 = .ok (.if_icmp .ge 9, 3) := by decide +kernel
theorem d_Row_placeOf_20 : decode b_Row_placeOf 20 = .ok (.iinc 2 1, 3) := by decide +kernel
theorem d_Row_placeOf_23 : decode b_Row_placeOf 23 = .ok (.goto (-21), 3) := by decide +kernel
theorem d_Row_placeOf_26 : decode b_Row_placeOf 26 = .ok (.iload_n 2, 1) := by decide +kernel
theorem d_Row_placeOf_27 : decode b_Row_placeOf 27 = .ok (.ireturn, 1) := by decide +kernel
theorem d_Row_isKeyAt_0 : decode b_Row_isKeyAt 0 = .ok (.iload_n 1, 1) := by decide +kernel
theorem d_Row_isKeyAt_1 : decode b_Row_isKeyAt 1 = .ok (.aload_n 0, 1) := by decide +kernel
theorem d_Row_isKeyAt_2 : decode b_Row_isKeyAt 2 = .ok (.getfield 21, 3) := by decide +kernel
theorem d_Row_isKeyAt_5 : decode b_Row_isKeyAt 5 = .ok (.if_icmp .ge 17, 3) := by decide +kernel
theorem d_Row_isKeyAt_8 : decode b_Row_isKeyAt 8 = .ok (.aload_n 0, 1) := by decide +kernel
theorem d_Row_isKeyAt_9 : decode b_Row_isKeyAt 9 = .ok (.getfield 9, 3) := by decide +kernel
theorem d_Row_isKeyAt_12 : decode b_Row_isKeyAt 12 = .ok (.iload_n 1, 1) := by decide +kernel
theorem d_Row_isKeyAt_13 : decode b_Row_isKeyAt 13 = .ok (.iaload, 1) := by decide +kernel
theorem d_Row_isKeyAt_14 : decode b_Row_isKeyAt 14 = .ok (.iload_n 2, 1) := by decide +kernel
theorem d_Row_isKeyAt_15 : decode b_Row_isKeyAt 15 = .ok (.if_icmp .ne 7, 3) := by decide +kernel
theorem d_Row_isKeyAt_18 : decode b_Row_isKeyAt 18 = .ok (.iconst 1, 1) := by decide +kernel
theorem d_Row_isKeyAt_19 : decode b_Row_isKeyAt 19 = .ok (.goto 4, 3) := by decide +kernel
theorem d_Row_isKeyAt_22 : decode b_Row_isKeyAt 22 = .ok (.iconst 0, 1) := by decide +kernel
theorem d_Row_isKeyAt_23 : decode b_Row_isKeyAt 23 = .ok (.ireturn, 1) := by decide +kernel
theorem d_Row_weightOf_0 : decode b_Row_weightOf 0 = .ok (.aload_n 0, 1) := by decide +kernel
theorem d_Row_weightOf_1 : decode b_Row_weightOf 1 = .ok (.iload_n 1, 1) := by decide +kernel
theorem d_Row_weightOf_2 : decode b_Row_weightOf 2 = .ok (.invokevirtual 25, 3) := by decide +kernel
theorem d_Row_weightOf_5 : decode b_Row_weightOf 5 = .ok (.istore_n 2, 1) := by decide +kernel
theorem d_Row_weightOf_6 : decode b_Row_weightOf 6 = .ok (.aload_n 0, 1) := by decide +kernel
theorem d_Row_weightOf_7 : decode b_Row_weightOf 7 = .ok (.iload_n 2, 1) := by decide +kernel
theorem d_Row_weightOf_8 : decode b_Row_weightOf 8 = .ok (.iload_n 1, 1) := by decide +kernel
theorem d_Row_weightOf_9 : decode b_Row_weightOf 9 = .ok (.invokevirtual 29, 3) := by decide +kernel
theorem d_Row_weightOf_12 : decode b_Row_weightOf 12 = .ok (.ifCond .eq 12, 3) := by decide +kernel
theorem d_Row_weightOf_15 : decode b_Row_weightOf 15 = .ok (.aload_n 0, 1) := by decide +kernel
theorem d_Row_weightOf_16 : decode b_Row_weightOf 16 = .ok (.getfield 18, 3) := by decide +kernel
theorem d_Row_weightOf_19 : decode b_Row_weightOf 19 = .ok (.iload_n 2, 1) := by decide +kernel
theorem d_Row_weightOf_20 : decode b_Row_weightOf 20 = .ok (.iaload, 1) := by decide +kernel
theorem d_Row_weightOf_21 : decode b_Row_weightOf 21 = .ok (.goto 4, 3) := by decide +kernel
theorem d_Row_weightOf_24 : decode b_Row_weightOf 24 = .ok (.iconst 0, 1) := by decide +kernel
theorem d_Row_weightOf_25 : decode b_Row_weightOf 25 = .ok (.ireturn, 1) := by decide +kernel
theorem d_Row_keep_0 : decode b_Row_keep 0 = .ok (.aload_n 0, 1) := by decide +kernel
theorem d_Row_keep_1 : decode b_Row_keep 1 = .ok (.iload_n 1, 1) := by decide +kernel
theorem d_Row_keep_2 : decode b_Row_keep 2 = .ok (.invokevirtual 25, 3) := by decide +kernel
theorem d_Row_keep_5 : decode b_Row_keep 5 = .ok (.istore 4, 2) := by decide +kernel
theorem d_Row_keep_7 : decode b_Row_keep 7 = .ok (.aload_n 0, 1) := by decide +kernel
theorem d_Row_keep_8 : decode b_Row_keep 8 = .ok (.iload 4, 2) := by decide +kernel
theorem d_Row_keep_10 : decode b_Row_keep 10 = .ok (.iload_n 1, 1) := by decide +kernel
theorem d_Row_keep_11 : decode b_Row_keep 11 = .ok (.invokevirtual 29, 3) := by decide +kernel
theorem d_Row_keep_14 : decode b_Row_keep 14 = .ok (.ifCond .ne 31, 3) := by decide +kernel
theorem d_Row_keep_17 : decode b_Row_keep 17 = .ok (.aload_n 0, 1) := by decide +kernel
theorem d_Row_keep_18 : decode b_Row_keep 18 = .ok (.invokevirtual 33, 3) := by decide +kernel
theorem d_Row_keep_21 : decode b_Row_keep 21 = .ok (.ifCond .eq 4, 3) := by decide +kernel
theorem d_Row_keep_24 : decode b_Row_keep 24 = .ok (.return_, 1) := by decide +kernel
theorem d_Row_keep_25 : decode b_Row_keep 25 = .ok (.aload_n 0, 1) := by decide +kernel
theorem d_Row_keep_26 : decode b_Row_keep 26 = .ok (.iload 4, 2) := by decide +kernel
theorem d_Row_keep_28 : decode b_Row_keep 28 = .ok (.iload 4, 2) := by decide +kernel
theorem d_Row_keep_30 : decode b_Row_keep 30 = .ok (.iconst 1, 1) := by decide +kernel
theorem d_Row_keep_31 : decode b_Row_keep 31 = .ok (.iadd, 1) := by decide +kernel
theorem d_Row_keep_32 : decode b_Row_keep 32 = .ok (.invokevirtual 37, 3) := by decide +kernel
theorem d_Row_keep_35 : decode b_Row_keep 35 = .ok (.aload_n 0, 1) := by decide +kernel
theorem d_Row_keep_36 : decode b_Row_keep 36 = .ok (.dup, 1) := by decide +kernel
theorem d_Row_keep_37 : decode b_Row_keep 37 = .ok (.getfield 21, 3) := by decide +kernel
theorem d_Row_keep_40 : decode b_Row_keep 40 = .ok (.iconst 1, 1) := by decide +kernel
theorem d_Row_keep_41 : decode b_Row_keep 41 = .ok (.iadd, 1) := by decide +kernel
theorem d_Row_keep_42 : decode b_Row_keep 42 = .ok (.putfield 21, 3) := by decide +kernel
theorem d_Row_keep_45 : decode b_Row_keep 45 = .ok (.aload_n 0, 1) := by decide +kernel
theorem d_Row_keep_46 : decode b_Row_keep 46 = .ok (.getfield 9, 3) := by decide +kernel
theorem d_Row_keep_49 : decode b_Row_keep 49 = .ok (.iload 4, 2) := by decide +kernel
theorem d_Row_keep_51 : decode b_Row_keep 51 = .ok (.iload_n 1, 1) := by decide +kernel
theorem d_Row_keep_52 : decode b_Row_keep 52 = .ok (.iastore, 1) := by decide +kernel
theorem d_Row_keep_53 : decode b_Row_keep 53 = .ok (.aload_n 0, 1) := by decide +kernel
theorem d_Row_keep_54 : decode b_Row_keep 54 = .ok (.getfield 15, 3) := by decide +kernel
theorem d_Row_keep_57 : decode b_Row_keep 57 = .ok (.iload 4, 2) := by decide +kernel
theorem d_Row_keep_59 : decode b_Row_keep 59 = .ok (.iload_n 2, 1) := by decide +kernel
theorem d_Row_keep_60 : decode b_Row_keep 60 = .ok (.iastore, 1) := by decide +kernel
theorem d_Row_keep_61 : decode b_Row_keep 61 = .ok (.aload_n 0, 1) := by decide +kernel
theorem d_Row_keep_62 : decode b_Row_keep 62 = .ok (.getfield 18, 3) := by decide +kernel
theorem d_Row_keep_65 : decode b_Row_keep 65 = .ok (.iload 4, 2) := by decide +kernel
theorem d_Row_keep_67 : decode b_Row_keep 67 = .ok (.iload_n 3, 1) := by decide +kernel
theorem d_Row_keep_68 : decode b_Row_keep 68 = .ok (.iastore, 1) := by decide +kernel
theorem d_Row_keep_69 : decode b_Row_keep 69 = .ok (.return_, 1) := by decide +kernel
theorem d_Row_drop_0 : decode b_Row_drop 0 = .ok (.aload_n 0, 1) := by decide +kernel
theorem d_Row_drop_1 : decode b_Row_drop 1 = .ok (.iload_n 1, 1) := by decide +kernel
theorem d_Row_drop_2 : decode b_Row_drop 2 = .ok (.invokevirtual 25, 3) := by decide +kernel
theorem d_Row_drop_5 : decode b_Row_drop 5 = .ok (.istore_n 2, 1) := by decide +kernel
theorem d_Row_drop_6 : decode b_Row_drop 6 = .ok (.aload_n 0, 1) := by decide +kernel
theorem d_Row_drop_7 : decode b_Row_drop 7 = .ok (.iload_n 2, 1) := by decide +kernel
theorem d_Row_drop_8 : decode b_Row_drop 8 = .ok (.iload_n 1, 1) := by decide +kernel
theorem d_Row_drop_9 : decode b_Row_drop 9 = .ok (.invokevirtual 29, 3) := by decide +kernel
theorem d_Row_drop_12 : decode b_Row_drop 12 = .ok (.ifCond .eq 21, 3) := by decide +kernel
theorem d_Row_drop_15 : decode b_Row_drop 15 = .ok (.aload_n 0, 1) := by decide +kernel
theorem d_Row_drop_16 : decode b_Row_drop 16 = .ok (.iload_n 2, 1) := by decide +kernel
theorem d_Row_drop_17 : decode b_Row_drop 17 = .ok (.iconst 1, 1) := by decide +kernel
theorem d_Row_drop_18 : decode b_Row_drop 18 = .ok (.iadd, 1) := by decide +kernel
theorem d_Row_drop_19 : decode b_Row_drop 19 = .ok (.iload_n 2, 1) := by decide +kernel
theorem d_Row_drop_20 : decode b_Row_drop 20 = .ok (.invokevirtual 37, 3) := by decide +kernel
theorem d_Row_drop_23 : decode b_Row_drop 23 = .ok (.aload_n 0, 1) := by decide +kernel
theorem d_Row_drop_24 : decode b_Row_drop 24 = .ok (.dup, 1) := by decide +kernel
theorem d_Row_drop_25 : decode b_Row_drop 25 = .ok (.getfield 21, 3) := by decide +kernel
theorem d_Row_drop_28 : decode b_Row_drop 28 = .ok (.iconst 1, 1) := by decide +kernel
theorem d_Row_drop_29 : decode b_Row_drop 29 = .ok (.isub, 1) := by decide +kernel
theorem d_Row_drop_30 : decode b_Row_drop 30 = .ok (.putfield 21, 3) := by decide +kernel
theorem d_Row_drop_33 : decode b_Row_drop 33 = .ok (.return_, 1) := by decide +kernel
theorem d_Row_moveTail_0 : decode b_Row_moveTail 0 = .ok (.aload_n 0, 1) := by decide +kernel
theorem d_Row_moveTail_1 : decode b_Row_moveTail 1 = .ok (.getfield 21, 3) := by decide +kernel
theorem d_Row_moveTail_4 : decode b_Row_moveTail 4 = .ok (.iload_n 1, 1) := by decide +kernel
theorem d_Row_moveTail_5 : decode b_Row_moveTail 5 = .ok (.isub, 1) := by decide +kernel
theorem d_Row_moveTail_6 : decode b_Row_moveTail 6 = .ok (.istore_n 3, 1) := by decide +kernel
theorem d_Row_moveTail_7 : decode b_Row_moveTail 7 = .ok (.aload_n 0, 1) := by decide +kernel
theorem d_Row_moveTail_8 : decode b_Row_moveTail 8 = .ok (.getfield 9, 3) := by decide +kernel
theorem d_Row_moveTail_11 : decode b_Row_moveTail 11 = .ok (.iload_n 1, 1) := by decide +kernel
theorem d_Row_moveTail_12 : decode b_Row_moveTail 12 = .ok (.aload_n 0, 1) := by decide +kernel
theorem d_Row_moveTail_13 : decode b_Row_moveTail 13 = .ok (.getfield 9, 3) := by decide +kernel
theorem d_Row_moveTail_16 : decode b_Row_moveTail 16 = .ok (.iload_n 2, 1) := by decide +kernel
theorem d_Row_moveTail_17 : decode b_Row_moveTail 17 = .ok (.iload_n 3, 1) := by decide +kernel
theorem d_Row_moveTail_18 : decode b_Row_moveTail 18 = .ok (.invokestatic 41, 3) := by decide +kernel
theorem d_Row_moveTail_21 : decode b_Row_moveTail 21 = .ok (.aload_n 0, 1) := by decide +kernel
theorem d_Row_moveTail_22 : decode b_Row_moveTail 22 = .ok (.getfield 15, 3) := by decide +kernel
theorem d_Row_moveTail_25 : decode b_Row_moveTail 25 = .ok (.iload_n 1, 1) := by decide +kernel
theorem d_Row_moveTail_26 : decode b_Row_moveTail 26 = .ok (.aload_n 0, 1) := by decide +kernel
theorem d_Row_moveTail_27 : decode b_Row_moveTail 27 = .ok (.getfield 15, 3) := by decide +kernel
theorem d_Row_moveTail_30 : decode b_Row_moveTail 30 = .ok (.iload_n 2, 1) := by decide +kernel
theorem d_Row_moveTail_31 : decode b_Row_moveTail 31 = .ok (.iload_n 3, 1) := by decide +kernel
theorem d_Row_moveTail_32 : decode b_Row_moveTail 32 = .ok (.invokestatic 41, 3) := by decide +kernel
theorem d_Row_moveTail_35 : decode b_Row_moveTail 35 = .ok (.aload_n 0, 1) := by decide +kernel
theorem d_Row_moveTail_36 : decode b_Row_moveTail 36 = .ok (.getfield 18, 3) := by decide +kernel
theorem d_Row_moveTail_39 : decode b_Row_moveTail 39 = .ok (.iload_n 1, 1) := by decide +kernel
theorem d_Row_moveTail_40 : decode b_Row_moveTail 40 = .ok (.aload_n 0, 1) := by decide +kernel
theorem d_Row_moveTail_41 : decode b_Row_moveTail 41 = .ok (.getfield 18, 3) := by decide +kernel
theorem d_Row_moveTail_44 : decode b_Row_moveTail 44 = .ok (.iload_n 2, 1) := by decide +kernel
theorem d_Row_moveTail_45 : decode b_Row_moveTail 45 = .ok (.iload_n 3, 1) := by decide +kernel
theorem d_Row_moveTail_46 : decode b_Row_moveTail 46 = .ok (.invokestatic 41, 3) := by decide +kernel
theorem d_Row_moveTail_49 : decode b_Row_moveTail 49 = .ok (.return_, 1) := by decide +kernel
theorem d_RW_init_0 : decode b_RW_init 0 = .ok (.aload_n 0, 1) := by decide +kernel
theorem d_RW_init_1 : decode b_RW_init 1 = .ok (.invokespecial 3, 3) := by decide +kernel
theorem d_RW_init_4 : decode b_RW_init 4 = .ok (.aload_n 0, 1) := by decide +kernel
theorem d_RW_init_5 : decode b_RW_init 5 = .ok (.iconst 0, 1) := by decide +kernel
theorem d_RW_init_6 : decode b_RW_init 6 = .ok (.putfield 9, 3) := by decide +kernel
theorem d_RW_init_9 : decode b_RW_init 9 = .ok (.aload_n 0, 1) := by decide +kernel
theorem d_RW_init_10 : decode b_RW_init 10 = .ok (.iconst (-1), 1) := by decide +kernel
theorem d_RW_init_11 : decode b_RW_init 11 = .ok (.putfield 15, 3) := by decide +kernel
theorem d_RW_init_14 : decode b_RW_init 14 = .ok (.aload_n 0, 1) := by decide +kernel
theorem d_RW_init_15 : decode b_RW_init 15 = .ok (.iconst (-1), 1) := by decide +kernel
theorem d_RW_init_16 : decode b_RW_init 16 = .ok (.putfield 18, 3) := by decide +kernel
theorem d_RW_init_19 : decode b_RW_init 19 = .ok (.aload_n 0, 1) := by decide +kernel
theorem d_RW_init_20 : decode b_RW_init 20 = .ok (.iconst (-1), 1) := by decide +kernel
theorem d_RW_init_21 : decode b_RW_init 21 = .ok (.putfield 21, 3) := by decide +kernel
theorem d_RW_init_24 : decode b_RW_init 24 = .ok (.aload_n 0, 1) := by decide +kernel
theorem d_RW_init_25 : decode b_RW_init 25 = .ok (.aload_n 1, 1) := by decide +kernel
theorem d_RW_init_26 : decode b_RW_init 26 = .ok (.putfield 24, 3) := by decide +kernel
theorem d_RW_init_29 : decode b_RW_init 29 = .ok (.aload_n 0, 1) := by decide +kernel
theorem d_RW_init_30 : decode b_RW_init 30 = .ok (.iload_n 2, 1) := by decide +kernel
theorem d_RW_init_31 : decode b_RW_init 31 = .ok (.putfield 28, 3) := by decide +kernel
theorem d_RW_init_34 : decode b_RW_init 34 = .ok (.return_, 1) := by decide +kernel
theorem d_RW_visit_0 : decode b_RW_visit 0 = .ok (.iload_n 1, 1) := by decide +kernel
theorem d_RW_visit_1 : decode b_RW_visit 1 = .ok (.ifCond .lt 19, 3) := by decide +kernel
theorem d_RW_visit_4 : decode b_RW_visit 4 = .ok (.aload_n 0, 1) := by decide +kernel
theorem d_RW_visit_5 : decode b_RW_visit 5 = .ok (.getfield 24, 3) := by decide +kernel
theorem d_RW_visit_8 : decode b_RW_visit 8 = .ok (.iload_n 3, 1) := by decide +kernel
theorem d_RW_visit_9 : decode b_RW_visit 9 = .ok (.iload 4, 2) := by decide +kernel
theorem d_RW_visit_11 : decode b_RW_visit 11 = .ok (.iconst 1, 1) := by decide +kernel
theorem d_RW_visit_12 : decode b_RW_visit 12 = .ok (.iload_n 1, 1) := by decide +kernel
theorem d_RW_visit_13 : decode b_RW_visit 13 = .ok (.ishl, 1) := by decide +kernel
theorem d_RW_visit_14 : decode b_RW_visit 14 = .ok (.invokevirtual 31, 3) := by decide +kernel
theorem d_RW_visit_17 : decode b_RW_visit 17 = .ok (.ifCond .eq 4, 3) := by decide +kernel
theorem d_RW_visit_20 : decode b_RW_visit 20 = .ok (.return_, 1) := by decide +kernel
theorem d_RW_visit_21 : decode b_RW_visit 21 = .ok (.aload_n 0, 1) := by decide +kernel
theorem d_RW_visit_22 : decode b_RW_visit 22 = .ok (.getfield 24, 3) := by decide +kernel
theorem d_RW_visit_25 : decode b_RW_visit 25 = .ok (.iload_n 3, 1) := by decide +kernel
theorem d_RW_visit_26 : decode b_RW_visit 26 = .ok (.iload 4, 2) := by decide +kernel
theorem d_RW_visit_28 : decode b_RW_visit 28 = .ok (.iconst 1, 1) := by decide +kernel
theorem d_RW_visit_29 : decode b_RW_visit 29 = .ok (.iload_n 1, 1) := by decide +kernel
theorem d_RW_visit_30 : decode b_RW_visit 30 = .ok (.ishl, 1) := by decide +kernel
theorem d_RW_visit_31 : decode b_RW_visit 31 = .ok (.invokevirtual 37, 3) := by decide +kernel
theorem d_RW_visit_34 : decode b_RW_visit 34 = .ok (.ifCond .eq 20, 3) := by decide +kernel
theorem d_RW_visit_37 : decode b_RW_visit 37 = .ok (.aload_n 0, 1) := by decide +kernel
theorem d_RW_visit_38 : decode b_RW_visit 38 = .ok (.iload 5, 2) := by decide +kernel
theorem d_RW_visit_40 : decode b_RW_visit 40 = .ok (.iload 5, 2) := by decide +kernel
theorem d_RW_visit_42 : decode b_RW_visit 42 = .ok (.iconst 1, 1) := by decide +kernel
theorem d_RW_visit_43 : decode b_RW_visit 43 = .ok (.iconst 2, 1) := by decide +kernel
theorem d_RW_visit_44 : decode b_RW_visit 44 = .ok (.iload_n 1, 1) := by decide +kernel
theorem d_RW_visit_45 : decode b_RW_visit 45 = .ok (.imul, 1) := by decide +kernel
theorem d_RW_visit_46 : decode b_RW_visit 46 = .ok (.ishl, 1) := by decide +kernel
theorem d_RW_visit_47 : decode b_RW_visit 47 = .ok (.iadd, 1) := by decide +kernel
theorem d_RW_visit_48 : decode b_RW_visit 48 = .ok (.iconst 1, 1) := by decide +kernel
theorem d_RW_visit_49 : decode b_RW_visit 49 = .ok (.isub, 1) := by decide +kernel
theorem d_RW_visit_50 : decode b_RW_visit 50 = .ok (.invokevirtual 40, 3) := by decide +kernel
theorem d_RW_visit_53 : decode b_RW_visit 53 = .ok (.return_, 1) := by decide +kernel
theorem d_RW_visit_54 : decode b_RW_visit 54 = .ok (.iload_n 1, 1) := by decide +kernel
theorem d_RW_visit_55 : decode b_RW_visit 55 = .ok (.iconst 1, 1) := by decide +kernel
theorem d_RW_visit_56 : decode b_RW_visit 56 = .ok (.isub, 1) := by decide +kernel
theorem d_RW_visit_57 : decode b_RW_visit 57 = .ok (.istore 6, 2) := by decide +kernel
theorem d_RW_visit_59 : decode b_RW_visit 59 = .ok (.iconst 0, 1) := by decide +kernel
theorem d_RW_visit_60 : decode b_RW_visit 60 = .ok (.istore 7, 2) := by decide +kernel
theorem d_RW_visit_62 : decode b_RW_visit 62 = .ok (.iload 7, 2) := by decide +kernel
theorem d_RW_visit_64 : decode b_RW_visit 64 = .ok (.iconst 4, 1) := by decide +kernel
theorem d_RW_visit_65 : decode b_RW_visit 65 = .ok (.if_icmp .ge 66, 3) := by decide +kernel
theorem d_RW_visit_68 : decode b_RW_visit 68 = .ok (.getstatic 44, 3) := by decide +kernel
theorem d_RW_visit_71 : decode b_RW_visit 71 = .ok (.iconst 4, 1) := by decide +kernel
theorem d_RW_visit_72 : decode b_RW_visit 72 = .ok (.iload_n 2, 1) := by decide +kernel
theorem d_RW_visit_73 : decode b_RW_visit 73 = .ok (.imul, 1) := by decide +kernel
theorem d_RW_visit_74 : decode b_RW_visit 74 = .ok (.iload 7, 2) := by decide +kernel
theorem d_RW_visit_76 : decode b_RW_visit 76 = .ok (.iadd, 1) := by decide +kernel
theorem d_RW_visit_77 : decode b_RW_visit 77 = .ok (.iaload, 1) := by decide +kernel
theorem d_RW_visit_78 : decode b_RW_visit 78 = .ok (.istore 8, 2) := by decide +kernel
theorem d_RW_visit_80 : decode b_RW_visit 80 = .ok (.aload_n 0, 1) := by decide +kernel
theorem d_RW_visit_81 : decode b_RW_visit 81 = .ok (.iload 6, 2) := by decide +kernel
theorem d_RW_visit_83 : decode b_RW_visit 83 = .ok (.getstatic 48, 3) := by decide +kernel
theorem d_RW_visit_86 : decode b_RW_visit 86 = .ok (.iconst 4, 1) := by decide +kernel
theorem d_RW_visit_87 : decode b_RW_visit 87 = .ok (.iload_n 2, 1) := by decide +kernel
theorem d_RW_visit_88 : decode b_RW_visit 88 = .ok (.imul, 1) := by decide +kernel
theorem d_RW_visit_89 : decode b_RW_visit 89 = .ok (.iload 7, 2) := by decide +kernel
theorem d_RW_visit_91 : decode b_RW_visit 91 = .ok (.iadd, 1) := by decide +kernel
theorem d_RW_visit_92 : decode b_RW_visit 92 = .ok (.iaload, 1) := by decide +kernel
theorem d_RW_visit_93 : decode b_RW_visit 93 = .ok (.iload_n 3, 1) := by decide +kernel
theorem d_RW_visit_94 : decode b_RW_visit 94 = .ok (.iload 8, 2) := by decide +kernel
theorem d_RW_visit_96 : decode b_RW_visit 96 = .ok (.iconst 1, 1) := by decide +kernel
theorem d_RW_visit_97 : decode b_RW_visit 97 = .ok (.ishr, 1) := by decide +kernel
theorem d_RW_visit_98 : decode b_RW_visit 98 = .ok (.iload 6, 2) := by decide +kernel
theorem d_RW_visit_100 : decode b_RW_visit 100 = .ok (.ishl, 1) := by decide +kernel
theorem d_RW_visit_101 : decode b_RW_visit 101 = .ok (.iadd, 1) := by decide +kernel
theorem d_RW_visit_102 : decode b_RW_visit 102 = .ok (.iload 4, 2) := by decide +kernel
theorem d_RW_visit_104 : decode b_RW_visit 104 = .ok (.iload 8, 2) := by decide +kernel
theorem d_RW_visit_106 : decode b_RW_visit 106 = .ok (.iconst 1, 1) := by decide +kernel
theorem d_RW_visit_107 : decode b_RW_visit 107 = .ok (.iand, 1) := by decide +kernel
theorem d_RW_visit_108 : decode b_RW_visit 108 = .ok (.iload 6, 2) := by decide +kernel
theorem d_RW_visit_110 : decode b_RW_visit 110 = .ok (.ishl, 1) := by decide +kernel
theorem d_RW_visit_111 : decode b_RW_visit 111 = .ok (.iadd, 1) := by decide +kernel
theorem d_RW_visit_112 : decode b_RW_visit 112 = .ok (.iload 5, 2) := by decide +kernel
theorem d_RW_visit_114 : decode b_RW_visit 114 = .ok (.iload 7, 2) := by decide +kernel
theorem d_RW_visit_116 : decode b_RW_visit 116 = .ok (.iconst 2, 1) := by decide +kernel
theorem d_RW_visit_117 : decode b_RW_visit 117 = .ok (.iload 6, 2) := by decide +kernel
theorem d_RW_visit_119 : decode b_RW_visit 119 = .ok (.imul, 1) := by decide +kernel
theorem d_RW_visit_120 : decode b_RW_visit 120 = .ok (.ishl, 1) := by decide +kernel
theorem d_RW_visit_121 : decode b_RW_visit 121 = .ok (.iadd, 1) := by decide +kernel
theorem d_RW_visit_122 : decode b_RW_visit 122 = .ok (.invokestatic 51, 3) := by decide +kernel
theorem d_RW_visit_125 : decode b_RW_visit 125 = .ok (.iinc 7 1, 3) := by decide +kernel
theorem d_RW_visit_128 : decode b_RW_visit 128 = .ok (.goto (-66), 3) := by decide +kernel
theorem d_RW_visit_131 : decode b_RW_visit 131 = .ok (.return_, 1) := by decide +kernel
theorem d_RW_join_0 : decode b_RW_join 0 = .ok (.aload_n 0, 1) := by decide +kernel
theorem d_RW_join_1 : decode b_RW_join 1 = .ok (.getfield 9, 3) := by decide +kernel
theorem d_RW_join_4 : decode b_RW_join 4 = .ok (.ifCond .eq 13, 3) := by decide +kernel
theorem d_RW_join_7 : decode b_RW_join 7 = .ok (.iload_n 1, 1) := by decide +kernel
theorem d_RW_join_8 : decode b_RW_join 8 = .ok (.aload_n 0, 1) := by decide +kernel
theorem d_RW_join_9 : decode b_RW_join 9 = .ok (.getfield 15, 3) := by decide +kernel
theorem d_RW_join_12 : decode b_RW_join 12 = .ok (.iconst 1, 1) := by decide +kernel
theorem d_RW_join_13 : decode b_RW_join 13 = .ok (.iadd, 1) := by decide +kernel
theorem d_RW_join_14 : decode b_RW_join 14 = .ok (.if_icmp .eq 31, 3) := by decide +kernel
theorem d_RW_join_17 : decode b_RW_join 17 = .ok (.aload_n 0, 1) := by decide +kernel
theorem d_RW_join_18 : decode b_RW_join 18 = .ok (.dup, 1) := by decide +kernel
theorem d_RW_join_19 : decode b_RW_join 19 = .ok (.getfield 9, 3) := by decide +kernel
theorem d_RW_join_22 : decode b_RW_join 22 = .ok (.iconst 1, 1) := by decide +kernel
theorem d_RW_join_23 : decode b_RW_join 23 = .ok (.iadd, 1) := by decide +kernel
theorem d_RW_join_24 : decode b_RW_join 24 = .ok (.putfield 9, 3) := by decide +kernel
theorem d_RW_join_27 : decode b_RW_join 27 = .ok (.aload_n 0, 1) := by decide +kernel
theorem d_RW_join_28 : decode b_RW_join 28 = .ok (.getfield 9, 3) := by decide +kernel
theorem d_RW_join_31 : decode b_RW_join 31 = .ok (.iconst 1, 1) := by decide +kernel
theorem d_RW_join_32 : decode b_RW_join 32 = .ok (.isub, 1) := by decide +kernel
theorem d_RW_join_33 : decode b_RW_join 33 = .ok (.aload_n 0, 1) := by decide +kernel
theorem d_RW_join_34 : decode b_RW_join 34 = .ok (.getfield 28, 3) := by decide +kernel
theorem d_RW_join_37 : decode b_RW_join 37 = .ok (.if_icmp .ne 8, 3) := by decide +kernel
theorem d_RW_join_40 : decode b_RW_join 40 = .ok (.aload_n 0, 1) := by decide +kernel
theorem d_RW_join_41 : decode b_RW_join 41 = .ok (.iload_n 1, 1) := by decide +kernel
theorem d_RW_join_42 : decode b_RW_join 42 = .ok (.putfield 18, 3) := by decide +kernel
theorem d_RW_join_45 : decode b_RW_join 45 = .ok (.aload_n 0, 1) := by decide +kernel
theorem d_RW_join_46 : decode b_RW_join 46 = .ok (.getfield 9, 3) := by decide +kernel
theorem d_RW_join_49 : decode b_RW_join 49 = .ok (.iconst 1, 1) := by decide +kernel
theorem d_RW_join_50 : decode b_RW_join 50 = .ok (.isub, 1) := by decide +kernel
theorem d_RW_join_51 : decode b_RW_join 51 = .ok (.aload_n 0, 1) := by decide +kernel
theorem d_RW_join_52 : decode b_RW_join 52 = .ok (.getfield 28, 3) := by decide +kernel
theorem d_RW_join_55 : decode b_RW_join 55 = .ok (.if_icmp .ne 8, 3) := by decide +kernel
theorem d_RW_join_58 : decode b_RW_join 58 = .ok (.aload_n 0, 1) := by decide +kernel
theorem d_RW_join_59 : decode b_RW_join 59 = .ok (.iload_n 2, 1) := by decide +kernel
theorem d_RW_join_60 : decode b_RW_join 60 = .ok (.putfield 21, 3) := by decide +kernel
theorem d_RW_join_63 : decode b_RW_join 63 = .ok (.aload_n 0, 1) := by decide +kernel
theorem d_RW_join_64 : decode b_RW_join 64 = .ok (.iload_n 2, 1) := by decide +kernel
theorem d_RW_join_65 : decode b_RW_join 65 = .ok (.putfield 15, 3) := by decide +kernel
theorem d_RW_join_68 : decode b_RW_join 68 = .ok (.return_, 1) := by decide +kernel
end
section
/-! rows over the kit's: numbers as naturals; contracts of methods that only read (MetR, MetL), of those that write (MetW, MetV), and their calls -/
/-- what one run of the law fixes: the classes' numbers and slots, the class of int arrays, the three static tables' cells -/
abbrev gG : Type := va_G × ClassId × Nat × Nat × Nat
def kx (G : gG) (U : State) : Prop := va_K G.1 cls [(G.2.1, .int)] U ∧ ∀ w ∈ nws, va_Nw w U
def sx1 (n : String) (t : Nat) (f : Nat → Nat) (A : Nat → Prop) (U : State) (H : Heap) : Prop := va_Z R_CI n "[I" (.ref t) A U H ∧ va_T .int t 20 (fun j => .int (nI (f j))) A U H
def sx (G : gG) (A : Nat → Prop) (U : State) (H : Heap) : Prop := sx1 "STEP_OF_QUARTER" G.2.2.1 tSQ A U H ∧ sx1 "QUARTER_OF_STEP" G.2.2.2.1 tQS A U H ∧ sx1 "STATE_AFTER_STEP" G.2.2.2.2 tSS A U H
theorem sx.moved {G : gG} {A : Nat → Prop} {u U : State} {H : Heap} (hvm : u.vm.Alike U.vm) (h : sx G A u H) : sx G A U H := ⟨⟨h.1.1.moved hvm, h.1.2.moved hvm⟩, ⟨h.2.1.1.moved hvm, h.2.1.2.moved hvm⟩, ⟨h.2.2.1.moved hvm, h.2.2.2.moved hvm⟩⟩
theorem sx.kept {G : gG} {A : Nat → Prop} {U : State} {H H1 : Heap} (h : sx G A U H) (hq : ∀ a : Nat, a < H.size → ¬ A a → H1[a]? = H[a]?) : sx G A U H1 := ⟨⟨h.1.1.kept hq, h.1.2.kept hq⟩, ⟨h.2.1.1.kept hq, h.2.1.2.kept hq⟩, ⟨h.2.2.1.kept hq, h.2.2.2.kept hq⟩⟩
theorem sx.narrow {G : gG} {A B : Nat → Prop} {U : State} {H : Heap} (h : sx G A U H) (hAB : ∀ q, B q → A q) : sx G B U H := ⟨⟨h.1.1.narrow hAB, h.1.2.narrow hAB⟩, ⟨h.2.1.1.narrow hAB, h.2.1.2.narrow hAB⟩, ⟨h.2.2.1.narrow hAB, h.2.2.2.narrow hAB⟩⟩
theorem kx.blind {G : gG} {U : State} (h : kx G U) (g : JFrame) (mk : MethodId) (a : Array Value) : kx G (U.calling g mk a) := ⟨va_K.moved (u := U) (U := U.calling g mk a) (Vm.Alike.refl U.vm) h.1, fun w hw => va_Nw.same (nws_tab w hw) (u := U) (U := U.calling g mk a) rfl (h.2 w hw)⟩
theorem kx.warm {G : gG} {s U : State} (hW : s.WarmedH U.vm) (h : kx G s) : kx G U := ⟨va_K.moved hW.alike h.1, fun w hw => nws_warm hW w hw (h.2 w hw)⟩
theorem sx.blind {G : gG} {A : Nat → Prop} {U : State} {H : Heap} (h : sx G A U H) (g : JFrame) (mk : MethodId) (a : Array Value) : sx G A (U.calling g mk a) H := sx.moved (u := U) (U := U.calling g mk a) (Vm.Alike.refl U.vm) h
/-- a reading method's start -/
abbrev roP (G : gG) (wc : va_W) : State → Prop := fun U => va_P G.1 cls wc U.heap ∧ kx G U ∧ sx G (fun _ => False) U U.heap
theorem roP.blind {G : gG} {wc : va_W} {av : List Value} : FrameBlind (va_Pc av (roP G wc)) := fun a U g mk q => ⟨q.1, q.2.1, q.2.2.1.blind g mk a, q.2.2.2.blind g mk a⟩
theorem roP.of {G : gG} {wc ws : va_W} {H : Heap} {s : State} {A : Nat → Prop} (hP : va_P G.1 cls ws H) (hk : kx G s) (hs : sx G A s H) (is : List Nat) (his : is.filterMap (fun i => ws[i]?) = wc) : ∀ U : State, U.heap = H → s.WarmedH U.vm → roP G wc U := fun U hU hW => ⟨by rw [hU]; exact hP.sub is his, hk.warm hW, by rw [hU]; exact (hs.moved hW.alike).narrow (fun _ h => h.elim)⟩
abbrev MetR (la : Launch) (y : MethodName) (cc : ByteArray) (maxL : Nat) (ty : FieldType) (fr lo : Nat) (av : List Value) (G : gG) (wc : va_W) (post : Int32 → Prop) : Prop :=
  Met la y (Cond.code y cc maxL (some ty) :: wg) { frames := fr, cells := 0, slots := 0, locals := lo } (va_Pc av (roP G wc)) (vp_Si post) 0 0 (fun _ => False)
abbrev MetL (la : Launch) (y : MethodName) (cc : ByteArray) (maxL : Nat) (fr lo : Nat) (av : List Value) (G : gG) (wc : va_W) (post : Int64 → Prop) : Prop :=
  Met la y (Cond.code y cc maxL (some .long) :: wg) { frames := fr, cells := 0, slots := 0, locals := lo } (va_Pc av (roP G wc)) (vp_Sl post) 0 0 (fun _ => False)
theorem MetR.mk {la : Launch} {y : MethodName} {cc : ByteArray} {maxL : Nat} {ty : FieldType} {fr lo : Nat} {av : List Value} {G : gG} {wc : va_W} {post : Int32 → Prop} (hy : plainName y.cls = true) (hlen : (lg_sl av).length ≤ maxL)
    (body : ∀ (p : Program) (e : Env) (s : State) (m : MethodId) (below : List Frame) (meth : Method) (c : Code) (Q : State → Prop) (ls : Array Slot),
      CallFix p m c cc maxL s av.toArray (Cond.code y cc maxL (some ty) :: wg) y.cls → va_P G.1 cls wc s.heap → kx G s → sx G (fun _ => False) s s.heap →
      (∀ (pc : Nat) (ls : Array Slot) (v : Int32), narrow ty (.int v) = .int v → post v → decode cc pc = .ok (.ireturn, 1) → W p la e { frames := fr, cells := 0, slots := 0, locals := lo } s m av.toArray below meth c s.heap [] 0 0 Q (F0 m pc ls [.int v])) →
      lv_has ls maxL (lv_args 0 av) → W p la e { frames := fr, cells := 0, slots := 0, locals := lo } s m av.toArray below meth c s.heap [] 0 0 Q (F0 m 0 ls [])) : MetR la y cc maxL ty fr lo av G wc post := by
  refine Met.ofW (cc := cc) (maxL := maxL) (ret := some ty) hy rfl ?_
  intro p e s m args below meth c s₁ B hml hv
  obtain ⟨rfl, hP, hk, hs⟩ := hv
  have hx := B.exec
  have hb := B.bytes
  have hr := B.returns
  have hlocks := B.notSynchronized
  rw [lg_entry_eq]
  exact body p e s m below meth c _ _ ⟨hx, hb, hml, findClass_of_methodNamed B.named, atoms_spec B.pre⟩ hP hk hs (fun pc ls v hn hp hd => W.zret hx hb hr hn (fun t ht _ => ⟨v, rfl, hp, ht⟩) (fun q h => by cases h) hd hlocks) (lv_entry av hlen)
theorem MetL.mk {la : Launch} {y : MethodName} {cc : ByteArray} {maxL : Nat} {fr lo : Nat} {av : List Value} {G : gG} {wc : va_W} {post : Int64 → Prop} (hy : plainName y.cls = true) (hlen : (lg_sl av).length ≤ maxL)
    (body : ∀ (p : Program) (e : Env) (s : State) (m : MethodId) (below : List Frame) (meth : Method) (c : Code) (Q : State → Prop) (ls : Array Slot),
      CallFix p m c cc maxL s av.toArray (Cond.code y cc maxL (some .long) :: wg) y.cls → va_P G.1 cls wc s.heap → kx G s → sx G (fun _ => False) s s.heap →
      (∀ (pc : Nat) (ls : Array Slot) (v : Int64), post v → decode cc pc = .ok (.lreturn, 1) → W p la e { frames := fr, cells := 0, slots := 0, locals := lo } s m av.toArray below meth c s.heap [] 0 0 Q (F0 m pc ls [.long v])) →
      lv_has ls maxL (lv_args 0 av) → W p la e { frames := fr, cells := 0, slots := 0, locals := lo } s m av.toArray below meth c s.heap [] 0 0 Q (F0 m 0 ls [])) : MetL la y cc maxL fr lo av G wc post := by
  refine Met.ofW (cc := cc) (maxL := maxL) (ret := some .long) hy rfl ?_
  intro p e s m args below meth c s₁ B hml hv
  obtain ⟨rfl, hP, hk, hs⟩ := hv
  have hx := B.exec
  have hb := B.bytes
  have hr := B.returns
  have hlocks := B.notSynchronized
  rw [lg_entry_eq]
  exact body p e s m below meth c _ _ ⟨hx, hb, hml, findClass_of_methodNamed B.named, atoms_spec B.pre⟩ hP hk hs (fun pc ls v hp hd => W.lret hx hb hr (fun t ht _ => ⟨v, rfl, hp, ht⟩) (fun q h => by cases h) hd hlocks) (lv_entry av hlen)
/-- a writing method's start and end -/
abbrev woP (G : gG) (wc : va_W) (sz : Nat) : State → Prop := fun U => U.heap.size = sz ∧ va_P G.1 cls wc U.heap ∧ va_D (fun _ => True) wc ∧ kx G U ∧ sx G (va_A wc sz) U U.heap
theorem woP.blind {G : gG} {wc : va_W} {sz : Nat} {av : List Value} : FrameBlind (va_Pc av (woP G wc sz)) := fun a U g mk q => ⟨q.1, q.2.1, q.2.2.1, q.2.2.2.1, q.2.2.2.2.1.blind g mk a, q.2.2.2.2.2.blind g mk a⟩
abbrev woQ {S : Type} (G : gG) (wc : va_W) (sz : Nat) (B : S → va_W) : S → State → Prop := fun u t => va_P G.1 cls (B u) t.heap ∧ va_D (va_A wc sz) (B u)
abbrev MetW (la : Launch) (y : MethodName) (cc : ByteArray) (maxL : Nat) (ty : FieldType) (fr lo mc ms : Nat) (av : List Value) (G : gG) (wc : va_W) {S : Type} (post : Int32 → S → Prop) (B : S → va_W) : Prop :=
  ∀ sz : Nat, Met la y (Cond.code y cc maxL (some ty) :: wg) { frames := fr, cells := mc, slots := ms, locals := lo } (va_Pc av (woP G wc sz)) (va_Qi post (woQ G wc sz B) (va_A wc sz)) mc ms (va_A wc sz)
abbrev MetV (la : Launch) (y : MethodName) (cc : ByteArray) (maxL : Nat) (fr lo mc ms : Nat) (av : List Value) (G : gG) (wc : va_W) {S : Type} (post : S → Prop) (B : S → va_W) : Prop :=
  ∀ sz : Nat, Met la y (Cond.code y cc maxL none :: wg) { frames := fr, cells := mc, slots := ms, locals := lo } (va_Pc av (woP G wc sz)) (va_Qv post (woQ G wc sz B) (va_A wc sz)) mc ms (va_A wc sz)
theorem MetW.mk {la : Launch} {y : MethodName} {cc : ByteArray} {maxL : Nat} {ty : FieldType} {fr lo mc ms : Nat} {av : List Value} {G : gG} {wc : va_W} {S : Type} {post : Int32 → S → Prop} {B : S → va_W} (hy : plainName y.cls = true) (hlen : (lg_sl av).length ≤ maxL)
    (body : ∀ (p : Program) (e : Env) (s : State) (m : MethodId) (below : List Frame) (meth : Method) (c : Code) (Q : State → Prop) (A : Nat → Prop) (ls : Array Slot),
      CallFix p m c cc maxL s av.toArray (Cond.code y cc maxL (some ty) :: wg) y.cls → va_P G.1 cls wc s.heap → va_D A wc → (∀ q, s.heap.size ≤ q → A q) → va_S A s.heap s.heap [] → kx G s → sx G A s s.heap →
      (∀ (pc : Nat) (ls : Array Slot) (v : Int32) (u : S) (H : Heap) (locs : List Loc), narrow ty (.int v) = .int v → post v u → va_P G.1 cls (B u) H → va_D A (B u) → va_S A s.heap H locs → decode cc pc = .ok (.ireturn, 1) → W p la e { frames := fr, cells := mc, slots := ms, locals := lo } s m av.toArray below meth c H locs mc ms Q (F0 m pc ls [.int v])) →
      lv_has ls maxL (lv_args 0 av) → W p la e { frames := fr, cells := mc, slots := ms, locals := lo } s m av.toArray below meth c s.heap [] 0 0 Q (F0 m 0 ls [])) : MetW la y cc maxL ty fr lo mc ms av G wc post B := by
  intro sz
  refine Met.ofW (cc := cc) (maxL := maxL) (ret := some ty) hy rfl ?_
  intro p e s m args below meth c s₁ X hml hv
  obtain ⟨rfl, hsz, hP, hD, hk, hs⟩ := hv
  have hx := X.exec
  have hb := X.bytes
  have hr := X.returns
  have hlocks := X.notSynchronized
  rw [lg_entry_eq]
  subst hsz
  exact body p e s m below meth c _ _ _ ⟨hx, hb, hml, findClass_of_methodNamed X.named, atoms_spec X.pre⟩ hP hD.self (fun q h => Or.inr h) va_S.rf hk hs (fun pc ls v u H locs hn hp hP' hD' hS' hd => W.zret hx hb hr hn (fun t ht _ => ⟨⟨v, u, rfl, hp, by rw [ht]; exact hP', hD'⟩, hS'.F ht⟩) hS'.2.2 hd hlocks) (lv_entry av hlen)
theorem MetV.mk {la : Launch} {y : MethodName} {cc : ByteArray} {maxL : Nat} {fr lo mc ms : Nat} {av : List Value} {G : gG} {wc : va_W} {S : Type} {post : S → Prop} {B : S → va_W} (hy : plainName y.cls = true) (hlen : (lg_sl av).length ≤ maxL)
    (body : ∀ (p : Program) (e : Env) (s : State) (m : MethodId) (below : List Frame) (meth : Method) (c : Code) (Q : State → Prop) (A : Nat → Prop) (ls : Array Slot),
      CallFix p m c cc maxL s av.toArray (Cond.code y cc maxL none :: wg) y.cls → meth.name = y.name → va_P G.1 cls wc s.heap → va_D A wc → (∀ q, s.heap.size ≤ q → A q) → va_S A s.heap s.heap [] → kx G s → sx G A s s.heap →
      (∀ (pc : Nat) (ls : Array Slot) (u : S) (H : Heap) (locs : List Loc), post u → va_P G.1 cls (B u) H → va_D A (B u) → va_S A s.heap H locs → decode cc pc = .ok (.return_, 1) → W p la e { frames := fr, cells := mc, slots := ms, locals := lo } s m av.toArray below meth c H locs mc ms Q (F0 m pc ls [])) →
      lv_has ls maxL (lv_args 0 av) → W p la e { frames := fr, cells := mc, slots := ms, locals := lo } s m av.toArray below meth c s.heap [] 0 0 Q (F0 m 0 ls [])) : MetV la y cc maxL fr lo mc ms av G wc post B := by
  intro sz
  refine Met.ofW (cc := cc) (maxL := maxL) (ret := none) hy rfl ?_
  intro p e s m args below meth c s₁ X hml hv
  obtain ⟨rfl, hsz, hP, hD, hk, hs⟩ := hv
  have hx := X.exec
  have hb := X.bytes
  have hr := X.returns
  have hlocks := X.notSynchronized
  rw [lg_entry_eq]
  subst hsz
  exact body p e s m below meth c _ _ _ ⟨hx, hb, hml, findClass_of_methodNamed X.named, atoms_spec X.pre⟩ (name_of_methodNamed X.named X.method).1 hP hD.self (fun q h => Or.inr h) va_S.rf hk hs (fun pc ls u H locs hp hP' hD' hS' hd => W.vret hx hb hr (fun t ht _ => ⟨⟨u, rfl, hp, by rw [ht]; exact hP', hD'⟩, hS'.F ht⟩) hS'.2.2 hd hlocks) (lv_entry av hlen)
end
section
/-! calls: the words of a call site (wV: own class's or public; wVN: a nest mate's private; wS, wSN static; wI, wIN constructors), and how a call goes -/
theorem good_all {k0 k : Cond} (h : k ∈ wg) (hc : k2_isCode k = true) : GoodIn (k0 :: wg) (k :: wg) := by
  intro w hw
  rcases List.mem_cons.mp hw with rfl | hw
  · exact ⟨List.mem_cons_of_mem _ h, by cases w <;> first | (simp [k2_isCode] at hc; done) | exact Or.inl rfl⟩
  · exact ⟨List.mem_cons_of_mem _ hw, wg_good w hw⟩
abbrev wD (y : MethodName) (n : Nat) : Prop := y.cls ≠ "java/lang/invoke/MethodHandle" ∧ y.cls ≠ "java/lang/invoke/VarHandle" ∧ (parseMethodDescriptor y.desc).map (fun d => d.parameters.length) = some n
abbrev wB (y : MethodName) (cc : ByteArray) (maxL : Nat) (ret : Option FieldType) (n : Nat) : Prop := Cond.initialized y.cls ∈ wg ∧ Cond.code y cc maxL ret ∈ wg ∧ wD y n
def wV (own : String) (idx : Nat) (y : MethodName) (cc : ByteArray) (maxL : Nat) (ret : Option FieldType) (n : Nat) : Prop := wB y cc maxL ret n ∧ Cond.methodLink own idx y ∈ wg ∧ Cond.instanceMethod y ∈ wg ∧ Cond.selects y.cls y y ∈ wg
def wVN (own : String) (idx : Nat) (y : MethodName) (cc : ByteArray) (maxL : Nat) (ret : Option FieldType) (n : Nat) : Prop := wB y cc maxL ret n ∧ Cond.methodLinkNest own idx y R_CI ∈ nws ∧ Cond.instanceMethod y ∈ wg ∧ Cond.selects y.cls y y ∈ wg
def wS (own : String) (idx : Nat) (y : MethodName) (cc : ByteArray) (maxL : Nat) (ret : Option FieldType) (n : Nat) : Prop := wB y cc maxL ret n ∧ Cond.methodLink own idx y ∈ wg ∧ Cond.static y ∈ wg
def wSN (own : String) (idx : Nat) (y : MethodName) (cc : ByteArray) (maxL : Nat) (ret : Option FieldType) (n : Nat) : Prop := wB y cc maxL ret n ∧ Cond.methodLinkNest own idx y R_CI ∈ nws ∧ Cond.static y ∈ wg
def wI (own : String) (idx : Nat) (y : MethodName) (cc : ByteArray) (maxL : Nat) (n : Nat) : Prop := wB y cc maxL none n ∧ Cond.methodLink own idx y ∈ wg ∧ Cond.instanceMethod y ∈ wg ∧ y.name = "<init>"
def wIN (own : String) (idx : Nat) (y : MethodName) (cc : ByteArray) (maxL : Nat) (n : Nat) : Prop := wB y cc maxL none n ∧ Cond.methodLinkNest own idx y R_CI ∈ nws ∧ Cond.instanceMethod y ∈ wg ∧ y.name = "<init>"
section XC
variable {p : Program} {la : Launch} {e : Env} {R : Room} {s : State} {m : MethodId} {args : Array Value} {below : List Frame} {meth : Method} {c : Code} {H : Heap} {locs : List Loc} {cells slots : Nat} {Q : State → Prop}
variable {y : MethodName} {ccY cc : ByteArray} {maxY nL mc ms n idx pc : Nat} {ret : Option FieldType} {rm : Room} {Pc : Array Value → State → Prop} {Qc : Array Value → State → Outcome → State → Prop} {free : Addr → Prop} {k0 : Cond} {own : String} {b : Addr} {As rest st0 : List Value} {ls : Array Slot}
theorem cb_of {k0 : Cond} (ht : ∀ w ∈ k0 :: wg, w.before args s = true) (hw : wB y ccY maxY ret n) (hl : Cond.methodLink own idx y ∈ wg) (hrm : rm.cells = mc ∧ rm.slots = ms) (hR : rm.frames + 1 ≤ R.frames ∧ 8 + (maxY + 11) + rm.locals ≤ R.locals) : CallB R s args own idx y ccY maxY ret (Cond.code y ccY maxY ret :: wg) rm mc ms n :=
  callB_of n ht (good_all hw.2.1 rfl) rfl hrm.1 hrm.2 (ht _ (List.mem_cons_of_mem _ hw.1)) (ht _ (List.mem_cons_of_mem _ hl)) hw.2.2 hR
theorem cn_of {k0 : Cond} {G : gG} (ht : ∀ w ∈ k0 :: wg, w.before args s = true) (hk : kx G s) (hw : wB y ccY maxY ret n) (hl : Cond.methodLinkNest own idx y R_CI ∈ nws) (hrm : rm.cells = mc ∧ rm.slots = ms) (hR : rm.frames + 1 ≤ R.frames ∧ 8 + (maxY + 11) + rm.locals ≤ R.locals) : va_CN R s args own idx y R_CI ccY maxY ret (Cond.code y ccY maxY ret :: wg) rm mc ms n :=
  va_cnB n ht (good_all hw.2.1 rfl) rfl hrm.1 hrm.2 (hk.2 _ hl) (ht _ (List.mem_cons_of_mem _ hw.1)) hw.2.2 hR
theorem run_V (S : CallFix p m c cc nL s args (k0 :: wg) own) (hw : wV own idx y ccY maxY ret n) (hM : Met la y (Cond.code y ccY maxY ret :: wg) rm Pc Qc mc ms free) (hrm : rm.cells = mc ∧ rm.slots = ms) (hR : rm.frames + 1 ≤ R.frames ∧ 8 + (maxY + 11) + rm.locals ≤ R.locals) (hp : PreV s H y.cls b Pc As)
    (hn : As.length = n) (hsize : ls.size = nL) (hst : st0 = As.reverse ++ .ref b :: rest) (hro : (rest.map fun v => v.category).sum ≤ 8) (hdg : decode cc pc = .ok (.invokevirtual idx, 3)) (hf : cells + mc ≤ R.cells ∧ slots + ms ≤ R.slots) :
    va_Run p la e R s m args below meth c H locs cells slots mc ms (F0 m pc ls st0) rest (Qc (Value.ref b :: As).toArray) free :=
  va_runV S hM ⟨cb_of S.2.2.2.2 hw.1 hw.2.1 hrm hR, S.2.2.2.2 _ (List.mem_cons_of_mem _ hw.2.2.1), S.2.2.2.2 _ (List.mem_cons_of_mem _ hw.2.2.2)⟩ hp rfl hn hsize hst (lv_room hro) hdg hf
theorem run_VN {G : gG} (S : CallFix p m c cc nL s args (k0 :: wg) own) (hk : kx G s) (hw : wVN own idx y ccY maxY ret n) (hM : Met la y (Cond.code y ccY maxY ret :: wg) rm Pc Qc mc ms free) (hrm : rm.cells = mc ∧ rm.slots = ms) (hR : rm.frames + 1 ≤ R.frames ∧ 8 + (maxY + 11) + rm.locals ≤ R.locals) (hp : PreV s H y.cls b Pc As)
    (hn : As.length = n) (hsize : ls.size = nL) (hst : st0 = As.reverse ++ .ref b :: rest) (hro : (rest.map fun v => v.category).sum ≤ 8) (hdg : decode cc pc = .ok (.invokevirtual idx, 3)) (hf : cells + mc ≤ R.cells ∧ slots + ms ≤ R.slots) :
    va_Run p la e R s m args below meth c H locs cells slots mc ms (F0 m pc ls st0) rest (Qc (Value.ref b :: As).toArray) free :=
  va_runVN S hM ⟨cn_of S.2.2.2.2 hk hw.1 hw.2.1 hrm hR, S.2.2.2.2 _ (List.mem_cons_of_mem _ hw.2.2.1), S.2.2.2.2 _ (List.mem_cons_of_mem _ hw.2.2.2)⟩ hp rfl hn hsize hst (lv_room hro) hdg hf
theorem run_S (S : CallFix p m c cc nL s args (k0 :: wg) own) (hw : wS own idx y ccY maxY ret n) (hM : Met la y (Cond.code y ccY maxY ret :: wg) rm Pc Qc mc ms free) (hrm : rm.cells = mc ∧ rm.slots = ms) (hR : rm.frames + 1 ≤ R.frames ∧ 8 + (maxY + 11) + rm.locals ≤ R.locals) (hp : PreS s H Pc As)
    (hn : As.length = n) (hsize : ls.size = nL) (hst : st0 = As.reverse ++ rest) (hro : (rest.map fun v => v.category).sum ≤ 8) (hdg : decode cc pc = .ok (.invokestatic idx, 3)) (hf : cells + mc ≤ R.cells ∧ slots + ms ≤ R.slots) :
    va_Run p la e R s m args below meth c H locs cells slots mc ms (F0 m pc ls st0) rest (Qc As.toArray) free :=
  va_runS S hM ⟨cb_of S.2.2.2.2 hw.1 hw.2.1 hrm hR, S.2.2.2.2 _ (List.mem_cons_of_mem _ hw.2.2)⟩ hp rfl hn hsize hst (lv_room hro) hdg hf
theorem run_SN {G : gG} (S : CallFix p m c cc nL s args (k0 :: wg) own) (hk : kx G s) (hw : wSN own idx y ccY maxY ret n) (hM : Met la y (Cond.code y ccY maxY ret :: wg) rm Pc Qc mc ms free) (hrm : rm.cells = mc ∧ rm.slots = ms) (hR : rm.frames + 1 ≤ R.frames ∧ 8 + (maxY + 11) + rm.locals ≤ R.locals) (hp : PreS s H Pc As)
    (hn : As.length = n) (hsize : ls.size = nL) (hst : st0 = As.reverse ++ rest) (hro : (rest.map fun v => v.category).sum ≤ 8) (hdg : decode cc pc = .ok (.invokestatic idx, 3)) (hf : cells + mc ≤ R.cells ∧ slots + ms ≤ R.slots) :
    va_Run p la e R s m args below meth c H locs cells slots mc ms (F0 m pc ls st0) rest (Qc As.toArray) free :=
  va_runSN S hM ⟨cn_of S.2.2.2.2 hk hw.1 hw.2.1 hrm hR, S.2.2.2.2 _ (List.mem_cons_of_mem _ hw.2.2), trivial⟩ hp rfl hn hsize hst (lv_room hro) hdg hf
theorem run_I (S : CallFix p m c cc nL s args (k0 :: wg) own) (hw : wI own idx y ccY maxY n) (hM : Met la y (Cond.code y ccY maxY none :: wg) rm Pc Qc mc ms free) (hrm : rm.cells = mc ∧ rm.slots = ms) (hR : rm.frames + 1 ≤ R.frames ∧ 8 + (maxY + 11) + rm.locals ≤ R.locals) (hp : PreS s H Pc (.ref b :: As))
    (hn : As.length = n) (hsize : ls.size = nL) (hst : st0 = As.reverse ++ .ref b :: rest) (hro : (rest.map fun v => v.category).sum ≤ 8) (hdg : decode cc pc = .ok (.invokespecial idx, 3)) (hf : cells + mc ≤ R.cells ∧ slots + ms ≤ R.slots) :
    va_Run p la e R s m args below meth c H locs cells slots mc ms (F0 m pc ls st0) rest (Qc (Value.ref b :: As).toArray) free :=
  va_runI S hM ⟨cb_of S.2.2.2.2 hw.1 hw.2.1 hrm hR, hw.2.2.2, S.2.2.2.2 _ (List.mem_cons_of_mem _ hw.2.2.1)⟩ hp rfl hn hsize hst (lv_room hro) hdg hf
theorem run_IN {G : gG} (S : CallFix p m c cc nL s args (k0 :: wg) own) (hk : kx G s) (hw : wIN own idx y ccY maxY n) (hM : Met la y (Cond.code y ccY maxY none :: wg) rm Pc Qc mc ms free) (hrm : rm.cells = mc ∧ rm.slots = ms) (hR : rm.frames + 1 ≤ R.frames ∧ 8 + (maxY + 11) + rm.locals ≤ R.locals) (hp : PreS s H Pc (.ref b :: As))
    (hn : As.length = n) (hsize : ls.size = nL) (hst : st0 = As.reverse ++ .ref b :: rest) (hro : (rest.map fun v => v.category).sum ≤ 8) (hdg : decode cc pc = .ok (.invokespecial idx, 3)) (hf : cells + mc ≤ R.cells ∧ slots + ms ≤ R.slots) :
    va_Run p la e R s m args below meth c H locs cells slots mc ms (F0 m pc ls st0) rest (Qc (Value.ref b :: As).toArray) free :=
  va_runIN S hM ⟨cn_of S.2.2.2.2 hk hw.1 hw.2.1 hrm hR, hw.2.2.2, S.2.2.2.2 _ (List.mem_cons_of_mem _ hw.2.2.1)⟩ hp rfl hn hsize hst (lv_room hro) hdg hf
/-- a reading method's start, at a call -/
theorem preR_V {G : gG} {ws wc : va_W} {A : Nat → Prop} {C : String} (hP : va_P G.1 cls ws H) (hk : kx G s) (hs : sx G A s H) (is : List Nat) (his : is.filterMap (fun i => ws[i]?) = wc) (q0 : Nat) {ci : Nat} {fs : List Value} {T : u_T} {N : Nat} (he : ws[q0]? = some (b, .inr (ci, fs))) (hc : cls[ci]? = some (C, T, N)) : PreV s H C b (va_Pc (.ref b :: As) (roP G wc)) As :=
  ⟨roP.blind, va_recv hk.1 hP hc he, fun U hU hW => ⟨rfl, roP.of hP hk hs is his U hU hW⟩⟩
theorem preR_S {G : gG} {ws wc : va_W} {A : Nat → Prop} (hP : va_P G.1 cls ws H) (hk : kx G s) (hs : sx G A s H) (is : List Nat) (his : is.filterMap (fun i => ws[i]?) = wc) : PreS s H (va_Pc As (roP G wc)) As :=
  ⟨roP.blind, fun U hU hW => ⟨rfl, roP.of hP hk hs is his U hU hW⟩⟩
/-- a writing method's -/
theorem woP.of {G : gG} {ws wc : va_W} {A : Nat → Prop} (hP : va_P G.1 cls ws H) (hD : va_D A ws) (hA : ∀ q, s.heap.size ≤ q → A q) (hS : va_S A s.heap H locs) (hk : kx G s) (hs : sx G A s s.heap) (is : List Nat) (hnd : va_nd is = true) (hC : is.map (fun i => ws[i]?) = wc.map some) : ∀ U : State, U.heap = H → s.WarmedH U.vm → woP G wc H.size U := by
  intro U hU hW
  have hC2 : is.filterMap (fun i => ws[i]?) = wc := by
    have h1 : (is.map (fun i => ws[i]?)).filterMap id = wc := by rw [hC]; simp
    rw [← h1, List.filterMap_map]; rfl
  refine ⟨by rw [hU], by rw [hU]; exact hP.sub is hC2, (hD.sub is hnd hC).weaken (fun _ _ _ _ => trivial), hk.warm hW, ?_⟩
  rw [hU]
  exact ((hs.kept (fun a h1 h2 => hS.2.1 a h1 h2)).moved hW.alike).narrow (va_free hD hS hA is hC)
theorem preW_V {G : gG} {ws wc : va_W} {A : Nat → Prop} {C : String} (hP : va_P G.1 cls ws H) (hD : va_D A ws) (hA : ∀ q, s.heap.size ≤ q → A q) (hS : va_S A s.heap H locs) (hk : kx G s) (hs : sx G A s s.heap) (is : List Nat) (hnd : va_nd is = true) (hC : is.map (fun i => ws[i]?) = wc.map some) (q0 : Nat) {ci : Nat} {fs : List Value} {T : u_T} {N : Nat} (he : ws[q0]? = some (b, .inr (ci, fs))) (hc : cls[ci]? = some (C, T, N)) : PreV s H C b (va_Pc (.ref b :: As) (woP G wc H.size)) As :=
  ⟨woP.blind, va_recv hk.1 hP hc he, fun U hU hW => ⟨rfl, woP.of hP hD hA hS hk hs is hnd hC U hU hW⟩⟩
theorem preW_S {G : gG} {ws wc : va_W} {A : Nat → Prop} (hP : va_P G.1 cls ws H) (hD : va_D A ws) (hA : ∀ q, s.heap.size ≤ q → A q) (hS : va_S A s.heap H locs) (hk : kx G s) (hs : sx G A s s.heap) (is : List Nat) (hnd : va_nd is = true) (hC : is.map (fun i => ws[i]?) = wc.map some) : PreS s H (va_Pc As (woP G wc H.size)) As :=
  ⟨woP.blind, fun U hU hW => ⟨rfl, woP.of hP hD hA hS hk hs is hnd hC U hU hW⟩⟩
/-- behind a writing method's call: what it gives stands behind the rest -/
theorem eff_W {G : gG} {ws wc wr : va_W} {A : Nat → Prop} {S : Type} {post : Int32 → S → Prop} {B : S → va_W} {a : Array Value} (hr : va_Run p la e R s m args below meth c H locs cells slots mc ms (F0 m pc ls st0) rest (va_Qi post (woQ G wc H.size B) (va_A wc H.size) a) (va_A wc H.size))
    (hP : va_P G.1 cls ws H) (hD : va_D A ws) (hA : ∀ q, s.heap.size ≤ q → A q) (hS : va_S A s.heap H locs) (isC isR : List Nat) (hC : isC.map (fun i => ws[i]?) = wc.map some) (hR : isR.map (fun i => ws[i]?) = wr.map some) (hn : va_nd isR = true) (hdis : ∀ i ∈ isR, i ∉ isC)
    (kk : ∀ (r : Int32) (u : S) (H1 : Heap) (locs1 : List Loc), post r u → va_P G.1 cls (wr ++ B u) H1 → va_D A (wr ++ B u) → va_S A s.heap H1 locs1 → W p la e R s m args below meth c H1 locs1 (cells + mc) (slots + ms) Q (F0 m (pc + 3) ls (.int r :: rest))) : W p la e R s m args below meth c H locs cells slots Q (F0 m pc ls st0) := by
  have hF := va_free hD hS hA isC hC
  refine va_calli hr hS (fun q _ h => hF q h) hF (fun r u t H1 locs1 ht hvm hp hB hz hk hS1 => ?_)
  obtain ⟨hP1, hD1⟩ := hB
  rw [ht] at hP1
  obtain ⟨h1, h2⟩ := va_join hP hD isC isR hC hR hn hdis hk hF hP1 hD1
  exact kk r u H1 locs1 hp h1 h2 hS1
theorem eff_V {G : gG} {ws wc wr : va_W} {A : Nat → Prop} {S : Type} {post : S → Prop} {B : S → va_W} {a : Array Value} (hr : va_Run p la e R s m args below meth c H locs cells slots mc ms (F0 m pc ls st0) rest (va_Qv post (woQ G wc H.size B) (va_A wc H.size) a) (va_A wc H.size))
    (hP : va_P G.1 cls ws H) (hD : va_D A ws) (hA : ∀ q, s.heap.size ≤ q → A q) (hS : va_S A s.heap H locs) (isC isR : List Nat) (hC : isC.map (fun i => ws[i]?) = wc.map some) (hR : isR.map (fun i => ws[i]?) = wr.map some) (hn : va_nd isR = true) (hdis : ∀ i ∈ isR, i ∉ isC)
    (kk : ∀ (u : S) (H1 : Heap) (locs1 : List Loc), post u → va_P G.1 cls (wr ++ B u) H1 → va_D A (wr ++ B u) → va_S A s.heap H1 locs1 → W p la e R s m args below meth c H1 locs1 (cells + mc) (slots + ms) Q (F0 m (pc + 3) ls rest)) : W p la e R s m args below meth c H locs cells slots Q (F0 m pc ls st0) := by
  have hF := va_free hD hS hA isC hC
  refine va_callv hr hS (fun q _ h => hF q h) hF (fun u t H1 locs1 ht hvm hp hB hz hk hS1 => ?_)
  obtain ⟨hP1, hD1⟩ := hB
  rw [ht] at hP1
  obtain ⟨h1, h2⟩ := va_join hP hD isC isR hC hR hn hdis hk hF hP1 hD1
  exact kk u H1 locs1 hp h1 h2 hS1
end XC
end
section
/-! instructions on numbers that are naturals -/
theorem s_l : ∀ n, n < 32 → ((nI n &&& 31).toBitVec.smod 32).toNat = n := by decide +kernel
theorem nI_shl {a k : Nat} (hk : k < 32) (h : a * 2 ^ k < 4294967296) : nI a <<< (nI k &&& 31) = nI (a * 2 ^ k) := pk_shlN _ k (s_l k hk) h
theorem nI_shr {a k : Nat} (ha : a < 2147483648) (hk : k < 32) : nI a >>> (nI k &&& 31) = nI (a / 2 ^ k) := pk_shrN ha _ k (s_l k hk)
theorem nI_and1 {a : Nat} (h : a < 4294967296) : nI a &&& nI 1 = nI (a % 2) := pk_andN h 1 (by decide)
theorem nI_and3 {a : Nat} (h : a < 4294967296) : nI a &&& nI 3 = nI (a % 4) := pk_andN h 2 (by decide)
theorem nI_mask {a k : Nat} (h : a < 4294967296) (hk : k < 32) : nI a &&& nI (2 ^ k - 1) = nI (a % 2 ^ k) := by
  refine pk_andN h k (pk_tn ?_)
  have : 2 ^ k ≤ 2 ^ 31 := Nat.pow_le_pow_right (by omega) (by omega)
  omega
theorem up_nI (g : Nat → Nat) (k v : Nat) : upd (fun j => nI (g j)) k (nI v) = fun j => nI (va_up g k v j) := by
  funext j
  unfold upd va_up
  split <;> rfl
theorem cpy_nI (f g : Nat → Nat) (a b n : Nat) : va_cpy (fun j => nI (f j)) (fun j => nI (g j)) a b n = fun j => nI (va_cpy f g a b n j) := by
  funext j
  unfold va_cpy
  split <;> rfl
section XN
variable {p : Program} {la : Launch} {e : Env} {R : Room} {s : State} {m : MethodId} {args : Array Value} {below : List Frame} {meth : Method} {c : Code} {H : Heap} {locs : List Loc} {cells slots : Nat} {Q : State → Prop}
variable {cc : ByteArray} {pc : Nat} {ls : Array Slot} {rest : List Value}
/-- the number on top, otherwise said -/
theorem x_re {x y : Int32} (h : x = y) (k : W p la e R s m args below meth c H locs cells slots Q (F0 m pc ls (.int y :: rest))) : W p la e R s m args below meth c H locs cells slots Q (F0 m pc ls (.int x :: rest)) := h ▸ k
theorem x_reN {a b : Nat} (h : a = b) (k : W p la e R s m args below meth c H locs cells slots Q (F0 m pc ls (.int (nI b) :: rest))) : W p la e R s m args below meth c H locs cells slots Q (F0 m pc ls (.int (nI a) :: rest)) := h ▸ k
theorem x_iadd (hx : p.tables.exec = Jvm.exec) (hb : c.code = cc) {a b : Nat} (hdg : decode cc pc = .ok (.iadd, 1)) (k : W p la e R s m args below meth c H locs cells slots Q (F0 m (pc + 1) ls (.int (nI (a + b)) :: rest))) : W p la e R s m args below meth c H locs cells slots Q (F0 m pc ls (.int (nI b) :: .int (nI a) :: rest)) := lv_iadd hx hb hdg (x_re (nI_add a b) k)
theorem x_isub (hx : p.tables.exec = Jvm.exec) (hb : c.code = cc) {a b : Nat} (hdg : decode cc pc = .ok (.isub, 1)) (h : b ≤ a) (k : W p la e R s m args below meth c H locs cells slots Q (F0 m (pc + 1) ls (.int (nI (a - b)) :: rest))) : W p la e R s m args below meth c H locs cells slots Q (F0 m pc ls (.int (nI b) :: .int (nI a) :: rest)) := lv_isub hx hb hdg (x_re (pk_sub h) k)
theorem x_imul (hx : p.tables.exec = Jvm.exec) (hb : c.code = cc) {a b : Nat} (hdg : decode cc pc = .ok (.imul, 1)) (k : W p la e R s m args below meth c H locs cells slots Q (F0 m (pc + 1) ls (.int (nI (a * b)) :: rest))) : W p la e R s m args below meth c H locs cells slots Q (F0 m pc ls (.int (nI b) :: .int (nI a) :: rest)) := lv_imul hx hb hdg (x_re (pk_mul a b) k)
theorem x_ishl (hx : p.tables.exec = Jvm.exec) (hb : c.code = cc) {a b : Nat} (hdg : decode cc pc = .ok (.ishl, 1)) (h1 : b < 32) (h2 : a * 2 ^ b < 4294967296) (k : W p la e R s m args below meth c H locs cells slots Q (F0 m (pc + 1) ls (.int (nI (a * 2 ^ b)) :: rest))) : W p la e R s m args below meth c H locs cells slots Q (F0 m pc ls (.int (nI b) :: .int (nI a) :: rest)) := lv_ishl hx hb hdg (x_re (nI_shl h1 h2) k)
theorem x_ishr (hx : p.tables.exec = Jvm.exec) (hb : c.code = cc) {a b : Nat} (hdg : decode cc pc = .ok (.ishr, 1)) (h1 : a < 2147483648) (h2 : b < 32) (k : W p la e R s m args below meth c H locs cells slots Q (F0 m (pc + 1) ls (.int (nI (a / 2 ^ b)) :: rest))) : W p la e R s m args below meth c H locs cells slots Q (F0 m pc ls (.int (nI b) :: .int (nI a) :: rest)) := lv_ishr hx hb hdg (x_re (nI_shr h1 h2) k)
theorem x_iand1 (hx : p.tables.exec = Jvm.exec) (hb : c.code = cc) {a : Nat} (hdg : decode cc pc = .ok (.iand, 1)) (h1 : a < 4294967296) (k : W p la e R s m args below meth c H locs cells slots Q (F0 m (pc + 1) ls (.int (nI (a % 2)) :: rest))) : W p la e R s m args below meth c H locs cells slots Q (F0 m pc ls (.int (nI 1) :: .int (nI a) :: rest)) := lv_iand hx hb hdg (x_re (nI_and1 h1) k)
theorem x_iand3 (hx : p.tables.exec = Jvm.exec) (hb : c.code = cc) {a : Nat} (hdg : decode cc pc = .ok (.iand, 1)) (h1 : a < 4294967296) (k : W p la e R s m args below meth c H locs cells slots Q (F0 m (pc + 1) ls (.int (nI (a % 4)) :: rest))) : W p la e R s m args below meth c H locs cells slots Q (F0 m pc ls (.int (nI 3) :: .int (nI a) :: rest)) := lv_iand hx hb hdg (x_re (nI_and3 h1) k)
theorem x_mask (hx : p.tables.exec = Jvm.exec) (hb : c.code = cc) {a b : Nat} (hdg : decode cc pc = .ok (.iand, 1)) (h1 : a < 4294967296) (h2 : b < 32) (k : W p la e R s m args below meth c H locs cells slots Q (F0 m (pc + 1) ls (.int (nI (a % 2 ^ b)) :: rest))) : W p la e R s m args below meth c H locs cells slots Q (F0 m pc ls (.int (nI (2 ^ b - 1)) :: .int (nI a) :: rest)) := lv_iand hx hb hdg (x_re (nI_mask h1 h2) k)
theorem x_idiv (hx : p.tables.exec = Jvm.exec) (hb : c.code = cc) {a b : Nat} (hdg : decode cc pc = .ok (.idiv, 1)) (h1 : a < 2147483648) (h0 : 0 < b) (h2 : b < 2147483648) (k : W p la e R s m args below meth c H locs cells slots Q (F0 m (pc + 1) ls (.int (nI (a / b)) :: rest))) : W p la e R s m args below meth c H locs cells slots Q (F0 m pc ls (.int (nI b) :: .int (nI a) :: rest)) := lv_idiv hx hb hdg (nI_ne0 h0 h2) (x_re (pk_div h1 h0 h2) k)
theorem x_irem (hx : p.tables.exec = Jvm.exec) (hb : c.code = cc) {a b : Nat} (hdg : decode cc pc = .ok (.irem, 1)) (h1 : a < 2147483648) (h0 : 0 < b) (h2 : b < 2147483648) (k : W p la e R s m args below meth c H locs cells slots Q (F0 m (pc + 1) ls (.int (nI (a % b)) :: rest))) : W p la e R s m args below meth c H locs cells slots Q (F0 m pc ls (.int (nI b) :: .int (nI a) :: rest)) := lv_irem hx hb hdg (nI_ne0 h0 h2) (x_re (pk_rem h1 h0 h2) k)
theorem x_icmp_lt (hx : p.tables.exec = Jvm.exec) (hb : c.code = cc) {a b : Nat} {off : Int} {tgt : Nat} (hdg : decode cc pc = .ok (.if_icmp .lt off, 3)) (ht : (pc : Int) + off = (tgt : Int)) (h1 : a < 2147483648) (h2 : b < 2147483648) (kt : a < b → W p la e R s m args below meth c H locs cells slots Q (F0 m tgt ls rest)) (kf : b ≤ a → W p la e R s m args below meth c H locs cells slots Q (F0 m (pc + 3) ls rest)) : W p la e R s m args below meth c H locs cells slots Q (F0 m pc ls (.int (nI b) :: .int (nI a) :: rest)) := lv_icmp_lt hx hb hdg ht (fun h => kt ((nI_ltI h1 h2).1 h)) (fun h => kf (Nat.not_lt.mp fun q => h ((nI_ltI h1 h2).2 q)))
theorem x_icmp_ge (hx : p.tables.exec = Jvm.exec) (hb : c.code = cc) {a b : Nat} {off : Int} {tgt : Nat} (hdg : decode cc pc = .ok (.if_icmp .ge off, 3)) (ht : (pc : Int) + off = (tgt : Int)) (h1 : a < 2147483648) (h2 : b < 2147483648) (kt : b ≤ a → W p la e R s m args below meth c H locs cells slots Q (F0 m tgt ls rest)) (kf : a < b → W p la e R s m args below meth c H locs cells slots Q (F0 m (pc + 3) ls rest)) : W p la e R s m args below meth c H locs cells slots Q (F0 m pc ls (.int (nI b) :: .int (nI a) :: rest)) := lv_icmp_ge hx hb hdg ht (fun h => kt ((nI_leI h2 h1).1 h)) (fun h => kf (Nat.not_le.mp fun q => h ((nI_leI h2 h1).2 q)))
theorem x_icmp_gt (hx : p.tables.exec = Jvm.exec) (hb : c.code = cc) {a b : Nat} {off : Int} {tgt : Nat} (hdg : decode cc pc = .ok (.if_icmp .gt off, 3)) (ht : (pc : Int) + off = (tgt : Int)) (h1 : a < 2147483648) (h2 : b < 2147483648) (kt : b < a → W p la e R s m args below meth c H locs cells slots Q (F0 m tgt ls rest)) (kf : a ≤ b → W p la e R s m args below meth c H locs cells slots Q (F0 m (pc + 3) ls rest)) : W p la e R s m args below meth c H locs cells slots Q (F0 m pc ls (.int (nI b) :: .int (nI a) :: rest)) := lv_icmp_gt hx hb hdg ht (fun h => kt ((nI_ltI h2 h1).1 h)) (fun h => kf (Nat.not_lt.mp fun q => h ((nI_ltI h2 h1).2 q)))
theorem x_icmp_le (hx : p.tables.exec = Jvm.exec) (hb : c.code = cc) {a b : Nat} {off : Int} {tgt : Nat} (hdg : decode cc pc = .ok (.if_icmp .le off, 3)) (ht : (pc : Int) + off = (tgt : Int)) (h1 : a < 2147483648) (h2 : b < 2147483648) (kt : a ≤ b → W p la e R s m args below meth c H locs cells slots Q (F0 m tgt ls rest)) (kf : b < a → W p la e R s m args below meth c H locs cells slots Q (F0 m (pc + 3) ls rest)) : W p la e R s m args below meth c H locs cells slots Q (F0 m pc ls (.int (nI b) :: .int (nI a) :: rest)) := lv_icmp_le hx hb hdg ht (fun h => kt ((nI_leI h1 h2).1 h)) (fun h => kf (Nat.not_le.mp fun q => h ((nI_leI h1 h2).2 q)))
theorem x_icmp_eq (hx : p.tables.exec = Jvm.exec) (hb : c.code = cc) {a b : Nat} {off : Int} {tgt : Nat} (hdg : decode cc pc = .ok (.if_icmp .eq off, 3)) (ht : (pc : Int) + off = (tgt : Int)) (h1 : a < 2147483648) (h2 : b < 2147483648) (kt : a = b → W p la e R s m args below meth c H locs cells slots Q (F0 m tgt ls rest)) (kf : a ≠ b → W p la e R s m args below meth c H locs cells slots Q (F0 m (pc + 3) ls rest)) : W p la e R s m args below meth c H locs cells slots Q (F0 m pc ls (.int (nI b) :: .int (nI a) :: rest)) := lv_icmp_eq hx hb hdg ht (fun h => kt ((nI_eq h1 h2).1 h)) (fun h => kf (fun q => h ((nI_eq h1 h2).2 q)))
theorem x_icmp_ne (hx : p.tables.exec = Jvm.exec) (hb : c.code = cc) {a b : Nat} {off : Int} {tgt : Nat} (hdg : decode cc pc = .ok (.if_icmp .ne off, 3)) (ht : (pc : Int) + off = (tgt : Int)) (h1 : a < 2147483648) (h2 : b < 2147483648) (kt : a ≠ b → W p la e R s m args below meth c H locs cells slots Q (F0 m tgt ls rest)) (kf : a = b → W p la e R s m args below meth c H locs cells slots Q (F0 m (pc + 3) ls rest)) : W p la e R s m args below meth c H locs cells slots Q (F0 m pc ls (.int (nI b) :: .int (nI a) :: rest)) := lv_icmp_ne hx hb hdg ht (fun h => kt (fun q => h ((nI_eq h1 h2).2 q))) (fun h => kf ((nI_eq h1 h2).1 h))
end XN
theorem ii_p (a n : Nat) : nI a + Int32.ofInt (n : Int) = nI (a + n) := by
  rw [← nI_add]
  congr 1
theorem ii_m (a : Nat) : nI a + Int32.ofInt (-1) = oI a := oI_dec a
section XZ
variable {p : Program} {la : Launch} {e : Env} {R : Room} {s : State} {m : MethodId} {args : Array Value} {below : List Frame} {meth : Method} {c : Code} {H : Heap} {locs : List Loc} {cells slots : Nat} {Q : State → Prop}
variable {cc : ByteArray} {pc : Nat} {ls : Array Slot} {rest : List Value}
theorem x_if_eq (hx : p.tables.exec = Jvm.exec) (hb : c.code = cc) {a : Nat} {off : Int} {tgt : Nat} (hdg : decode cc pc = .ok (.ifCond .eq off, 3)) (ht : (pc : Int) + off = (tgt : Int)) (h1 : a < 2147483648) (kt : a = 0 → W p la e R s m args below meth c H locs cells slots Q (F0 m tgt ls rest)) (kf : a ≠ 0 → W p la e R s m args below meth c H locs cells slots Q (F0 m (pc + 3) ls rest)) : W p la e R s m args below meth c H locs cells slots Q (F0 m pc ls (.int (nI a) :: rest)) := lv_if_eq hx hb hdg ht (fun h => kt ((nI_eq h1 (by omega)).1 (h.trans nI_0.symm))) (fun h => kf (fun q => h (by rw [q]; exact nI_0)))
theorem x_if_ne (hx : p.tables.exec = Jvm.exec) (hb : c.code = cc) {a : Nat} {off : Int} {tgt : Nat} (hdg : decode cc pc = .ok (.ifCond .ne off, 3)) (ht : (pc : Int) + off = (tgt : Int)) (h1 : a < 2147483648) (kt : a ≠ 0 → W p la e R s m args below meth c H locs cells slots Q (F0 m tgt ls rest)) (kf : a = 0 → W p la e R s m args below meth c H locs cells slots Q (F0 m (pc + 3) ls rest)) : W p la e R s m args below meth c H locs cells slots Q (F0 m pc ls (.int (nI a) :: rest)) := lv_if_ne hx hb hdg ht (fun h => kt (fun q => h (by rw [q]; exact nI_0))) (fun h => kf ((nI_eq h1 (by omega)).1 (h.trans nI_0.symm)))
end XZ
end
section
/-! fields, arrays, static tables -/
def fO (own : String) (idx ci k : Nat) : Prop := ∃ (C : String) (T : u_T) (N : Nat), cls[ci]? = some (C, T, N) ∧ k < N ∧ (∀ w ∈ u_ws C T N, w ∈ wg) ∧ Cond.fieldLink own idx (T k).1 (T k).2.1 (T k).2.2.1 ∈ wg
def fN (own : String) (idx ci k : Nat) : Prop := ∃ (C : String) (T : u_T) (N : Nat), cls[ci]? = some (C, T, N) ∧ k < N ∧ (∀ w ∈ u_ws C T N, w ∈ wg) ∧ Cond.fieldLinkNest own idx (T k).1 (T k).2.1 (T k).2.2.1 R_CI ∈ nws
def fT (ci : Nat) (ty : Nat → FieldType) : Prop := ∃ (C : String) (T : u_T) (N : Nat), cls[ci]? = some (C, T, N) ∧ (∀ k, k < N → parseFieldDescriptor (T k).2.2.1 = some (ty k)) ∧ (∀ a, a < N → ∀ b, b < N → a ≠ b → (T a).2.1 ≠ (T b).2.1)
def fM (ci k : Nat) (fin : Bool) : Prop := ∃ (C : String) (T : u_T) (N : Nat), cls[ci]? = some (C, T, N) ∧ (T k).2.2.2 = fin ∧ (T k).1 = C
section XF
variable {p : Program} {la : Launch} {e : Env} {R : Room} {s : State} {m : MethodId} {args : Array Value} {below : List Frame} {meth : Method} {c : Code} {H : Heap} {locs : List Loc} {cells slots : Nat} {Q : State → Prop}
variable {cc : ByteArray} {pc nL idx ci a : Nat} {ls : Array Slot} {rest : List Value} {own : String} {k0 : Cond} {G : gG} {ws : va_W} {A : Nat → Prop}
theorem y_get (S : CallFix p m c cc nL s args (k0 :: wg) own) (hk : kx G s) (hP : va_P G.1 cls ws H) (q0 : Nat) {fs : List Value} (he : ws[q0]? = some (a, .inr (ci, fs))) {k : Nat} (hf : fO own idx ci k) {v : Value} (hv : fs[k]? = some v) (hdg : decode cc pc = .ok (.getfield idx, 3))
    (kk : W p la e R s m args below meth c H locs cells slots Q (F0 m (pc + 3) ls (v :: rest))) : W p la e R s m args below meth c H locs cells slots Q (F0 m pc ls (.ref a :: rest)) := by
  obtain ⟨C, T, N, h1, h2, h3, h4⟩ := hf
  exact va_get S.1 S.2.1 S.2.2.2.2 (fun w hw => List.mem_cons_of_mem _ (h3 w hw)) S.2.2.2.1 hk.1 hP q0 he h1 k h2 (S.2.2.2.2 _ (List.mem_cons_of_mem _ h4)) (fun _ h => h) hv hdg kk
theorem y_getN (S : CallFix p m c cc nL s args (k0 :: wg) own) (hk : kx G s) (hP : va_P G.1 cls ws H) (q0 : Nat) {fs : List Value} (he : ws[q0]? = some (a, .inr (ci, fs))) {k : Nat} (hf : fN own idx ci k) {v : Value} (hv : fs[k]? = some v) (hdg : decode cc pc = .ok (.getfield idx, 3))
    (kk : W p la e R s m args below meth c H locs cells slots Q (F0 m (pc + 3) ls (v :: rest))) : W p la e R s m args below meth c H locs cells slots Q (F0 m pc ls (.ref a :: rest)) := by
  obtain ⟨C, T, N, h1, h2, h3, h4⟩ := hf
  exact va_getN S.1 S.2.1 S.2.2.2.2 (fun w hw => List.mem_cons_of_mem _ (h3 w hw)) S.2.2.2.1 hk.1 hP q0 he h1 k h2 (va_Nw.use rfl (hk.2 _ h4)) (fun _ h => h) hv hdg kk
theorem y_put (S : CallFix p m c cc nL s args (k0 :: wg) own) (hk : kx G s) (hP : va_P G.1 cls ws H) (hD : va_D A ws) (hS : va_S A s.heap H locs) (q0 : Nat) {fs : List Value} (he : ws[q0]? = some (a, .inr (ci, fs))) {k : Nat} (hf : fO own idx ci k) {ty : Nat → FieldType} (hT : fT ci ty) (hM : fM ci k false) {v : Value} (hn : narrow (ty k) v = v) (hfit : fits (ty k) v = true) (hl : k < fs.length) (hdg : decode cc pc = .ok (.putfield idx, 3))
    (kk : ∀ (H : Heap) (locs : List Loc), va_P G.1 cls (ws.set q0 (a, .inr (ci, fs.set k v))) H → va_D A (ws.set q0 (a, .inr (ci, fs.set k v))) → va_S A s.heap H locs → W p la e R s m args below meth c H locs cells slots Q (F0 m (pc + 3) ls rest)) : W p la e R s m args below meth c H locs cells slots Q (F0 m pc ls (v :: .ref a :: rest)) := by
  obtain ⟨C, T, N, h1, h2, h3, h4⟩ := hf
  obtain ⟨C', T', N', g1, g2, g3⟩ := hT
  cases h1.symm.trans g1
  obtain ⟨C', T', N', g1, g4, g5⟩ := hM
  cases h1.symm.trans g1
  exact va_put S.1 S.2.1 S.2.2.2.2 (fun w hw => List.mem_cons_of_mem _ (h3 w hw)) ty g2 g3 S.2.2.2.1 hk.1 hP hD hS q0 he h1 k h2 (S.2.2.2.2 _ (List.mem_cons_of_mem _ h4)) (fun _ h => h) g4 (g2 k h2) hn hfit hl hdg kk
/-- a final field, in its constructor -/
theorem y_putF (S : CallFix p m c cc nL s args (k0 :: wg) own) (hin : meth.name = "<init>") (hk : kx G s) (hP : va_P G.1 cls ws H) (hD : va_D A ws) (hS : va_S A s.heap H locs) (q0 : Nat) {fs : List Value} (he : ws[q0]? = some (a, .inr (ci, fs))) {k : Nat} (hf : fO own idx ci k) {ty : Nat → FieldType} (hT : fT ci ty) (hM : fM ci k true) (hown : ∃ (T : u_T) (N : Nat), cls[ci]? = some (own, T, N)) {v : Value} (hn : narrow (ty k) v = v) (hfit : fits (ty k) v = true) (hl : k < fs.length) (hdg : decode cc pc = .ok (.putfield idx, 3))
    (kk : ∀ (H : Heap) (locs : List Loc), va_P G.1 cls (ws.set q0 (a, .inr (ci, fs.set k v))) H → va_D A (ws.set q0 (a, .inr (ci, fs.set k v))) → va_S A s.heap H locs → W p la e R s m args below meth c H locs cells slots Q (F0 m (pc + 3) ls rest)) : W p la e R s m args below meth c H locs cells slots Q (F0 m pc ls (v :: .ref a :: rest)) := by
  obtain ⟨C, T, N, h1, h2, h3, h4⟩ := hf
  obtain ⟨C', T', N', g1, g2, g3⟩ := hT
  cases h1.symm.trans g1
  obtain ⟨C', T', N', g1, g4, g5⟩ := hM
  cases h1.symm.trans g1
  obtain ⟨T', N', g1⟩ := hown
  cases h1.symm.trans g1
  exact va_putF S.1 S.2.1 S.2.2.2.2 (fun w hw => List.mem_cons_of_mem _ (h3 w hw)) ty g2 g3 S.2.2.2.1 hk.1 hP hD hS q0 he h1 k h2 (S.2.2.2.2 _ (List.mem_cons_of_mem _ h4)) (fun _ h => h) g4 hin g5 (g2 k h2) hn hfit hl hdg kk
theorem y_ald (hx : p.tables.exec = Jvm.exec) (hb : c.code = cc) (hk : kx G s) (hP : va_P G.1 cls ws H) (q0 : Nat) {n : Nat} {K : Nat → Nat} (he : ws[q0]? = some (a, .inl (G.2.1, n, .inl (fun j => nI (K j))))) {i : Nat} (hi : i < n) (hn : n < 2147483648) (hdg : decode cc pc = .ok (.iaload, 1))
    (kk : W p la e R s m args below meth c H locs cells slots Q (F0 m (pc + 1) ls (.int (nI (K i)) :: rest))) : W p la e R s m args below meth c H locs cells slots Q (F0 m pc ls (.int (nI i) :: .ref a :: rest)) := by
  refine va_iald hx hb hk.1 hP q0 0 he rfl (vp_in_nI hi hn) hdg ?_
  rw [nI_clamp (by omega)]
  exact kk
theorem y_ast (hx : p.tables.exec = Jvm.exec) (hb : c.code = cc) (hk : kx G s) (hP : va_P G.1 cls ws H) (hD : va_D A ws) (hS : va_S A s.heap H locs) (q0 : Nat) {n : Nat} {K : Nat → Nat} (he : ws[q0]? = some (a, .inl (G.2.1, n, .inl (fun j => nI (K j))))) {i v : Nat} (hi : i < n) (hn : n < 2147483648) (hdg : decode cc pc = .ok (.iastore, 1))
    (kk : ∀ (H : Heap) (locs : List Loc), va_P G.1 cls (ws.set q0 (a, .inl (G.2.1, n, .inl (fun j => nI (va_up K i v j))))) H → va_D A (ws.set q0 (a, .inl (G.2.1, n, .inl (fun j => nI (va_up K i v j))))) → va_S A s.heap H locs → W p la e R s m args below meth c H locs cells slots Q (F0 m (pc + 1) ls rest)) : W p la e R s m args below meth c H locs cells slots Q (F0 m pc ls (.int (nI v) :: .int (nI i) :: .ref a :: rest)) := by
  refine va_iast hx hb hk.1 hP hD hS q0 0 he rfl (vp_in_nI hi hn) hdg ?_
  rw [nI_clamp (by omega), up_nI]
  exact kk
/-- a static table: its cell, and what it holds -/
theorem y_gets (S : CallFix p m c cc nL s args (k0 :: wg) own) {n : String} {t : Nat} {f : Nat → Nat} (hs : sx1 n t f A s s.heap) (hS : va_S A s.heap H locs) (hl : Cond.fieldLink own idx R_CI n "[I" ∈ wg) (hdg : decode cc pc = .ok (.getstatic idx, 3))
    (kk : W p la e R s m args below meth c H locs cells slots Q (F0 m (pc + 3) ls (.ref t :: rest))) : W p la e R s m args below meth c H locs cells slots Q (F0 m pc ls rest) :=
  va_gets S.1 S.2.1 hs.1 hS S.2.2.2.1 (S.2.2.2.2 _ (List.mem_cons_of_mem _ hl)) (fun _ h => h) hdg kk
theorem y_getsN (S : CallFix p m c cc nL s args (k0 :: wg) own) (hk : kx G s) {n : String} {t : Nat} {f : Nat → Nat} (hs : sx1 n t f A s s.heap) (hS : va_S A s.heap H locs) (hl : Cond.fieldLinkNest own idx R_CI n "[I" R_CI ∈ nws) (hdg : decode cc pc = .ok (.getstatic idx, 3))
    (kk : W p la e R s m args below meth c H locs cells slots Q (F0 m (pc + 3) ls (.ref t :: rest))) : W p la e R s m args below meth c H locs cells slots Q (F0 m pc ls rest) :=
  va_getsN S.1 S.2.1 hs.1 hS S.2.2.2.1 (va_Nw.use rfl (hk.2 _ hl)) (fun _ h => h) hdg kk
theorem y_ti (hx : p.tables.exec = Jvm.exec) (hb : c.code = cc) {n : String} {t : Nat} {f : Nat → Nat} (hs : sx1 n t f A s s.heap) (hS : va_S A s.heap H locs) {i : Nat} (hi : i < 20) (hdg : decode cc pc = .ok (.iaload, 1))
    (kk : W p la e R s m args below meth c H locs cells slots Q (F0 m (pc + 1) ls (.int (nI (f i)) :: rest))) : W p la e R s m args below meth c H locs cells slots Q (F0 m pc ls (.int (nI i) :: .ref t :: rest)) :=
  va_ti hx hb hs.2 hS (vp_in_nI hi (by omega)) (by rw [nI_clamp (by omega)]) hdg kk
end XF
end
section
/-! the words of field accesses and of call sites (printed by gen/names.py) -/
theorem T_0 : fT 0 t_CI := ⟨R_CI, F_CI, 4, rfl, t_CI_ok, n_CI⟩
theorem M_0_0 : fM 0 0 true := ⟨R_CI, F_CI, 4, rfl, rfl, rfl⟩
theorem M_0_1 : fM 0 1 true := ⟨R_CI, F_CI, 4, rfl, rfl, rfl⟩
theorem M_0_2 : fM 0 2 false := ⟨R_CI, F_CI, 4, rfl, rfl, rfl⟩
theorem M_0_3 : fM 0 3 false := ⟨R_CI, F_CI, 4, rfl, rfl, rfl⟩
theorem T_1 : fT 1 t_Row := ⟨R_Row, F_Row, 4, rfl, t_Row_ok, n_Row⟩
theorem M_1_0 : fM 1 0 true := ⟨R_Row, F_Row, 4, rfl, rfl, rfl⟩
theorem M_1_1 : fM 1 1 true := ⟨R_Row, F_Row, 4, rfl, rfl, rfl⟩
theorem M_1_2 : fM 1 2 true := ⟨R_Row, F_Row, 4, rfl, rfl, rfl⟩
theorem M_1_3 : fM 1 3 false := ⟨R_Row, F_Row, 4, rfl, rfl, rfl⟩
theorem T_2 : fT 2 t_Fr := ⟨R_Fr, F_Fr, 4, rfl, t_Fr_ok, n_Fr⟩
theorem M_2_0 : fM 2 0 true := ⟨R_Fr, F_Fr, 4, rfl, rfl, rfl⟩
theorem M_2_1 : fM 2 1 true := ⟨R_Fr, F_Fr, 4, rfl, rfl, rfl⟩
theorem M_2_2 : fM 2 2 true := ⟨R_Fr, F_Fr, 4, rfl, rfl, rfl⟩
theorem M_2_3 : fM 2 3 true := ⟨R_Fr, F_Fr, 4, rfl, rfl, rfl⟩
theorem T_3 : fT 3 t_RW := ⟨R_RW, F_RW, 6, rfl, t_RW_ok, n_RW⟩
theorem M_3_0 : fM 3 0 true := ⟨R_RW, F_RW, 6, rfl, rfl, rfl⟩
theorem M_3_1 : fM 3 1 true := ⟨R_RW, F_RW, 6, rfl, rfl, rfl⟩
theorem M_3_2 : fM 3 2 false := ⟨R_RW, F_RW, 6, rfl, rfl, rfl⟩
theorem M_3_3 : fM 3 3 false := ⟨R_RW, F_RW, 6, rfl, rfl, rfl⟩
theorem M_3_4 : fM 3 4 false := ⟨R_RW, F_RW, 6, rfl, rfl, rfl⟩
theorem M_3_5 : fM 3 5 false := ⟨R_RW, F_RW, 6, rfl, rfl, rfl⟩
theorem T_4 : fT 4 t_Mo := ⟨R_Mo, F_Mo, 10, rfl, t_Mo_ok, n_Mo⟩
theorem M_4_0 : fM 4 0 false := ⟨R_Mo, F_Mo, 10, rfl, rfl, rfl⟩
theorem M_4_1 : fM 4 1 false := ⟨R_Mo, F_Mo, 10, rfl, rfl, rfl⟩
theorem M_4_2 : fM 4 2 true := ⟨R_Mo, F_Mo, 10, rfl, rfl, rfl⟩
theorem M_4_3 : fM 4 3 true := ⟨R_Mo, F_Mo, 10, rfl, rfl, rfl⟩
theorem M_4_4 : fM 4 4 false := ⟨R_Mo, F_Mo, 10, rfl, rfl, rfl⟩
theorem M_4_5 : fM 4 5 false := ⟨R_Mo, F_Mo, 10, rfl, rfl, rfl⟩
theorem M_4_6 : fM 4 6 false := ⟨R_Mo, F_Mo, 10, rfl, rfl, rfl⟩
theorem M_4_7 : fM 4 7 false := ⟨R_Mo, F_Mo, 10, rfl, rfl, rfl⟩
theorem M_4_8 : fM 4 8 true := ⟨R_Mo, F_Mo, 10, rfl, rfl, rfl⟩
theorem M_4_9 : fM 4 9 true := ⟨R_Mo, F_Mo, 10, rfl, rfl, rfl⟩
theorem v_Law_9 : wI R_Law 9 y_CI_init b_CI_init 1 0 := ⟨⟨(wq 33 (by decide +kernel)), (wq 43 (by decide +kernel)), by decide +kernel, by decide +kernel, by decide +kernel⟩, (wq 41 (by decide +kernel)), (wq 42 (by decide +kernel)), by decide +kernel⟩
theorem v_CI_9 : wIN R_CI 9 y_Row_init b_Row_init 1 0 := ⟨⟨(wq 34 (by decide +kernel)), (wq 50 (by decide +kernel)), by decide +kernel, by decide +kernel, by decide +kernel⟩, (nwq 0 (by decide +kernel)), (wq 49 (by decide +kernel)), by decide +kernel⟩
theorem f_Row_9 : fO R_Row 9 1 0 := ⟨R_Row, F_Row, 4, rfl, by decide, in_Row, (wq 52 (by decide +kernel))⟩
theorem f_Row_15 : fO R_Row 15 1 1 := ⟨R_Row, F_Row, 4, rfl, by decide, in_Row, (wq 53 (by decide +kernel))⟩
theorem f_CI_76 : fN R_CI 76 1 1 := ⟨R_Row, F_Row, 4, rfl, by decide, in_Row, (nwq 1 (by decide +kernel))⟩
theorem f_Row_18 : fO R_Row 18 1 2 := ⟨R_Row, F_Row, 4, rfl, by decide, in_Row, (wq 54 (by decide +kernel))⟩
theorem f_CI_83 : fN R_CI 83 1 2 := ⟨R_Row, F_Row, 4, rfl, by decide, in_Row, (nwq 2 (by decide +kernel))⟩
theorem f_Row_21 : fO R_Row 21 1 3 := ⟨R_Row, F_Row, 4, rfl, by decide, in_Row, (wq 55 (by decide +kernel))⟩
theorem f_CI_73 : fN R_CI 73 1 3 := ⟨R_Row, F_Row, 4, rfl, by decide, in_Row, (nwq 3 (by decide +kernel))⟩
theorem v_CI_25 : wIN R_CI 25 y_Fr_init b_Fr_init 5 4 := ⟨⟨(wq 35 (by decide +kernel)), (wq 64 (by decide +kernel)), by decide +kernel, by decide +kernel, by decide +kernel⟩, (nwq 4 (by decide +kernel)), (wq 63 (by decide +kernel)), by decide +kernel⟩
theorem f_Fr_7 : fO R_Fr 7 2 0 := ⟨R_Fr, F_Fr, 4, rfl, by decide, in_Fr, (wq 66 (by decide +kernel))⟩
theorem f_Fr_13 : fO R_Fr 13 2 1 := ⟨R_Fr, F_Fr, 4, rfl, by decide, in_Fr, (wq 67 (by decide +kernel))⟩
theorem f_Fr_16 : fO R_Fr 16 2 2 := ⟨R_Fr, F_Fr, 4, rfl, by decide, in_Fr, (wq 68 (by decide +kernel))⟩
theorem f_Fr_19 : fO R_Fr 19 2 3 := ⟨R_Fr, F_Fr, 4, rfl, by decide, in_Fr, (wq 69 (by decide +kernel))⟩
theorem f_CI_10 : fO R_CI 10 0 0 := ⟨R_CI, F_CI, 4, rfl, by decide, in_CI, (wq 74 (by decide +kernel))⟩
theorem f_CI_16 : fO R_CI 16 0 1 := ⟨R_CI, F_CI, 4, rfl, by decide, in_CI, (wq 75 (by decide +kernel))⟩
theorem f_CI_19 : fO R_CI 19 0 2 := ⟨R_CI, F_CI, 4, rfl, by decide, in_CI, (wq 76 (by decide +kernel))⟩
theorem f_CI_28 : fO R_CI 28 0 3 := ⟨R_CI, F_CI, 4, rfl, by decide, in_CI, (wq 77 (by decide +kernel))⟩
theorem v_Law_13 : wV R_Law 13 y_CI_begin b_CI_begin 2 (some .boolean) 1 := ⟨⟨(wq 33 (by decide +kernel)), (wq 85 (by decide +kernel)), by decide +kernel, by decide +kernel, by decide +kernel⟩, (wq 82 (by decide +kernel)), (wq 83 (by decide +kernel)), (wq 84 (by decide +kernel))⟩
theorem v_CI_32 : wVN R_CI 32 y_Row_clear b_Row_clear 1 none 0 := ⟨⟨(wq 34 (by decide +kernel)), (wq 87 (by decide +kernel)), by decide +kernel, by decide +kernel, by decide +kernel⟩, (nwq 5 (by decide +kernel)), (wq 86 (by decide +kernel)), (wq 0 (by decide +kernel))⟩
theorem v_Law_18 : wV R_Law 18 y_CI_key b_CI_key 4 (some .int) 3 := ⟨⟨(wq 33 (by decide +kernel)), (wq 91 (by decide +kernel)), by decide +kernel, by decide +kernel, by decide +kernel⟩, (wq 88 (by decide +kernel)), (wq 89 (by decide +kernel)), (wq 90 (by decide +kernel))⟩
theorem v_CI_35 : wS R_CI 35 y_CI_isCurve b_CI_isCurve 1 (some .boolean) 1 := ⟨⟨(wq 33 (by decide +kernel)), (wq 94 (by decide +kernel)), by decide +kernel, by decide +kernel, by decide +kernel⟩, (wq 92 (by decide +kernel)), (wq 93 (by decide +kernel))⟩
theorem v_CI_39 : wV R_CI 39 y_CI_isCell b_CI_isCell 4 (some .boolean) 2 := ⟨⟨(wq 33 (by decide +kernel)), (wq 97 (by decide +kernel)), by decide +kernel, by decide +kernel, by decide +kernel⟩, (wq 95 (by decide +kernel)), (wq 96 (by decide +kernel)), (wq 1 (by decide +kernel))⟩
theorem v_CI_43 : wV R_CI 43 y_CI_keyOf b_CI_keyOf 9 (some .int) 3 := ⟨⟨(wq 33 (by decide +kernel)), (wq 100 (by decide +kernel)), by decide +kernel, by decide +kernel, by decide +kernel⟩, (wq 98 (by decide +kernel)), (wq 99 (by decide +kernel)), (wq 2 (by decide +kernel))⟩
theorem v_CI_117 : wS R_CI 117 y_CI_firstState b_CI_firstState 1 (some .int) 1 := ⟨⟨(wq 33 (by decide +kernel)), (wq 103 (by decide +kernel)), by decide +kernel, by decide +kernel, by decide +kernel⟩, (wq 101 (by decide +kernel)), (wq 102 (by decide +kernel))⟩
theorem s_CI_120 : Cond.fieldLink R_CI 120 R_CI "STEP_OF_QUARTER" "[I" ∈ wg := (wq 104 (by decide +kernel))
theorem s_CI_123 : Cond.fieldLink R_CI 123 R_CI "STATE_AFTER_STEP" "[I" ∈ wg := (wq 105 (by decide +kernel))
theorem v_Law_23 : wV R_Law 23 y_CI_cell b_CI_cell 3 (some .int) 2 := ⟨⟨(wq 33 (by decide +kernel)), (wq 109 (by decide +kernel)), by decide +kernel, by decide +kernel, by decide +kernel⟩, (wq 106 (by decide +kernel)), (wq 107 (by decide +kernel)), (wq 108 (by decide +kernel))⟩
theorem v_CI_47 : wV R_CI 47 y_CI_isKey b_CI_isKey 2 (some .boolean) 1 := ⟨⟨(wq 33 (by decide +kernel)), (wq 112 (by decide +kernel)), by decide +kernel, by decide +kernel, by decide +kernel⟩, (wq 110 (by decide +kernel)), (wq 111 (by decide +kernel)), (wq 3 (by decide +kernel))⟩
theorem v_CI_50 : wV R_CI 50 y_CI_cellOf b_CI_cellOf 9 (some .int) 2 := ⟨⟨(wq 33 (by decide +kernel)), (wq 115 (by decide +kernel)), by decide +kernel, by decide +kernel, by decide +kernel⟩, (wq 113 (by decide +kernel)), (wq 114 (by decide +kernel)), (wq 4 (by decide +kernel))⟩
theorem s_CI_126 : Cond.fieldLink R_CI 126 R_CI "QUARTER_OF_STEP" "[I" ∈ wg := (wq 116 (by decide +kernel))
theorem v_CI_62 : wV R_CI 62 y_CI_cellNumber b_CI_cellNumber 3 (some .int) 2 := ⟨⟨(wq 33 (by decide +kernel)), (wq 119 (by decide +kernel)), by decide +kernel, by decide +kernel, by decide +kernel⟩, (wq 117 (by decide +kernel)), (wq 118 (by decide +kernel)), (wq 5 (by decide +kernel))⟩
theorem v_Law_28 : wV R_Law 28 y_CI_put b_CI_put 7 (some .int) 3 := ⟨⟨(wq 33 (by decide +kernel)), (wq 123 (by decide +kernel)), by decide +kernel, by decide +kernel, by decide +kernel⟩, (wq 120 (by decide +kernel)), (wq 121 (by decide +kernel)), (wq 122 (by decide +kernel))⟩
theorem v_CI_54 : wVN R_CI 54 y_Row_weightOf b_Row_weightOf 3 (some .int) 1 := ⟨⟨(wq 34 (by decide +kernel)), (wq 125 (by decide +kernel)), by decide +kernel, by decide +kernel, by decide +kernel⟩, (nwq 6 (by decide +kernel)), (wq 124 (by decide +kernel)), (wq 6 (by decide +kernel))⟩
theorem v_Row_25 : wV R_Row 25 y_Row_placeOf b_Row_placeOf 3 (some .int) 1 := ⟨⟨(wq 34 (by decide +kernel)), (wq 128 (by decide +kernel)), by decide +kernel, by decide +kernel, by decide +kernel⟩, (wq 126 (by decide +kernel)), (wq 127 (by decide +kernel)), (wq 7 (by decide +kernel))⟩
theorem v_Row_29 : wV R_Row 29 y_Row_isKeyAt b_Row_isKeyAt 3 (some .boolean) 2 := ⟨⟨(wq 34 (by decide +kernel)), (wq 131 (by decide +kernel)), by decide +kernel, by decide +kernel, by decide +kernel⟩, (wq 129 (by decide +kernel)), (wq 130 (by decide +kernel)), (wq 8 (by decide +kernel))⟩
theorem v_CI_58 : wVN R_CI 58 y_Row_isFull b_Row_isFull 1 (some .boolean) 0 := ⟨⟨(wq 34 (by decide +kernel)), (wq 133 (by decide +kernel)), by decide +kernel, by decide +kernel, by decide +kernel⟩, (nwq 7 (by decide +kernel)), (wq 132 (by decide +kernel)), (wq 9 (by decide +kernel))⟩
theorem v_CI_65 : wVN R_CI 65 y_Row_keep b_Row_keep 5 none 3 := ⟨⟨(wq 34 (by decide +kernel)), (wq 135 (by decide +kernel)), by decide +kernel, by decide +kernel, by decide +kernel⟩, (nwq 8 (by decide +kernel)), (wq 134 (by decide +kernel)), (wq 10 (by decide +kernel))⟩
theorem v_Row_33 : wV R_Row 33 y_Row_isFull b_Row_isFull 1 (some .boolean) 0 := ⟨⟨(wq 34 (by decide +kernel)), (wq 133 (by decide +kernel)), by decide +kernel, by decide +kernel, by decide +kernel⟩, (wq 136 (by decide +kernel)), (wq 132 (by decide +kernel)), (wq 9 (by decide +kernel))⟩
theorem v_Row_37 : wV R_Row 37 y_Row_moveTail b_Row_moveTail 4 none 2 := ⟨⟨(wq 34 (by decide +kernel)), (wq 139 (by decide +kernel)), by decide +kernel, by decide +kernel, by decide +kernel⟩, (wq 137 (by decide +kernel)), (wq 138 (by decide +kernel)), (wq 11 (by decide +kernel))⟩
theorem v_Law_32 : wV R_Law 32 y_CI_take b_CI_take 5 (some .int) 2 := ⟨⟨(wq 33 (by decide +kernel)), (wq 146 (by decide +kernel)), by decide +kernel, by decide +kernel, by decide +kernel⟩, (wq 143 (by decide +kernel)), (wq 144 (by decide +kernel)), (wq 145 (by decide +kernel))⟩
theorem v_CI_69 : wVN R_CI 69 y_Row_drop b_Row_drop 3 none 1 := ⟨⟨(wq 34 (by decide +kernel)), (wq 148 (by decide +kernel)), by decide +kernel, by decide +kernel, by decide +kernel⟩, (nwq 9 (by decide +kernel)), (wq 147 (by decide +kernel)), (wq 12 (by decide +kernel))⟩
theorem v_Law_36 : wV R_Law 36 y_CI_at b_CI_at 3 (some .int) 2 := ⟨⟨(wq 33 (by decide +kernel)), (wq 152 (by decide +kernel)), by decide +kernel, by decide +kernel, by decide +kernel⟩, (wq 149 (by decide +kernel)), (wq 150 (by decide +kernel)), (wq 151 (by decide +kernel))⟩
theorem v_Law_40 : wV R_Law 40 y_CI_many b_CI_many 1 (some .int) 0 := ⟨⟨(wq 33 (by decide +kernel)), (wq 156 (by decide +kernel)), by decide +kernel, by decide +kernel, by decide +kernel⟩, (wq 153 (by decide +kernel)), (wq 154 (by decide +kernel)), (wq 155 (by decide +kernel))⟩
theorem v_Law_45 : wV R_Law 45 y_CI_window b_CI_window 5 (some .boolean) 4 := ⟨⟨(wq 33 (by decide +kernel)), (wq 160 (by decide +kernel)), by decide +kernel, by decide +kernel, by decide +kernel⟩, (wq 157 (by decide +kernel)), (wq 158 (by decide +kernel)), (wq 159 (by decide +kernel))⟩
theorem v_Law_50 : wV R_Law 50 y_CI_inside b_CI_inside 3 (some .int) 0 := ⟨⟨(wq 33 (by decide +kernel)), (wq 164 (by decide +kernel)), by decide +kernel, by decide +kernel, by decide +kernel⟩, (wq 161 (by decide +kernel)), (wq 162 (by decide +kernel)), (wq 163 (by decide +kernel))⟩
theorem v_CI_80 : wV R_CI 80 y_CI_isInFrame b_CI_isInFrame 2 (some .boolean) 1 := ⟨⟨(wq 33 (by decide +kernel)), (wq 167 (by decide +kernel)), by decide +kernel, by decide +kernel, by decide +kernel⟩, (wq 165 (by decide +kernel)), (wq 166 (by decide +kernel)), (wq 13 (by decide +kernel))⟩
theorem v_CI_108 : wV R_CI 108 y_CI_xOf b_CI_xOf 2 (some .int) 1 := ⟨⟨(wq 33 (by decide +kernel)), (wq 170 (by decide +kernel)), by decide +kernel, by decide +kernel, by decide +kernel⟩, (wq 168 (by decide +kernel)), (wq 169 (by decide +kernel)), (wq 14 (by decide +kernel))⟩
theorem v_CI_111 : wV R_CI 111 y_CI_yOf b_CI_yOf 2 (some .int) 1 := ⟨⟨(wq 33 (by decide +kernel)), (wq 173 (by decide +kernel)), by decide +kernel, by decide +kernel, by decide +kernel⟩, (wq 171 (by decide +kernel)), (wq 172 (by decide +kernel)), (wq 15 (by decide +kernel))⟩
theorem v_CI_114 : wVN R_CI 114 y_Fr_holds b_Fr_holds 3 (some .boolean) 2 := ⟨⟨(wq 35 (by decide +kernel)), (wq 175 (by decide +kernel)), by decide +kernel, by decide +kernel, by decide +kernel⟩, (nwq 10 (by decide +kernel)), (wq 174 (by decide +kernel)), (wq 16 (by decide +kernel))⟩
theorem v_Law_54 : wV R_Law 54 y_CI_sum b_CI_sum 3 (some .int) 0 := ⟨⟨(wq 33 (by decide +kernel)), (wq 179 (by decide +kernel)), by decide +kernel, by decide +kernel, by decide +kernel⟩, (wq 176 (by decide +kernel)), (wq 177 (by decide +kernel)), (wq 178 (by decide +kernel))⟩
theorem v_Law_58 : wV R_Law 58 y_CI_nth b_CI_nth 7 (some .int) 2 := ⟨⟨(wq 33 (by decide +kernel)), (wq 183 (by decide +kernel)), by decide +kernel, by decide +kernel, by decide +kernel⟩, (wq 180 (by decide +kernel)), (wq 181 (by decide +kernel)), (wq 182 (by decide +kernel))⟩
theorem v_Law_62 : wV R_Law 62 y_CI_runs b_CI_runs 2 (some .int) 1 := ⟨⟨(wq 33 (by decide +kernel)), (wq 187 (by decide +kernel)), by decide +kernel, by decide +kernel, by decide +kernel⟩, (wq 184 (by decide +kernel)), (wq 185 (by decide +kernel)), (wq 186 (by decide +kernel))⟩
theorem v_CI_86 : wV R_CI 86 y_CI_hasRuns b_CI_hasRuns 2 (some .boolean) 1 := ⟨⟨(wq 33 (by decide +kernel)), (wq 190 (by decide +kernel)), by decide +kernel, by decide +kernel, by decide +kernel⟩, (wq 188 (by decide +kernel)), (wq 189 (by decide +kernel)), (wq 17 (by decide +kernel))⟩
theorem v_CI_129 : wVN R_CI 129 y_Fr_cellCount b_Fr_cellCount 1 (some .int) 0 := ⟨⟨(wq 35 (by decide +kernel)), (wq 192 (by decide +kernel)), by decide +kernel, by decide +kernel, by decide +kernel⟩, (nwq 11 (by decide +kernel)), (wq 191 (by decide +kernel)), (wq 18 (by decide +kernel))⟩
theorem v_CI_89 : wV R_CI 89 y_CI_walkRuns b_CI_walkRuns 4 (some (.object "CurveIndex$RunWalk")) 2 := ⟨⟨(wq 33 (by decide +kernel)), (wq 195 (by decide +kernel)), by decide +kernel, by decide +kernel, by decide +kernel⟩, (wq 193 (by decide +kernel)), (wq 194 (by decide +kernel)), (wq 19 (by decide +kernel))⟩
theorem v_CI_133 : wIN R_CI 133 y_RW_init b_RW_init 3 2 := ⟨⟨(wq 38 (by decide +kernel)), (wq 199 (by decide +kernel)), by decide +kernel, by decide +kernel, by decide +kernel⟩, (nwq 12 (by decide +kernel)), (wq 198 (by decide +kernel)), by decide +kernel⟩
theorem f_RW_24 : fO R_RW 24 3 0 := ⟨R_RW, F_RW, 6, rfl, by decide, in_RW, (wq 201 (by decide +kernel))⟩
theorem f_RW_28 : fO R_RW 28 3 1 := ⟨R_RW, F_RW, 6, rfl, by decide, in_RW, (wq 202 (by decide +kernel))⟩
theorem f_RW_9 : fO R_RW 9 3 2 := ⟨R_RW, F_RW, 6, rfl, by decide, in_RW, (wq 203 (by decide +kernel))⟩
theorem f_CI_93 : fN R_CI 93 3 2 := ⟨R_RW, F_RW, 6, rfl, by decide, in_RW, (nwq 13 (by decide +kernel))⟩
theorem f_RW_15 : fO R_RW 15 3 3 := ⟨R_RW, F_RW, 6, rfl, by decide, in_RW, (wq 204 (by decide +kernel))⟩
theorem f_RW_18 : fO R_RW 18 3 4 := ⟨R_RW, F_RW, 6, rfl, by decide, in_RW, (wq 205 (by decide +kernel))⟩
theorem f_CI_98 : fN R_CI 98 3 4 := ⟨R_RW, F_RW, 6, rfl, by decide, in_RW, (nwq 14 (by decide +kernel))⟩
theorem f_RW_21 : fO R_RW 21 3 5 := ⟨R_RW, F_RW, 6, rfl, by decide, in_RW, (wq 206 (by decide +kernel))⟩
theorem f_CI_101 : fN R_CI 101 3 5 := ⟨R_RW, F_RW, 6, rfl, by decide, in_RW, (nwq 15 (by decide +kernel))⟩
theorem v_CI_136 : wSN R_CI 136 y_RW_visit b_RW_visit 9 none 6 := ⟨⟨(wq 38 (by decide +kernel)), (wq 214 (by decide +kernel)), by decide +kernel, by decide +kernel, by decide +kernel⟩, (nwq 16 (by decide +kernel)), (wq 213 (by decide +kernel))⟩
theorem v_RW_31 : wVN R_RW 31 y_Fr_missesSquare b_Fr_missesSquare 4 (some .boolean) 3 := ⟨⟨(wq 35 (by decide +kernel)), (wq 216 (by decide +kernel)), by decide +kernel, by decide +kernel, by decide +kernel⟩, (nwq 17 (by decide +kernel)), (wq 215 (by decide +kernel)), (wq 20 (by decide +kernel))⟩
theorem v_RW_37 : wVN R_RW 37 y_Fr_holdsSquare b_Fr_holdsSquare 4 (some .boolean) 3 := ⟨⟨(wq 35 (by decide +kernel)), (wq 218 (by decide +kernel)), by decide +kernel, by decide +kernel, by decide +kernel⟩, (nwq 18 (by decide +kernel)), (wq 217 (by decide +kernel)), (wq 21 (by decide +kernel))⟩
theorem v_Fr_22 : wV R_Fr 22 y_Fr_holds b_Fr_holds 3 (some .boolean) 2 := ⟨⟨(wq 35 (by decide +kernel)), (wq 175 (by decide +kernel)), by decide +kernel, by decide +kernel, by decide +kernel⟩, (wq 219 (by decide +kernel)), (wq 174 (by decide +kernel)), (wq 16 (by decide +kernel))⟩
theorem v_RW_40 : wV R_RW 40 y_RW_join b_RW_join 3 none 2 := ⟨⟨(wq 38 (by decide +kernel)), (wq 222 (by decide +kernel)), by decide +kernel, by decide +kernel, by decide +kernel⟩, (wq 220 (by decide +kernel)), (wq 221 (by decide +kernel)), (wq 22 (by decide +kernel))⟩
theorem s_RW_44 : Cond.fieldLinkNest R_RW 44 R_CI "QUARTER_OF_STEP" "[I" R_CI ∈ nws := nwq 19 (by decide +kernel)
theorem s_RW_48 : Cond.fieldLinkNest R_RW 48 R_CI "STATE_AFTER_STEP" "[I" R_CI ∈ nws := nwq 20 (by decide +kernel)
theorem v_RW_51 : wS R_RW 51 y_RW_visit b_RW_visit 9 none 6 := ⟨⟨(wq 38 (by decide +kernel)), (wq 214 (by decide +kernel)), by decide +kernel, by decide +kernel, by decide +kernel⟩, (wq 223 (by decide +kernel)), (wq 213 (by decide +kernel))⟩
theorem v_Law_67 : wV R_Law 67 y_CI_run b_CI_run 5 (some .int) 3 := ⟨⟨(wq 33 (by decide +kernel)), (wq 227 (by decide +kernel)), by decide +kernel, by decide +kernel, by decide +kernel⟩, (wq 224 (by decide +kernel)), (wq 225 (by decide +kernel)), (wq 226 (by decide +kernel))⟩
theorem v_Law_71 : wV R_Law 71 y_CI_nearest b_CI_nearest 10 (some .int) 2 := ⟨⟨(wq 33 (by decide +kernel)), (wq 231 (by decide +kernel)), by decide +kernel, by decide +kernel, by decide +kernel⟩, (wq 228 (by decide +kernel)), (wq 229 (by decide +kernel)), (wq 230 (by decide +kernel))⟩
theorem v_CI_104 : wV R_CI 104 y_CI_squaredDistance b_CI_squaredDistance 8 (some .long) 3 := ⟨⟨(wq 33 (by decide +kernel)), (wq 234 (by decide +kernel)), by decide +kernel, by decide +kernel, by decide +kernel⟩, (wq 232 (by decide +kernel)), (wq 233 (by decide +kernel)), (wq 23 (by decide +kernel))⟩
theorem v_Law_12 : wI R_Law 12 y_Mo_init b_Mo_init 1 0 := ⟨⟨(wq 36 (by decide +kernel)), (wq 239 (by decide +kernel)), by decide +kernel, by decide +kernel, by decide +kernel⟩, (wq 237 (by decide +kernel)), (wq 238 (by decide +kernel)), by decide +kernel⟩
theorem f_Mo_7 : fO R_Mo 7 4 0 := ⟨R_Mo, F_Mo, 10, rfl, by decide, in_Mo, (wq 241 (by decide +kernel))⟩
theorem f_Mo_30 : fO R_Mo 30 4 1 := ⟨R_Mo, F_Mo, 10, rfl, by decide, in_Mo, (wq 242 (by decide +kernel))⟩
theorem f_Mo_13 : fO R_Mo 13 4 2 := ⟨R_Mo, F_Mo, 10, rfl, by decide, in_Mo, (wq 243 (by decide +kernel))⟩
theorem f_Mo_17 : fO R_Mo 17 4 3 := ⟨R_Mo, F_Mo, 10, rfl, by decide, in_Mo, (wq 244 (by decide +kernel))⟩
theorem f_Mo_33 : fO R_Mo 33 4 4 := ⟨R_Mo, F_Mo, 10, rfl, by decide, in_Mo, (wq 245 (by decide +kernel))⟩
theorem f_Mo_36 : fO R_Mo 36 4 5 := ⟨R_Mo, F_Mo, 10, rfl, by decide, in_Mo, (wq 246 (by decide +kernel))⟩
theorem f_Mo_39 : fO R_Mo 39 4 6 := ⟨R_Mo, F_Mo, 10, rfl, by decide, in_Mo, (wq 247 (by decide +kernel))⟩
theorem f_Mo_42 : fO R_Mo 42 4 7 := ⟨R_Mo, F_Mo, 10, rfl, by decide, in_Mo, (wq 248 (by decide +kernel))⟩
theorem f_Mo_20 : fO R_Mo 20 4 8 := ⟨R_Mo, F_Mo, 10, rfl, by decide, in_Mo, (wq 249 (by decide +kernel))⟩
theorem f_Mo_23 : fO R_Mo 23 4 9 := ⟨R_Mo, F_Mo, 10, rfl, by decide, in_Mo, (wq 250 (by decide +kernel))⟩
theorem v_Law_17 : wV R_Law 17 y_Mo_begin b_Mo_begin 2 (some .boolean) 1 := ⟨⟨(wq 36 (by decide +kernel)), (wq 264 (by decide +kernel)), by decide +kernel, by decide +kernel, by decide +kernel⟩, (wq 261 (by decide +kernel)), (wq 262 (by decide +kernel)), (wq 263 (by decide +kernel))⟩
theorem v_Law_22 : wV R_Law 22 y_Mo_key b_Mo_key 4 (some .int) 3 := ⟨⟨(wq 36 (by decide +kernel)), (wq 268 (by decide +kernel)), by decide +kernel, by decide +kernel, by decide +kernel⟩, (wq 265 (by decide +kernel)), (wq 266 (by decide +kernel)), (wq 267 (by decide +kernel))⟩
theorem v_Mo_45 : wS R_Mo 45 y_Mo_isCurve b_Mo_isCurve 1 (some .boolean) 1 := ⟨⟨(wq 36 (by decide +kernel)), (wq 271 (by decide +kernel)), by decide +kernel, by decide +kernel, by decide +kernel⟩, (wq 269 (by decide +kernel)), (wq 270 (by decide +kernel))⟩
theorem v_Mo_49 : wV R_Mo 49 y_Mo_isCell b_Mo_isCell 3 (some .boolean) 2 := ⟨⟨(wq 36 (by decide +kernel)), (wq 274 (by decide +kernel)), by decide +kernel, by decide +kernel, by decide +kernel⟩, (wq 272 (by decide +kernel)), (wq 273 (by decide +kernel)), (wq 24 (by decide +kernel))⟩
theorem v_Mo_26 : wV R_Mo 26 y_Mo_side b_Mo_side 1 (some .int) 0 := ⟨⟨(wq 36 (by decide +kernel)), (wq 277 (by decide +kernel)), by decide +kernel, by decide +kernel, by decide +kernel⟩, (wq 275 (by decide +kernel)), (wq 276 (by decide +kernel)), (wq 25 (by decide +kernel))⟩
theorem v_Mo_53 : wV R_Mo 53 y_Mo_keyOf b_Mo_keyOf 9 (some .int) 3 := ⟨⟨(wq 36 (by decide +kernel)), (wq 280 (by decide +kernel)), by decide +kernel, by decide +kernel, by decide +kernel⟩, (wq 278 (by decide +kernel)), (wq 279 (by decide +kernel)), (wq 26 (by decide +kernel))⟩
theorem v_Law_27 : wV R_Law 27 y_Mo_cell b_Mo_cell 3 (some .int) 2 := ⟨⟨(wq 36 (by decide +kernel)), (wq 284 (by decide +kernel)), by decide +kernel, by decide +kernel, by decide +kernel⟩, (wq 281 (by decide +kernel)), (wq 282 (by decide +kernel)), (wq 283 (by decide +kernel))⟩
theorem v_Mo_57 : wV R_Mo 57 y_Mo_cellOf b_Mo_cellOf 9 (some .int) 2 := ⟨⟨(wq 36 (by decide +kernel)), (wq 287 (by decide +kernel)), by decide +kernel, by decide +kernel, by decide +kernel⟩, (wq 285 (by decide +kernel)), (wq 286 (by decide +kernel)), (wq 27 (by decide +kernel))⟩
theorem v_Law_31 : wV R_Law 31 y_Mo_put b_Mo_put 6 (some .int) 3 := ⟨⟨(wq 36 (by decide +kernel)), (wq 291 (by decide +kernel)), by decide +kernel, by decide +kernel, by decide +kernel⟩, (wq 288 (by decide +kernel)), (wq 289 (by decide +kernel)), (wq 290 (by decide +kernel))⟩
theorem v_Mo_61 : wV R_Mo 61 y_Mo_find b_Mo_find 3 (some .int) 1 := ⟨⟨(wq 36 (by decide +kernel)), (wq 294 (by decide +kernel)), by decide +kernel, by decide +kernel, by decide +kernel⟩, (wq 292 (by decide +kernel)), (wq 293 (by decide +kernel)), (wq 28 (by decide +kernel))⟩
theorem v_Law_35 : wV R_Law 35 y_Mo_take b_Mo_take 5 (some .int) 2 := ⟨⟨(wq 36 (by decide +kernel)), (wq 298 (by decide +kernel)), by decide +kernel, by decide +kernel, by decide +kernel⟩, (wq 295 (by decide +kernel)), (wq 296 (by decide +kernel)), (wq 297 (by decide +kernel))⟩
theorem v_Law_39 : wV R_Law 39 y_Mo_at b_Mo_at 4 (some .int) 2 := ⟨⟨(wq 36 (by decide +kernel)), (wq 302 (by decide +kernel)), by decide +kernel, by decide +kernel, by decide +kernel⟩, (wq 299 (by decide +kernel)), (wq 300 (by decide +kernel)), (wq 301 (by decide +kernel))⟩
theorem v_Law_44 : wV R_Law 44 y_Mo_many b_Mo_many 1 (some .int) 0 := ⟨⟨(wq 36 (by decide +kernel)), (wq 306 (by decide +kernel)), by decide +kernel, by decide +kernel, by decide +kernel⟩, (wq 303 (by decide +kernel)), (wq 304 (by decide +kernel)), (wq 305 (by decide +kernel))⟩
theorem v_Law_49 : wV R_Law 49 y_Mo_window b_Mo_window 5 (some .boolean) 4 := ⟨⟨(wq 36 (by decide +kernel)), (wq 310 (by decide +kernel)), by decide +kernel, by decide +kernel, by decide +kernel⟩, (wq 307 (by decide +kernel)), (wq 308 (by decide +kernel)), (wq 309 (by decide +kernel))⟩
theorem v_Law_53 : wV R_Law 53 y_Mo_inside b_Mo_inside 3 (some .int) 0 := ⟨⟨(wq 36 (by decide +kernel)), (wq 314 (by decide +kernel)), by decide +kernel, by decide +kernel, by decide +kernel⟩, (wq 311 (by decide +kernel)), (wq 312 (by decide +kernel)), (wq 313 (by decide +kernel))⟩
theorem v_Mo_65 : wV R_Mo 65 y_Mo_isInside b_Mo_isInside 4 (some .boolean) 1 := ⟨⟨(wq 36 (by decide +kernel)), (wq 317 (by decide +kernel)), by decide +kernel, by decide +kernel, by decide +kernel⟩, (wq 315 (by decide +kernel)), (wq 316 (by decide +kernel)), (wq 29 (by decide +kernel))⟩
theorem v_Law_57 : wV R_Law 57 y_Mo_sum b_Mo_sum 3 (some .int) 0 := ⟨⟨(wq 36 (by decide +kernel)), (wq 321 (by decide +kernel)), by decide +kernel, by decide +kernel, by decide +kernel⟩, (wq 318 (by decide +kernel)), (wq 319 (by decide +kernel)), (wq 320 (by decide +kernel))⟩
theorem v_Law_61 : wV R_Law 61 y_Mo_nth b_Mo_nth 7 (some .int) 2 := ⟨⟨(wq 36 (by decide +kernel)), (wq 325 (by decide +kernel)), by decide +kernel, by decide +kernel, by decide +kernel⟩, (wq 322 (by decide +kernel)), (wq 323 (by decide +kernel)), (wq 324 (by decide +kernel))⟩
theorem v_Mo_68 : wV R_Mo 68 y_Mo_keyAt b_Mo_keyAt 3 (some .int) 2 := ⟨⟨(wq 36 (by decide +kernel)), (wq 328 (by decide +kernel)), by decide +kernel, by decide +kernel, by decide +kernel⟩, (wq 326 (by decide +kernel)), (wq 327 (by decide +kernel)), (wq 30 (by decide +kernel))⟩
theorem v_Law_66 : wV R_Law 66 y_Mo_runs b_Mo_runs 5 (some .int) 1 := ⟨⟨(wq 36 (by decide +kernel)), (wq 332 (by decide +kernel)), by decide +kernel, by decide +kernel, by decide +kernel⟩, (wq 329 (by decide +kernel)), (wq 330 (by decide +kernel)), (wq 331 (by decide +kernel))⟩
theorem v_Mo_73 : wV R_Mo 73 y_Mo_sort b_Mo_sort 13 (some .int) 1 := ⟨⟨(wq 36 (by decide +kernel)), (wq 335 (by decide +kernel)), by decide +kernel, by decide +kernel, by decide +kernel⟩, (wq 333 (by decide +kernel)), (wq 334 (by decide +kernel)), (wq 31 (by decide +kernel))⟩
theorem v_Law_70 : wV R_Law 70 y_Mo_run b_Mo_run 8 (some .int) 3 := ⟨⟨(wq 36 (by decide +kernel)), (wq 340 (by decide +kernel)), by decide +kernel, by decide +kernel, by decide +kernel⟩, (wq 337 (by decide +kernel)), (wq 338 (by decide +kernel)), (wq 339 (by decide +kernel))⟩
theorem v_Law_74 : wV R_Law 74 y_Mo_nearest b_Mo_nearest 13 (some .int) 2 := ⟨⟨(wq 36 (by decide +kernel)), (wq 344 (by decide +kernel)), by decide +kernel, by decide +kernel, by decide +kernel⟩, (wq 341 (by decide +kernel)), (wq 342 (by decide +kernel)), (wq 343 (by decide +kernel))⟩
end
section
/-! what is asked of numbers that come from outside -/
theorem ng (x : Int32) : x < 0 ∨ ∃ a, a < 2147483648 ∧ x = nI a := by
  by_cases h : x < 0
  · exact Or.inl h
  · exact Or.inr (nI_of h)
def inC (L : Nat) (x y : Int32) : Prop := ∃ a b, a < 2 ^ L ∧ b < 2 ^ L ∧ x = nI a ∧ y = nI b
def cuO (x : Int32) : Prop := ∃ c, c < 2 ∧ x = nI c
theorem p2_15 {L : Nat} (h : L ≤ 15) : 2 ^ L ≤ 32768 := Nat.pow_le_pow_right (n := 2) (j := 15) (by omega) h
theorem p4_15 {L : Nat} (h : L ≤ 15) : 2 ^ L * 2 ^ L ≤ 1073741824 := Nat.mul_le_mul (p2_15 h) (p2_15 h)
theorem p22_15 {L : Nat} (h : L ≤ 15) : 2 ^ (2 * L) ≤ 1073741824 := by rw [p22]; exact p4_15 h
theorem inC_n1 {L : Nat} {x y : Int32} (hL : L ≤ 15) (h : x < 0) : ¬ inC L x y := by
  rintro ⟨a, b, h1, h2, rfl, rfl⟩
  exact nI_pos (by have := p2_15 hL; omega) h
theorem inC_n2 {L : Nat} {x y : Int32} (hL : L ≤ 15) (h : y < 0) : ¬ inC L x y := by
  rintro ⟨a, b, h1, h2, rfl, rfl⟩
  exact nI_pos (by have := p2_15 hL; omega) h
theorem inC_g1 {L a : Nat} {y : Int32} (hL : L ≤ 15) (ha : a < 2147483648) (h : 2 ^ L ≤ a) : ¬ inC L (nI a) y := by
  rintro ⟨c, b, h1, h2, h3, rfl⟩
  have := p2_15 hL
  rw [nI_eq ha (by omega)] at h3
  omega
theorem inC_g2 {L a : Nat} {x : Int32} (hL : L ≤ 15) (ha : a < 2147483648) (h : 2 ^ L ≤ a) : ¬ inC L x (nI a) := by
  rintro ⟨c, b, h1, h2, rfl, h3⟩
  have := p2_15 hL
  rw [nI_eq ha (by omega)] at h3
  omega
theorem inC_nI {L a b : Nat} (ha : a < 2 ^ L) (hb : b < 2 ^ L) : inC L (nI a) (nI b) := ⟨a, b, ha, hb, rfl, rfl⟩
theorem st0_lt (cu : Nat) : st0 cu < 5 := by
  unfold st0
  split <;> omega
theorem oI_lt0 : oI 0 < 0 := by decide
theorem ng_ge {x : Int32} (h : x < 0) : ¬ 0 ≤ x := by
  rw [Int32.le_iff_toInt_le]
  rw [Int32.lt_iff_toInt_lt] at h
  omega
end
section
/-! new objects, new arrays, arraycopy -/
def zf : Nat → Nat := fun _ => 0
theorem bd_zf : bd zf := fun _ => by show 0 < 2147483648; omega
theorem i_one {G : gG} {s : State} (hk : kx G s) {cA : ClassId} (h : va_K G.1 cls ([(G.2.1, .int)] ++ [(cA, .int)]) s) : cA = G.2.1 := by
  have h1 : s.vm.findClass ("[" ++ FieldType.int.toString) = some G.2.1 := (hk.1.2 0 (G.2.1, .int) rfl).2
  have h2 : s.vm.findClass ("[" ++ FieldType.int.toString) = some cA := (h.2 1 (cA, .int) rfl).2
  exact Option.some.inj (h2.symm.trans h1)
section XO
variable {p : Program} {la : Launch} {e : Env} {R : Room} {s : State} {m : MethodId} {args : Array Value} {below : List Frame} {meth : Method} {c : Code} {H : Heap} {locs : List Loc} {cells slots : Nat} {Q : State → Prop}
variable {cc : ByteArray} {pc nL idx ci a : Nat} {ls : Array Slot} {rest : List Value} {own : String} {k0 : Cond} {G : gG} {ws : va_W} {A : Nat → Prop}
theorem y_new (S : CallFix p m c cc nL s args (k0 :: wg) own) (hk : kx G s) (hP : va_P G.1 cls ws H) (hD : va_D A ws) (hA : ∀ q, s.heap.size ≤ q → A q) (hS : va_S A s.heap H locs) {C : String} {T : u_T} {N : Nat} (hc : cls[ci]? = some (C, T, N)) (hin : ∀ w ∈ u_ws C T N, w ∈ wg) {ty : Nat → FieldType} (hT : fT ci ty) (hcl : Cond.classLink own idx C ∈ wg) (hinst : Cond.instantiable C N ∈ wg) (hini : Cond.initialized C ∈ wg)
    {fs : List Value} (hfs : ∀ j, j < N → defaultValue (ty j) = vp_V fs j) (hcells : cells + 1 ≤ R.cells) (hslots : slots + N ≤ R.slots) (hdg : decode cc pc = .ok (.new idx, 3))
    (kk : ∀ (q : Nat) (H : Heap), va_P G.1 cls (ws ++ [(q, .inr (ci, fs))]) H → va_D A (ws ++ [(q, .inr (ci, fs))]) → va_S A s.heap H locs → W p la e R s m args below meth c H locs (cells + 1) (slots + N) Q (F0 m (pc + 3) ls (.ref q :: rest))) : W p la e R s m args below meth c H locs cells slots Q (F0 m pc ls rest) := by
  obtain ⟨C', T', N', g1, g2, g3⟩ := hT
  cases hc.symm.trans g1
  exact va_new S.1 S.2.1 S.2.2.2.2 (fun w hw => List.mem_cons_of_mem _ (hin w hw)) ty g2 S.2.2.2.1 (S.2.2.2.2 _ (List.mem_cons_of_mem _ hcl)) (S.2.2.2.2 _ (List.mem_cons_of_mem _ hinst)) (S.2.2.2.2 _ (List.mem_cons_of_mem _ hini)) hk.1 hP hD hS hA hc hfs hcells hslots hdg kk
theorem y_newa (S : CallFix p m c cc nL s args (k0 :: wg) own) (hk : kx G s) (hP : va_P G.1 cls ws H) (hD : va_D A ws) (hA : ∀ q, s.heap.size ≤ q → A q) (hS : va_S A s.heap H locs) (harr : Cond.arrayClass .int ∈ wg) {N : Nat} (hN : N * 4 ≤ 536870912) (hcells : cells + 1 ≤ R.cells) (hslots : slots + N ≤ R.slots) (hdg : decode cc pc = .ok (.newarray .int, 2))
    (kk : ∀ (q : Nat) (H : Heap), va_P G.1 cls (ws ++ [(q, .inl (G.2.1, N, .inl (fun j => nI (zf j))))]) H → va_D A (ws ++ [(q, .inl (G.2.1, N, .inl (fun j => nI (zf j))))]) → va_S A s.heap H locs → W p la e R s m args below meth c H locs (cells + 1) (slots + N) Q (F0 m (pc + 2) ls (.ref q :: rest))) : W p la e R s m args below meth c H locs cells slots Q (F0 m pc ls (.int (nI N) :: rest)) := by
  refine va_newa (atype := .int) (ty := .int) (a0 := (N, .inl (fun j => nI (zf j)))) S.1 S.2.1 (S.2.2.2.2 _ (List.mem_cons_of_mem _ harr)) rfl hk.1 hP hD hS hA (fun cA => rfl) (nI_pos (by omega)) (nI_clamp (by omega)) hN hcells hslots hdg (fun q cA H1 hK1 hP1 hD1 hS1 => ?_)
  cases i_one hk hK1
  exact kk q H1 hP1 hD1 hS1
theorem y_cpy (S : CallFix p m c cc nL s args (k0 :: wg) own) (hsz : ls.size = nL) (hk : kx G s) (hP : va_P G.1 cls ws H) (hD : va_D A ws) (hS : va_S A s.heap H locs) (q0 : Nat) {n0 : Nat} {K : Nat → Nat} (he : ws[q0]? = some (a, .inl (G.2.1, n0, .inl (fun j => nI (K j))))) (hlk : Cond.methodLink own idx arraycopyName ∈ wg) (hnat : Cond.native arraycopyName ∈ wg) (hst : Cond.static arraycopyName ∈ wg) (hini : Cond.initialized "java/lang/System" ∈ wg)
    {sp dp n : Nat} (h1 : sp + n ≤ n0) (h2 : dp + n ≤ n0) (hn : n0 < 2147483648) (hfr : 1 ≤ R.frames) (hlo : (rest.map fun v => v.category).sum + (nativeFrameWords "java/lang/System" "arraycopy" 5 + 11) ≤ R.locals) (hdg : decode cc pc = .ok (.invokestatic idx, 3))
    (kk : ∀ (H : Heap) (locs : List Loc), va_P G.1 cls (ws.set q0 (a, .inl (G.2.1, n0, .inl (fun j => nI (va_cpy K K sp dp n j))))) H → va_D A (ws.set q0 (a, .inl (G.2.1, n0, .inl (fun j => nI (va_cpy K K sp dp n j))))) → va_S A s.heap H locs → W p la e R s m args below meth c H locs cells slots Q (F0 m (pc + 3) ls rest)) : W p la e R s m args below meth c H locs cells slots Q (F0 m pc ls (.int (nI n) :: .int (nI dp) :: .ref a :: .int (nI sp) :: .ref a :: rest)) := by
  refine va_copyi S.1 S.2.1 (S.2.2.1.trans hsz.symm) S.2.2.2.1 (S.2.2.2.2 _ (List.mem_cons_of_mem _ hlk)) (S.2.2.2.2 _ (List.mem_cons_of_mem _ hnat)) (S.2.2.2.2 _ (List.mem_cons_of_mem _ hst)) (S.2.2.2.2 _ (List.mem_cons_of_mem _ hini)) hk.1 hP hD hS q0 q0 0 0 he he (ty := .int) rfl rfl rfl (nI_pos (by omega)) (nI_pos (by omega)) (nI_pos (by omega)) (by rw [nI_clamp (by omega), nI_clamp (by omega)]; exact h1) (by rw [nI_clamp (by omega), nI_clamp (by omega)]; exact h2) (fun i _ => rfl) hfr hlo hdg ?_
  rw [nI_clamp (by omega), nI_clamp (by omega), nI_clamp (by omega), cpy_nI]
  exact kk
theorem y_oinit (S : CallFix p m c cc nL s args (k0 :: wg) own) (hsz : ls.size = nL) (hlk : Cond.methodLink own idx objectInit ∈ wg) (him : Cond.instanceMethod objectInit ∈ wg) (hco : Cond.code objectInit ⟨#[0xb1]⟩ 1 none ∈ wg) (hdg : decode cc pc = .ok (.invokespecial idx, 3)) (hfr : 1 ≤ R.frames) (hlo : (rest.map fun v => v.category).sum + 12 ≤ R.locals)
    (kk : W p la e R s m args below meth c H locs cells slots Q (F0 m (pc + 3) ls rest)) : W p la e R s m args below meth c H locs cells slots Q (F0 m pc ls (.ref a :: rest)) := by
  refine W.objInit S.1 S.2.1 S.2.2.2.1 (S.2.2.2.2 _ (List.mem_cons_of_mem _ hlk)) (S.2.2.2.2 _ (List.mem_cons_of_mem _ him)) (S.2.2.2.2 _ (List.mem_cons_of_mem _ hco)) rfl (hsz.trans S.2.2.1.symm) rfl hdg hfr ?_ kk
  show 2 * 0 + _ + 12 ≤ _
  omega
end XO
end
section
/-! contracts of methods that answer a new object -/
abbrev MetQ (la : Launch) (y : MethodName) (cc : ByteArray) (maxL : Nat) (ty : FieldType) (fr lo mc ms : Nat) (av : List Value) (G : gG) (wc : va_W) {S : Type} (post : S → Prop) (B : S → Nat → va_W) : Prop :=
  ∀ sz : Nat, Met la y (Cond.code y cc maxL (some ty) :: wg) { frames := fr, cells := mc, slots := ms, locals := lo } (va_Pc av (woP G wc sz)) (va_Qr post (fun u a t => va_P G.1 cls (B u a) t.heap ∧ va_D (va_A wc sz) (B u a)) (va_A wc sz)) mc ms (va_A wc sz)
theorem MetQ.mk {la : Launch} {y : MethodName} {cc : ByteArray} {maxL : Nat} {C : String} {fr lo mc ms : Nat} {av : List Value} {G : gG} {wc : va_W} {S : Type} {post : S → Prop} {B : S → Nat → va_W} (hy : plainName y.cls = true) (hlen : (lg_sl av).length ≤ maxL)
    (body : ∀ (p : Program) (e : Env) (s : State) (m : MethodId) (below : List Frame) (meth : Method) (c : Code) (Q : State → Prop) (A : Nat → Prop) (ls : Array Slot),
      CallFix p m c cc maxL s av.toArray (Cond.code y cc maxL (some (.object C)) :: wg) y.cls → va_P G.1 cls wc s.heap → va_D A wc → (∀ q, s.heap.size ≤ q → A q) → va_S A s.heap s.heap [] → kx G s → sx G A s s.heap →
      (∀ (pc : Nat) (ls : Array Slot) (u : S) (a : Nat) (H : Heap) (locs : List Loc), post u → va_P G.1 cls (B u a) H → va_D A (B u a) → va_S A s.heap H locs → decode cc pc = .ok (.areturn, 1) → W p la e { frames := fr, cells := mc, slots := ms, locals := lo } s m av.toArray below meth c H locs mc ms Q (F0 m pc ls [.ref a])) →
      lv_has ls maxL (lv_args 0 av) → W p la e { frames := fr, cells := mc, slots := ms, locals := lo } s m av.toArray below meth c s.heap [] 0 0 Q (F0 m 0 ls [])) : MetQ la y cc maxL (.object C) fr lo mc ms av G wc post B := by
  intro sz
  refine Met.ofW (cc := cc) (maxL := maxL) (ret := some (.object C)) hy rfl ?_
  intro p e s m args below meth c s₁ X hml hv
  obtain ⟨rfl, hsz, hP, hD, hk, hs⟩ := hv
  have hx := X.exec
  have hb := X.bytes
  have hr := X.returns
  have hlocks := X.notSynchronized
  rw [lg_entry_eq]
  subst hsz
  exact body p e s m below meth c _ _ _ ⟨hx, hb, hml, findClass_of_methodNamed X.named, atoms_spec X.pre⟩ hP hD.self (fun q h => Or.inr h) va_S.rf hk hs (fun pc ls u a H locs hp hP' hD' hS' hd => W.aret hx hb hr (Or.inl ⟨C, rfl⟩) (Or.inr ⟨a, rfl⟩) (fun t ht _ => ⟨⟨u, a, rfl, hp, by rw [ht]; exact hP', hD'⟩, hS'.F ht⟩) hS'.2.2 hd hlocks) (lv_entry av hlen)
section XQ
variable {p : Program} {la : Launch} {e : Env} {R : Room} {s : State} {m : MethodId} {args : Array Value} {below : List Frame} {meth : Method} {c : Code} {H : Heap} {locs : List Loc} {cells slots : Nat} {Q : State → Prop} {mc ms pc : Nat} {rest st0 : List Value} {ls : Array Slot}
theorem eff_Q {G : gG} {ws wc wr : va_W} {A : Nat → Prop} {S : Type} {post : S → Prop} {B : S → Nat → va_W} {a : Array Value} (hr : va_Run p la e R s m args below meth c H locs cells slots mc ms (F0 m pc ls st0) rest (va_Qr post (fun u a t => va_P G.1 cls (B u a) t.heap ∧ va_D (va_A wc H.size) (B u a)) (va_A wc H.size) a) (va_A wc H.size))
    (hP : va_P G.1 cls ws H) (hD : va_D A ws) (hA : ∀ q, s.heap.size ≤ q → A q) (hS : va_S A s.heap H locs) (isC isR : List Nat) (hC : isC.map (fun i => ws[i]?) = wc.map some) (hR : isR.map (fun i => ws[i]?) = wr.map some) (hn : va_nd isR = true) (hdis : ∀ i ∈ isR, i ∉ isC)
    (kk : ∀ (b : Nat) (u : S) (H1 : Heap) (locs1 : List Loc), post u → va_P G.1 cls (wr ++ B u b) H1 → va_D A (wr ++ B u b) → va_S A s.heap H1 locs1 → W p la e R s m args below meth c H1 locs1 (cells + mc) (slots + ms) Q (F0 m (pc + 3) ls (.ref b :: rest))) : W p la e R s m args below meth c H locs cells slots Q (F0 m pc ls st0) := by
  have hF := va_free hD hS hA isC hC
  refine va_callr hr hS (fun q _ h => hF q h) hF (fun u b t H1 locs1 ht hvm hp hB hz hk hS1 => ?_)
  obtain ⟨hP1, hD1⟩ := hB
  rw [ht] at hP1
  obtain ⟨h1, h2⟩ := va_join hP hD isC isR hC hR hn hdis hk hF hP1 hD1
  exact kk b u H1 locs1 hp h1 h2 hS1
end XQ
theorem oI_inc1 (n : Nat) : oI n + nI 1 = nI n := oI_inc n
end
section
/-! the class's leaves: methods that only read (laid by gen/m1.py) -/
set_option maxHeartbeats 4000000 in
set_option maxRecDepth 100000 in
theorem c_CI_isCurve (la : Launch) (G : gG) (x : Int32)  : MetR la y_CI_isCurve b_CI_isCurve 1 .boolean 0 0 [.int x] G [] (fun r => (r = 1 ∧ cuO x) ∨ (r = 0 ∧ ¬ cuO x)) := by
  refine MetR.mk (by decide +kernel) (Nat.le_of_ble_eq_true rfl) ?_
  intro p e s m below meth c Q ls S hP hk hs hret hl
  have hx := S.1
  have hb := S.2.1
  have hl : lv_has ls 1 [(0, .int x)] := hl
  refine lv_iload_n hx hb d_CI_isCurve_0 rfl (lv_at hl 0 rfl) ?_
  refine lv_if_eq hx hb d_CI_isCurve_1 (tgt := 9) (by decide) (fun h1 => ?_) (fun h1 => ?_)
  · refine lv_iconst (v := nI 1) hx hb d_CI_isCurve_9 (by decide) ?_
    refine lv_goto hx hb d_CI_isCurve_10 (tgt := 14) (by decide) ?_
    exact hret _ _ _ (by decide) (Or.inl ⟨by decide, by first | exact ⟨0, by decide, h1⟩ | exact ⟨1, by decide, h6⟩⟩) d_CI_isCurve_14
  · refine lv_iload_n hx hb d_CI_isCurve_4 rfl (lv_at hl 0 rfl) ?_
    refine lv_iconst (v := nI 1) hx hb d_CI_isCurve_5 (by decide) ?_
    refine lv_icmp_ne hx hb d_CI_isCurve_6 (tgt := 13) (by decide) (fun h6 => ?_) (fun h6 => ?_)
    · refine lv_iconst (v := nI 0) hx hb d_CI_isCurve_13 (by decide) ?_
      exact hret _ _ _ (by decide) (Or.inr ⟨by decide, by rintro ⟨k, hk, rfl⟩; have e : k = 0 ∨ k = 1 := (by omega); rcases e with rfl | rfl; exact h1 rfl; exact h6 rfl⟩) d_CI_isCurve_14
    · refine lv_iconst (v := nI 1) hx hb d_CI_isCurve_9 (by decide) ?_
      refine lv_goto hx hb d_CI_isCurve_10 (tgt := 14) (by decide) ?_
      exact hret _ _ _ (by decide) (Or.inl ⟨by decide, by first | exact ⟨0, by decide, h1⟩ | exact ⟨1, by decide, h6⟩⟩) d_CI_isCurve_14
set_option maxHeartbeats 4000000 in
set_option maxRecDepth 100000 in
theorem c_CI_isCell (la : Launch) (G : gG) (o rw rt fr L : Nat) (x y : Int32) (hL : L ≤ 15) : MetR la y_CI_isCell b_CI_isCell 4 .boolean 0 0 [.ref o, .int x, .int y] G [(o, .inr (0, [.ref rw, .ref rt, .int (nI L), .ref fr]))] (fun r => (r = 1 ∧ inC L x y) ∨ (r = 0 ∧ ¬ inC L x y)) := by
  refine MetR.mk (by decide +kernel) (Nat.le_of_ble_eq_true rfl) ?_
  intro p e s m below meth c Q ls S hP hk hs hret hl
  have hx := S.1
  have hb := S.2.1
  have hp := p2_15 hL
  rcases ng x with hx0 | ⟨a, ha, rfl⟩
  · have hl : lv_has ls 4 [(0, .ref o), (1, .int x), (2, .int y)] := hl
    refine lv_iconst (v := nI 1) hx hb d_CI_isCell_0 (by decide) ?_
    refine lv_aload_n hx hb d_CI_isCell_1 rfl (lv_at hl 0 rfl) ?_
    refine y_get S hk hP 0 rfl f_CI_19 rfl d_CI_isCell_2 ?_
    refine x_ishl hx hb d_CI_isCell_5 (by omega) (by omega) ?_
    refine lv_istore_n hx hb d_CI_isCell_6 rfl hl (by decide) rfl (fun ls hl => ?_)
    have hl : lv_has ls 4 [(3, .int (nI (1 * 2 ^ L))), (0, .ref o), (1, .int x), (2, .int y)] := hl
    refine lv_iload_n hx hb d_CI_isCell_7 rfl (lv_at hl 2 rfl) ?_
    refine lv_if_lt hx hb d_CI_isCell_8 (tgt := 29) (by decide) (fun _ => ?_) (fun h => absurd hx0 h)
    refine lv_iconst (v := nI 0) hx hb d_CI_isCell_29 (by decide) ?_
    exact hret _ _ _ (by decide) (Or.inr ⟨by decide, by first | exact inC_n1 hL hx0 | exact inC_n2 hL hy0 | exact inC_g1 hL ha (by omega) | exact inC_g2 hL hb' (by omega)⟩) d_CI_isCell_30
  · rcases ng y with hy0 | ⟨b, hb', rfl⟩
    · have hl : lv_has ls 4 [(0, .ref o), (1, .int (nI a)), (2, .int y)] := hl
      refine lv_iconst (v := nI 1) hx hb d_CI_isCell_0 (by decide) ?_
      refine lv_aload_n hx hb d_CI_isCell_1 rfl (lv_at hl 0 rfl) ?_
      refine y_get S hk hP 0 rfl f_CI_19 rfl d_CI_isCell_2 ?_
      refine x_ishl hx hb d_CI_isCell_5 (by omega) (by omega) ?_
      refine lv_istore_n hx hb d_CI_isCell_6 rfl hl (by decide) rfl (fun ls hl => ?_)
      have hl : lv_has ls 4 [(3, .int (nI (1 * 2 ^ L))), (0, .ref o), (1, .int (nI a)), (2, .int y)] := hl
      refine lv_iload_n hx hb d_CI_isCell_7 rfl (lv_at hl 2 rfl) ?_
      refine lv_if_lt hx hb d_CI_isCell_8 (tgt := 29) (by decide) (fun h => absurd h (nI_pos (by omega))) (fun _ => ?_)
      refine lv_iload_n hx hb d_CI_isCell_11 rfl (lv_at hl 2 rfl) ?_
      refine lv_iload_n hx hb d_CI_isCell_12 rfl (lv_at hl 0 rfl) ?_
      refine x_icmp_ge hx hb d_CI_isCell_13 (tgt := 29) (by decide) (by omega) (by omega) (fun h13 => ?_) (fun h13 => ?_)
      · refine lv_iconst (v := nI 0) hx hb d_CI_isCell_29 (by decide) ?_
        exact hret _ _ _ (by decide) (Or.inr ⟨by decide, by first | exact inC_n1 hL hx0 | exact inC_n2 hL hy0 | exact inC_g1 hL ha (by omega) | exact inC_g2 hL hb' (by omega)⟩) d_CI_isCell_30
      · refine lv_iload_n hx hb d_CI_isCell_16 rfl (lv_at hl 3 rfl) ?_
        refine lv_if_lt hx hb d_CI_isCell_17 (tgt := 29) (by decide) (fun _ => ?_) (fun h => absurd hy0 h)
        refine lv_iconst (v := nI 0) hx hb d_CI_isCell_29 (by decide) ?_
        exact hret _ _ _ (by decide) (Or.inr ⟨by decide, by first | exact inC_n1 hL hx0 | exact inC_n2 hL hy0 | exact inC_g1 hL ha (by omega) | exact inC_g2 hL hb' (by omega)⟩) d_CI_isCell_30
    · have hl : lv_has ls 4 [(0, .ref o), (1, .int (nI a)), (2, .int (nI b))] := hl
      refine lv_iconst (v := nI 1) hx hb d_CI_isCell_0 (by decide) ?_
      refine lv_aload_n hx hb d_CI_isCell_1 rfl (lv_at hl 0 rfl) ?_
      refine y_get S hk hP 0 rfl f_CI_19 rfl d_CI_isCell_2 ?_
      refine x_ishl hx hb d_CI_isCell_5 (by omega) (by omega) ?_
      refine lv_istore_n hx hb d_CI_isCell_6 rfl hl (by decide) rfl (fun ls hl => ?_)
      have hl : lv_has ls 4 [(3, .int (nI (1 * 2 ^ L))), (0, .ref o), (1, .int (nI a)), (2, .int (nI b))] := hl
      refine lv_iload_n hx hb d_CI_isCell_7 rfl (lv_at hl 2 rfl) ?_
      refine lv_if_lt hx hb d_CI_isCell_8 (tgt := 29) (by decide) (fun h => absurd h (nI_pos (by omega))) (fun _ => ?_)
      refine lv_iload_n hx hb d_CI_isCell_11 rfl (lv_at hl 2 rfl) ?_
      refine lv_iload_n hx hb d_CI_isCell_12 rfl (lv_at hl 0 rfl) ?_
      refine x_icmp_ge hx hb d_CI_isCell_13 (tgt := 29) (by decide) (by omega) (by omega) (fun h13 => ?_) (fun h13 => ?_)
      · refine lv_iconst (v := nI 0) hx hb d_CI_isCell_29 (by decide) ?_
        exact hret _ _ _ (by decide) (Or.inr ⟨by decide, by first | exact inC_n1 hL hx0 | exact inC_n2 hL hy0 | exact inC_g1 hL ha (by omega) | exact inC_g2 hL hb' (by omega)⟩) d_CI_isCell_30
      · refine lv_iload_n hx hb d_CI_isCell_16 rfl (lv_at hl 3 rfl) ?_
        refine lv_if_lt hx hb d_CI_isCell_17 (tgt := 29) (by decide) (fun h => absurd h (nI_pos (by omega))) (fun _ => ?_)
        refine lv_iload_n hx hb d_CI_isCell_20 rfl (lv_at hl 3 rfl) ?_
        refine lv_iload_n hx hb d_CI_isCell_21 rfl (lv_at hl 0 rfl) ?_
        refine x_icmp_ge hx hb d_CI_isCell_22 (tgt := 29) (by decide) (by omega) (by omega) (fun h22 => ?_) (fun h22 => ?_)
        · refine lv_iconst (v := nI 0) hx hb d_CI_isCell_29 (by decide) ?_
          exact hret _ _ _ (by decide) (Or.inr ⟨by decide, by first | exact inC_n1 hL hx0 | exact inC_n2 hL hy0 | exact inC_g1 hL ha (by omega) | exact inC_g2 hL hb' (by omega)⟩) d_CI_isCell_30
        · refine lv_iconst (v := nI 1) hx hb d_CI_isCell_25 (by decide) ?_
          refine lv_goto hx hb d_CI_isCell_26 (tgt := 30) (by decide) ?_
          exact hret _ _ _ (by decide) (Or.inl ⟨by decide, inC_nI (by omega) (by omega)⟩) d_CI_isCell_30
set_option maxHeartbeats 4000000 in
set_option maxRecDepth 100000 in
theorem c_CI_isKey (la : Launch) (G : gG) (o rw rt fr L : Nat) (x : Int32) (hL : L ≤ 15) : MetR la y_CI_isKey b_CI_isKey 2 .boolean 0 0 [.ref o, .int x] G [(o, .inr (0, [.ref rw, .ref rt, .int (nI L), .ref fr]))] (fun r => (r = 1 ∧ ∃ k, k < 2 ^ (2 * L) ∧ x = nI k) ∨ (r = 0 ∧ ¬ ∃ k, k < 2 ^ (2 * L) ∧ x = nI k)) := by
  refine MetR.mk (by decide +kernel) (Nat.le_of_ble_eq_true rfl) ?_
  intro p e s m below meth c Q ls S hP hk hs hret hl
  have hx := S.1
  have hb := S.2.1
  have hp := p22_15 hL
  rcases ng x with hx0 | ⟨a, ha, rfl⟩
  · have hl : lv_has ls 2 [(0, .ref o), (1, .int x)] := hl
    refine lv_iload_n hx hb d_CI_isKey_0 rfl (lv_at hl 1 rfl) ?_
    refine lv_if_lt hx hb d_CI_isKey_1 (tgt := 20) (by decide) (fun _ => ?_) (fun h => absurd hx0 h)
    refine lv_iconst (v := nI 0) hx hb d_CI_isKey_20 (by decide) ?_
    exact hret _ _ _ (by decide) (Or.inr ⟨by decide, by first | (rintro ⟨k, hk, rfl⟩; exact nI_pos (by omega) hx0) | (rintro ⟨k, hk, h⟩; rw [nI_eq ha (by omega)] at h; omega)⟩) d_CI_isKey_21
  · have hl : lv_has ls 2 [(0, .ref o), (1, .int (nI a))] := hl
    refine lv_iload_n hx hb d_CI_isKey_0 rfl (lv_at hl 1 rfl) ?_
    refine lv_if_lt hx hb d_CI_isKey_1 (tgt := 20) (by decide) (fun h => absurd h (nI_pos (by omega))) (fun _ => ?_)
    refine lv_iload_n hx hb d_CI_isKey_4 rfl (lv_at hl 1 rfl) ?_
    refine lv_iconst (v := nI 1) hx hb d_CI_isKey_5 (by decide) ?_
    refine lv_iconst (v := nI 2) hx hb d_CI_isKey_6 (by decide) ?_
    refine lv_aload_n hx hb d_CI_isKey_7 rfl (lv_at hl 0 rfl) ?_
    refine y_get S hk hP 0 rfl f_CI_19 rfl d_CI_isKey_8 ?_
    refine x_imul hx hb d_CI_isKey_11 ?_
    refine x_ishl hx hb d_CI_isKey_12 (by omega) (by omega) ?_
    refine x_icmp_ge hx hb d_CI_isKey_13 (tgt := 20) (by decide) (by omega) (by omega) (fun h13 => ?_) (fun h13 => ?_)
    · refine lv_iconst (v := nI 0) hx hb d_CI_isKey_20 (by decide) ?_
      exact hret _ _ _ (by decide) (Or.inr ⟨by decide, by first | (rintro ⟨k, hk, rfl⟩; exact nI_pos (by omega) hx0) | (rintro ⟨k, hk, h⟩; rw [nI_eq ha (by omega)] at h; omega)⟩) d_CI_isKey_21
    · refine lv_iconst (v := nI 1) hx hb d_CI_isKey_16 (by decide) ?_
      refine lv_goto hx hb d_CI_isKey_17 (tgt := 21) (by decide) ?_
      exact hret _ _ _ (by decide) (Or.inl ⟨by decide, a, by omega, rfl⟩) d_CI_isKey_21
set_option maxHeartbeats 4000000 in
set_option maxRecDepth 100000 in
theorem c_CI_cellNumber (la : Launch) (G : gG) (o rw rt fr L : Nat) (x y : Nat) (hL : L ≤ 15) (hx' : x < 2 ^ L) : MetR la y_CI_cellNumber b_CI_cellNumber 3 .int 0 0 [.ref o, .int (nI x), .int (nI y)] G [(o, .inr (0, [.ref rw, .ref rt, .int (nI L), .ref fr]))] (fun r => r = nI (x * 2 ^ L + y)) := by
  refine MetR.mk (by decide +kernel) (Nat.le_of_ble_eq_true rfl) ?_
  intro p e s m below meth c Q ls S hP hk hs hret hl
  have hx := S.1
  have hb := S.2.1
  have hp := p2_15 hL
  have hq := p4_15 hL
  have hm : x * 2 ^ L ≤ 2 ^ L * 2 ^ L := Nat.mul_le_mul_right _ (by omega)
  have hl : lv_has ls 3 [(0, .ref o), (1, .int (nI x)), (2, .int (nI y))] := hl
  refine lv_iload_n hx hb d_CI_cellNumber_0 rfl (lv_at hl 1 rfl) ?_
  refine lv_aload_n hx hb d_CI_cellNumber_1 rfl (lv_at hl 0 rfl) ?_
  refine y_get S hk hP 0 rfl f_CI_19 rfl d_CI_cellNumber_2 ?_
  refine x_ishl hx hb d_CI_cellNumber_5 (by omega) (by omega) ?_
  refine lv_iload_n hx hb d_CI_cellNumber_6 rfl (lv_at hl 2 rfl) ?_
  refine x_iadd hx hb d_CI_cellNumber_7 ?_
  exact hret _ _ _ rfl (rfl) d_CI_cellNumber_8
set_option maxHeartbeats 4000000 in
set_option maxRecDepth 100000 in
theorem c_CI_xOf (la : Launch) (G : gG) (o rw rt fr L : Nat) (k : Nat) (hL : L ≤ 15) (hk' : k < 2147483648) : MetR la y_CI_xOf b_CI_xOf 2 .int 0 0 [.ref o, .int (nI k)] G [(o, .inr (0, [.ref rw, .ref rt, .int (nI L), .ref fr]))] (fun r => r = nI (k / 2 ^ L)) := by
  refine MetR.mk (by decide +kernel) (Nat.le_of_ble_eq_true rfl) ?_
  intro p e s m below meth c Q ls S hP hk hs hret hl
  have hx := S.1
  have hb := S.2.1
  have hl : lv_has ls 2 [(0, .ref o), (1, .int (nI k))] := hl
  refine lv_iload_n hx hb d_CI_xOf_0 rfl (lv_at hl 1 rfl) ?_
  refine lv_aload_n hx hb d_CI_xOf_1 rfl (lv_at hl 0 rfl) ?_
  refine y_get S hk hP 0 rfl f_CI_19 rfl d_CI_xOf_2 ?_
  refine x_ishr hx hb d_CI_xOf_5 (by omega) (by omega) ?_
  exact hret _ _ _ rfl (rfl) d_CI_xOf_6
set_option maxHeartbeats 4000000 in
set_option maxRecDepth 100000 in
theorem c_CI_yOf (la : Launch) (G : gG) (o rw rt fr L : Nat) (k : Nat) (hL : L ≤ 15) (hk' : k < 2147483648) : MetR la y_CI_yOf b_CI_yOf 2 .int 0 0 [.ref o, .int (nI k)] G [(o, .inr (0, [.ref rw, .ref rt, .int (nI L), .ref fr]))] (fun r => r = nI (k % 2 ^ L)) := by
  refine MetR.mk (by decide +kernel) (Nat.le_of_ble_eq_true rfl) ?_
  intro p e s m below meth c Q ls S hP hk hs hret hl
  have hx := S.1
  have hb := S.2.1
  have hp := p2_15 hL
  have hpp := Nat.two_pow_pos L
  have hl : lv_has ls 2 [(0, .ref o), (1, .int (nI k))] := hl
  refine lv_iload_n hx hb d_CI_yOf_0 rfl (lv_at hl 1 rfl) ?_
  refine lv_iconst (v := nI 1) hx hb d_CI_yOf_1 (by decide) ?_
  refine lv_aload_n hx hb d_CI_yOf_2 rfl (lv_at hl 0 rfl) ?_
  refine y_get S hk hP 0 rfl f_CI_19 rfl d_CI_yOf_3 ?_
  refine x_ishl hx hb d_CI_yOf_6 (by omega) (by omega) ?_
  refine lv_iconst (v := nI 1) hx hb d_CI_yOf_7 (by decide) ?_
  refine x_isub hx hb d_CI_yOf_8 (by omega) ?_
  refine x_reN (b := 2 ^ L - 1) (by omega) ?_
  refine x_mask hx hb d_CI_yOf_9 (by omega) (by omega) ?_
  exact hret _ _ _ rfl (rfl) d_CI_yOf_10
set_option maxHeartbeats 4000000 in
set_option maxRecDepth 100000 in
theorem c_CI_firstState (la : Launch) (G : gG) (cu : Nat) (hcu : cu < 2) : MetR la y_CI_firstState b_CI_firstState 1 .int 0 0 [.int (nI cu)] G [] (fun r => r = nI (st0 cu)) := by
  refine MetR.mk (by decide +kernel) (Nat.le_of_ble_eq_true rfl) ?_
  intro p e s m below meth c Q ls S hP hk hs hret hl
  have hx := S.1
  have hb := S.2.1
  have hl : lv_has ls 1 [(0, .int (nI cu))] := hl
  refine lv_iload_n hx hb d_CI_firstState_0 rfl (lv_at hl 0 rfl) ?_
  refine x_if_ne hx hb d_CI_firstState_1 (tgt := 8) (by decide) (by omega) (fun h1 => ?_) (fun h1 => ?_)
  · refine lv_iconst (v := nI 0) hx hb d_CI_firstState_8 (by decide) ?_
    exact hret _ _ _ rfl (by rw [st0, if_neg h1]) d_CI_firstState_9
  · refine lv_iconst (v := nI 4) hx hb d_CI_firstState_4 (by decide) ?_
    refine lv_goto hx hb d_CI_firstState_5 (tgt := 9) (by decide) ?_
    exact hret _ _ _ rfl (by rw [st0, if_pos h1]) d_CI_firstState_9
set_option maxHeartbeats 4000000 in
set_option maxRecDepth 100000 in
theorem c_Fr_holds (la : Launch) (G : gG) (fr x0 y0 x1 y1 : Nat) (x y : Nat) (h0 : x0 < 2147483648) (h1 : y0 < 2147483648) (h2 : x1 < 2147483648) (h3 : y1 < 2147483648) (hx' : x < 2147483648) (hy' : y < 2147483648) : MetR la y_Fr_holds b_Fr_holds 3 .boolean 0 0 [.ref fr, .int (nI x), .int (nI y)] G [(fr, .inr (2, [.int (nI x0), .int (nI y0), .int (nI x1), .int (nI y1)]))] (fun r => (r = 1 ∧ inF x0 y0 x1 y1 x y = true) ∨ (r = 0 ∧ inF x0 y0 x1 y1 x y = false)) := by
  refine MetR.mk (by decide +kernel) (Nat.le_of_ble_eq_true rfl) ?_
  intro p e s m below meth c Q ls S hP hk hs hret hl
  have hx := S.1
  have hb := S.2.1
  have hl : lv_has ls 3 [(0, .ref fr), (1, .int (nI x)), (2, .int (nI y))] := hl
  refine lv_iload_n hx hb d_Fr_holds_0 rfl (lv_at hl 1 rfl) ?_
  refine lv_aload_n hx hb d_Fr_holds_1 rfl (lv_at hl 0 rfl) ?_
  refine y_get S hk hP 0 rfl f_Fr_7 rfl d_Fr_holds_2 ?_
  refine x_icmp_lt hx hb d_Fr_holds_5 (tgt := 36) (by decide) (by omega) (by omega) (fun h5 => ?_) (fun h5 => ?_)
  · refine lv_iconst (v := nI 0) hx hb d_Fr_holds_36 (by decide) ?_
    exact hret _ _ _ (by decide) (Or.inr ⟨by decide, decide_eq_false (by omega)⟩) d_Fr_holds_37
  · refine lv_iload_n hx hb d_Fr_holds_8 rfl (lv_at hl 1 rfl) ?_
    refine lv_aload_n hx hb d_Fr_holds_9 rfl (lv_at hl 0 rfl) ?_
    refine y_get S hk hP 0 rfl f_Fr_16 rfl d_Fr_holds_10 ?_
    refine x_icmp_gt hx hb d_Fr_holds_13 (tgt := 36) (by decide) (by omega) (by omega) (fun h13 => ?_) (fun h13 => ?_)
    · refine lv_iconst (v := nI 0) hx hb d_Fr_holds_36 (by decide) ?_
      exact hret _ _ _ (by decide) (Or.inr ⟨by decide, decide_eq_false (by omega)⟩) d_Fr_holds_37
    · refine lv_iload_n hx hb d_Fr_holds_16 rfl (lv_at hl 2 rfl) ?_
      refine lv_aload_n hx hb d_Fr_holds_17 rfl (lv_at hl 0 rfl) ?_
      refine y_get S hk hP 0 rfl f_Fr_13 rfl d_Fr_holds_18 ?_
      refine x_icmp_lt hx hb d_Fr_holds_21 (tgt := 36) (by decide) (by omega) (by omega) (fun h21 => ?_) (fun h21 => ?_)
      · refine lv_iconst (v := nI 0) hx hb d_Fr_holds_36 (by decide) ?_
        exact hret _ _ _ (by decide) (Or.inr ⟨by decide, decide_eq_false (by omega)⟩) d_Fr_holds_37
      · refine lv_iload_n hx hb d_Fr_holds_24 rfl (lv_at hl 2 rfl) ?_
        refine lv_aload_n hx hb d_Fr_holds_25 rfl (lv_at hl 0 rfl) ?_
        refine y_get S hk hP 0 rfl f_Fr_19 rfl d_Fr_holds_26 ?_
        refine x_icmp_gt hx hb d_Fr_holds_29 (tgt := 36) (by decide) (by omega) (by omega) (fun h29 => ?_) (fun h29 => ?_)
        · refine lv_iconst (v := nI 0) hx hb d_Fr_holds_36 (by decide) ?_
          exact hret _ _ _ (by decide) (Or.inr ⟨by decide, decide_eq_false (by omega)⟩) d_Fr_holds_37
        · refine lv_iconst (v := nI 1) hx hb d_Fr_holds_32 (by decide) ?_
          refine lv_goto hx hb d_Fr_holds_33 (tgt := 37) (by decide) ?_
          exact hret _ _ _ (by decide) (Or.inl ⟨by decide, decide_eq_true (by omega)⟩) d_Fr_holds_37
set_option maxHeartbeats 4000000 in
set_option maxRecDepth 100000 in
theorem c_Fr_missesSquare (la : Launch) (G : gG) (fr x0 y0 x1 y1 : Nat) (x y d : Nat) (h0 : x0 < 2147483648) (h1 : y0 < 2147483648) (h2 : x1 < 2147483648) (h3 : y1 < 2147483648) (hx' : x + d < 2147483648) (hy' : y + d < 2147483648) : MetR la y_Fr_missesSquare b_Fr_missesSquare 4 .boolean 0 0 [.ref fr, .int (nI x), .int (nI y), .int (nI d)] G [(fr, .inr (2, [.int (nI x0), .int (nI y0), .int (nI x1), .int (nI y1)]))] (fun r => (r = 1 ∧ (x1 < x ∨ x + d ≤ x0 ∨ y1 < y ∨ y + d ≤ y0)) ∨ (r = 0 ∧ ¬ (x1 < x ∨ x + d ≤ x0 ∨ y1 < y ∨ y + d ≤ y0))) := by
  refine MetR.mk (by decide +kernel) (Nat.le_of_ble_eq_true rfl) ?_
  intro p e s m below meth c Q ls S hP hk hs hret hl
  have hx := S.1
  have hb := S.2.1
  have hl : lv_has ls 4 [(0, .ref fr), (1, .int (nI x)), (2, .int (nI y)), (3, .int (nI d))] := hl
  refine lv_iload_n hx hb d_Fr_missesSquare_0 rfl (lv_at hl 1 rfl) ?_
  refine lv_aload_n hx hb d_Fr_missesSquare_1 rfl (lv_at hl 0 rfl) ?_
  refine y_get S hk hP 0 rfl f_Fr_16 rfl d_Fr_missesSquare_2 ?_
  refine x_icmp_gt hx hb d_Fr_missesSquare_5 (tgt := 36) (by decide) (by omega) (by omega) (fun h5 => ?_) (fun h5 => ?_)
  · refine lv_iconst (v := nI 1) hx hb d_Fr_missesSquare_36 (by decide) ?_
    refine lv_goto hx hb d_Fr_missesSquare_37 (tgt := 41) (by decide) ?_
    exact hret _ _ _ (by decide) (Or.inl ⟨by decide, by omega⟩) d_Fr_missesSquare_41
  · refine lv_iload_n hx hb d_Fr_missesSquare_8 rfl (lv_at hl 1 rfl) ?_
    refine lv_iload_n hx hb d_Fr_missesSquare_9 rfl (lv_at hl 3 rfl) ?_
    refine x_iadd hx hb d_Fr_missesSquare_10 ?_
    refine lv_aload_n hx hb d_Fr_missesSquare_11 rfl (lv_at hl 0 rfl) ?_
    refine y_get S hk hP 0 rfl f_Fr_7 rfl d_Fr_missesSquare_12 ?_
    refine x_icmp_le hx hb d_Fr_missesSquare_15 (tgt := 36) (by decide) (by omega) (by omega) (fun h15 => ?_) (fun h15 => ?_)
    · refine lv_iconst (v := nI 1) hx hb d_Fr_missesSquare_36 (by decide) ?_
      refine lv_goto hx hb d_Fr_missesSquare_37 (tgt := 41) (by decide) ?_
      exact hret _ _ _ (by decide) (Or.inl ⟨by decide, by omega⟩) d_Fr_missesSquare_41
    · refine lv_iload_n hx hb d_Fr_missesSquare_18 rfl (lv_at hl 2 rfl) ?_
      refine lv_aload_n hx hb d_Fr_missesSquare_19 rfl (lv_at hl 0 rfl) ?_
      refine y_get S hk hP 0 rfl f_Fr_19 rfl d_Fr_missesSquare_20 ?_
      refine x_icmp_gt hx hb d_Fr_missesSquare_23 (tgt := 36) (by decide) (by omega) (by omega) (fun h23 => ?_) (fun h23 => ?_)
      · refine lv_iconst (v := nI 1) hx hb d_Fr_missesSquare_36 (by decide) ?_
        refine lv_goto hx hb d_Fr_missesSquare_37 (tgt := 41) (by decide) ?_
        exact hret _ _ _ (by decide) (Or.inl ⟨by decide, by omega⟩) d_Fr_missesSquare_41
      · refine lv_iload_n hx hb d_Fr_missesSquare_26 rfl (lv_at hl 2 rfl) ?_
        refine lv_iload_n hx hb d_Fr_missesSquare_27 rfl (lv_at hl 3 rfl) ?_
        refine x_iadd hx hb d_Fr_missesSquare_28 ?_
        refine lv_aload_n hx hb d_Fr_missesSquare_29 rfl (lv_at hl 0 rfl) ?_
        refine y_get S hk hP 0 rfl f_Fr_13 rfl d_Fr_missesSquare_30 ?_
        refine x_icmp_gt hx hb d_Fr_missesSquare_33 (tgt := 40) (by decide) (by omega) (by omega) (fun h33 => ?_) (fun h33 => ?_)
        · refine lv_iconst (v := nI 0) hx hb d_Fr_missesSquare_40 (by decide) ?_
          exact hret _ _ _ (by decide) (Or.inr ⟨by decide, by omega⟩) d_Fr_missesSquare_41
        · refine lv_iconst (v := nI 1) hx hb d_Fr_missesSquare_36 (by decide) ?_
          refine lv_goto hx hb d_Fr_missesSquare_37 (tgt := 41) (by decide) ?_
          exact hret _ _ _ (by decide) (Or.inl ⟨by decide, by omega⟩) d_Fr_missesSquare_41
set_option maxHeartbeats 4000000 in
set_option maxRecDepth 100000 in
theorem c_Fr_holdsSquare (la : Launch) (G : gG) (fr x0 y0 x1 y1 : Nat) (x y d : Nat) (h0 : x0 < 2147483648) (h1 : y0 < 2147483648) (h2 : x1 < 2147483648) (h3 : y1 < 2147483648) (hd : 0 < d) (hx' : x + d < 2147483648) (hy' : y + d < 2147483648) : MetR la y_Fr_holdsSquare b_Fr_holdsSquare 4 .boolean 1 22 [.ref fr, .int (nI x), .int (nI y), .int (nI d)] G [(fr, .inr (2, [.int (nI x0), .int (nI y0), .int (nI x1), .int (nI y1)]))] (fun r => (r = 1 ∧ inF x0 y0 x1 y1 x y = true ∧ inF x0 y0 x1 y1 (x + d - 1) (y + d - 1) = true) ∨ (r = 0 ∧ ¬ (inF x0 y0 x1 y1 x y = true ∧ inF x0 y0 x1 y1 (x + d - 1) (y + d - 1) = true))) := by
  refine MetR.mk (by decide +kernel) (Nat.le_of_ble_eq_true rfl) ?_
  intro p e s m below meth c Q ls S hP hk hs hret hl
  have hx := S.1
  have hb := S.2.1
  have hl : lv_has ls 4 [(0, .ref fr), (1, .int (nI x)), (2, .int (nI y)), (3, .int (nI d))] := hl
  refine lv_aload_n hx hb d_Fr_holdsSquare_0 rfl (lv_at hl 0 rfl) ?_
  refine lv_iload_n hx hb d_Fr_holdsSquare_1 rfl (lv_at hl 1 rfl) ?_
  refine lv_iload_n hx hb d_Fr_holdsSquare_2 rfl (lv_at hl 2 rfl) ?_
  refine vp_callSi (va_Run.run (run_V S v_Fr_22 (c_Fr_holds la G fr x0 y0 x1 y1 x y h0 h1 h2 h3 (by omega) (by omega)) ⟨rfl, rfl⟩ ⟨Nat.le_of_ble_eq_true rfl, Nat.le_of_ble_eq_true rfl⟩ (preR_V hP hk hs [0] rfl 0 rfl rfl) (rest := []) rfl hl.1 rfl (Nat.le_of_ble_eq_true rfl) d_Fr_holdsSquare_3 ⟨Nat.le_refl _, Nat.le_refl _⟩)) (fun r1 hr1 => ?_)
  rcases hr1 with ⟨rfl, q1⟩ | ⟨rfl, q1⟩
  · refine lv_if_eq hx hb d_Fr_holdsSquare_6 (tgt := 30) (by decide) (fun h => absurd h (by decide)) (fun _ => ?_)
    refine lv_aload_n hx hb d_Fr_holdsSquare_9 rfl (lv_at hl 0 rfl) ?_
    refine lv_iload_n hx hb d_Fr_holdsSquare_10 rfl (lv_at hl 1 rfl) ?_
    refine lv_iload_n hx hb d_Fr_holdsSquare_11 rfl (lv_at hl 3 rfl) ?_
    refine x_iadd hx hb d_Fr_holdsSquare_12 ?_
    refine lv_iconst (v := nI 1) hx hb d_Fr_holdsSquare_13 (by decide) ?_
    refine x_isub hx hb d_Fr_holdsSquare_14 (by omega) ?_
    refine lv_iload_n hx hb d_Fr_holdsSquare_15 rfl (lv_at hl 2 rfl) ?_
    refine lv_iload_n hx hb d_Fr_holdsSquare_16 rfl (lv_at hl 3 rfl) ?_
    refine x_iadd hx hb d_Fr_holdsSquare_17 ?_
    refine lv_iconst (v := nI 1) hx hb d_Fr_holdsSquare_18 (by decide) ?_
    refine x_isub hx hb d_Fr_holdsSquare_19 (by omega) ?_
    refine vp_callSi (va_Run.run (run_V S v_Fr_22 (c_Fr_holds la G fr x0 y0 x1 y1 (x + d - 1) (y + d - 1) h0 h1 h2 h3 (by omega) (by omega)) ⟨rfl, rfl⟩ ⟨Nat.le_of_ble_eq_true rfl, Nat.le_of_ble_eq_true rfl⟩ (preR_V hP hk hs [0] rfl 0 rfl rfl) (rest := []) rfl hl.1 rfl (Nat.le_of_ble_eq_true rfl) d_Fr_holdsSquare_20 ⟨Nat.le_refl _, Nat.le_refl _⟩)) (fun r2 hr2 => ?_)
    rcases hr2 with ⟨rfl, q2⟩ | ⟨rfl, q2⟩
    · refine lv_if_eq hx hb d_Fr_holdsSquare_23 (tgt := 30) (by decide) (fun h => absurd h (by decide)) (fun _ => ?_)
      refine lv_iconst (v := nI 1) hx hb d_Fr_holdsSquare_26 (by decide) ?_
      refine lv_goto hx hb d_Fr_holdsSquare_27 (tgt := 31) (by decide) ?_
      exact hret _ _ _ (by decide) (Or.inl ⟨by decide, q1, q2⟩) d_Fr_holdsSquare_31
    · refine lv_if_eq hx hb d_Fr_holdsSquare_23 (tgt := 30) (by decide) (fun _ => ?_) (fun h => absurd (by decide) h)
      refine lv_iconst (v := nI 0) hx hb d_Fr_holdsSquare_30 (by decide) ?_
      exact hret _ _ _ (by decide) (Or.inr ⟨by decide, by first | (rintro ⟨z, -⟩; rw [q1] at z; cases z; done) | (rintro ⟨-, z⟩; rw [q2] at z; cases z; done)⟩) d_Fr_holdsSquare_31
  · refine lv_if_eq hx hb d_Fr_holdsSquare_6 (tgt := 30) (by decide) (fun _ => ?_) (fun h => absurd (by decide) h)
    refine lv_iconst (v := nI 0) hx hb d_Fr_holdsSquare_30 (by decide) ?_
    exact hret _ _ _ (by decide) (Or.inr ⟨by decide, by first | (rintro ⟨z, -⟩; rw [q1] at z; cases z; done) | (rintro ⟨-, z⟩; rw [q2] at z; cases z; done)⟩) d_Fr_holdsSquare_31
set_option maxHeartbeats 4000000 in
set_option maxRecDepth 100000 in
theorem c_Fr_cellCount (la : Launch) (G : gG) (fr x0 y0 x1 y1 : Nat) (h0 : x0 < 2147483648) (h1 : y0 < 2147483648) (h2 : x1 < 2147483648) (h3 : y1 < 2147483648) (hx' : x0 ≤ x1) (hy' : y0 ≤ y1) : MetR la y_Fr_cellCount b_Fr_cellCount 1 .int 0 0 [.ref fr] G [(fr, .inr (2, [.int (nI x0), .int (nI y0), .int (nI x1), .int (nI y1)]))] (fun r => r = nI ((x1 - x0 + 1) * (y1 - y0 + 1))) := by
  refine MetR.mk (by decide +kernel) (Nat.le_of_ble_eq_true rfl) ?_
  intro p e s m below meth c Q ls S hP hk hs hret hl
  have hx := S.1
  have hb := S.2.1
  have hl : lv_has ls 1 [(0, .ref fr)] := hl
  refine lv_aload_n hx hb d_Fr_cellCount_0 rfl (lv_at hl 0 rfl) ?_
  refine y_get S hk hP 0 rfl f_Fr_16 rfl d_Fr_cellCount_1 ?_
  refine lv_aload_n hx hb d_Fr_cellCount_4 rfl (lv_at hl 0 rfl) ?_
  refine y_get S hk hP 0 rfl f_Fr_7 rfl d_Fr_cellCount_5 ?_
  refine x_isub hx hb d_Fr_cellCount_8 (by omega) ?_
  refine lv_iconst (v := nI 1) hx hb d_Fr_cellCount_9 (by decide) ?_
  refine x_iadd hx hb d_Fr_cellCount_10 ?_
  refine lv_aload_n hx hb d_Fr_cellCount_11 rfl (lv_at hl 0 rfl) ?_
  refine y_get S hk hP 0 rfl f_Fr_19 rfl d_Fr_cellCount_12 ?_
  refine lv_aload_n hx hb d_Fr_cellCount_15 rfl (lv_at hl 0 rfl) ?_
  refine y_get S hk hP 0 rfl f_Fr_13 rfl d_Fr_cellCount_16 ?_
  refine x_isub hx hb d_Fr_cellCount_19 (by omega) ?_
  refine lv_iconst (v := nI 1) hx hb d_Fr_cellCount_20 (by decide) ?_
  refine x_iadd hx hb d_Fr_cellCount_21 ?_
  refine x_imul hx hb d_Fr_cellCount_22 ?_
  exact hret _ _ _ rfl (rfl) d_Fr_cellCount_23
set_option maxHeartbeats 4000000 in
set_option maxRecDepth 100000 in
theorem c_CI_isInFrame (la : Launch) (G : gG) (o rw rt fr L : Nat) (x0 y0 x1 y1 k : Nat) (hL : L ≤ 15) (h0 : x0 < 2147483648) (h1 : y0 < 2147483648) (h2 : x1 < 2147483648) (h3 : y1 < 2147483648) (hk' : k < 2147483648) : MetR la y_CI_isInFrame b_CI_isInFrame 2 .boolean 1 22 [.ref o, .int (nI k)] G [(o, .inr (0, [.ref rw, .ref rt, .int (nI L), .ref fr])), (fr, .inr (2, [.int (nI x0), .int (nI y0), .int (nI x1), .int (nI y1)]))] (fun r => (r = 1 ∧ inc L (x0, y0, x1, y1) k = true) ∨ (r = 0 ∧ inc L (x0, y0, x1, y1) k = false)) := by
  refine MetR.mk (by decide +kernel) (Nat.le_of_ble_eq_true rfl) ?_
  intro p e s m below meth c Q ls S hP hk hs hret hl
  have hx := S.1
  have hb := S.2.1
  have hd1 : k / 2 ^ L ≤ k := Nat.div_le_self _ _
  have hd2 : k % 2 ^ L ≤ k := Nat.mod_le _ _
  have hl : lv_has ls 2 [(0, .ref o), (1, .int (nI k))] := hl
  refine lv_aload_n hx hb d_CI_isInFrame_0 rfl (lv_at hl 0 rfl) ?_
  refine y_get S hk hP 0 rfl f_CI_28 rfl d_CI_isInFrame_1 ?_
  refine lv_aload_n hx hb d_CI_isInFrame_4 rfl (lv_at hl 0 rfl) ?_
  refine lv_iload_n hx hb d_CI_isInFrame_5 rfl (lv_at hl 1 rfl) ?_
  refine vp_callSi (va_Run.run (run_V S v_CI_108 (c_CI_xOf la G o rw rt fr L k hL hk') ⟨rfl, rfl⟩ ⟨Nat.le_of_ble_eq_true rfl, Nat.le_of_ble_eq_true rfl⟩ (preR_V hP hk hs [0] rfl 0 rfl rfl) (rest := [.ref fr]) rfl hl.1 rfl (Nat.le_of_ble_eq_true rfl) d_CI_isInFrame_6 ⟨Nat.le_refl _, Nat.le_refl _⟩)) (fun r1 hr1 => ?_)
  subst hr1
  refine lv_aload_n hx hb d_CI_isInFrame_9 rfl (lv_at hl 0 rfl) ?_
  refine lv_iload_n hx hb d_CI_isInFrame_10 rfl (lv_at hl 1 rfl) ?_
  refine vp_callSi (va_Run.run (run_V S v_CI_111 (c_CI_yOf la G o rw rt fr L k hL hk') ⟨rfl, rfl⟩ ⟨Nat.le_of_ble_eq_true rfl, Nat.le_of_ble_eq_true rfl⟩ (preR_V hP hk hs [0] rfl 0 rfl rfl) (rest := [.int (nI (k / 2 ^ L)), .ref fr]) rfl hl.1 rfl (Nat.le_of_ble_eq_true rfl) d_CI_isInFrame_11 ⟨Nat.le_refl _, Nat.le_refl _⟩)) (fun r2 hr2 => ?_)
  subst hr2
  refine vp_callSi (va_Run.run (run_VN S hk v_CI_114 (c_Fr_holds la G fr x0 y0 x1 y1 (k / 2 ^ L) (k % 2 ^ L) h0 h1 h2 h3 (by omega) (by omega)) ⟨rfl, rfl⟩ ⟨Nat.le_of_ble_eq_true rfl, Nat.le_of_ble_eq_true rfl⟩ (preR_V hP hk hs [1] rfl 1 rfl rfl) (rest := []) rfl hl.1 rfl (Nat.le_of_ble_eq_true rfl) d_CI_isInFrame_14 ⟨Nat.le_refl _, Nat.le_refl _⟩)) (fun r3 hr3 => ?_)
  rcases hr3 with ⟨rfl, q3⟩ | ⟨rfl, q3⟩
  · exact hret _ _ _ (by decide) (Or.inl ⟨rfl, q3⟩) d_CI_isInFrame_17
  · exact hret _ _ _ (by decide) (Or.inr ⟨rfl, q3⟩) d_CI_isInFrame_17
end
section
/-! keys and cells of the class (laid by gen/m2.py) -/
set_option maxHeartbeats 4000000 in
set_option maxRecDepth 100000 in
theorem c_CI_keyOf (la : Launch) (G : gG) (o rw rt fr L : Nat) (cu x y : Nat) (hL : L ≤ 15) (hL1 : 1 ≤ L) (hcu : cu < 2) (hx' : x < 2 ^ L) (hy' : y < 2 ^ L) : MetR la y_CI_keyOf b_CI_keyOf 9 .int 1 20 [.ref o, .int (nI cu), .int (nI x), .int (nI y)] G [(o, .inr (0, [.ref rw, .ref rt, .int (nI L), .ref fr]))] (fun r => r = nI (kk cu L x y)) := by
  refine MetR.mk (by decide +kernel) (Nat.le_of_ble_eq_true rfl) ?_
  intro p e s m below meth c Q ls S hP hk hs hret hl
  have hx := S.1
  have hb := S.2.1
  have hp := p2_15 hL
  have hl : lv_has ls 9 [(0, .ref o), (1, .int (nI cu)), (2, .int (nI x)), (3, .int (nI y))] := hl
  refine lv_iload_n hx hb d_CI_keyOf_0 rfl (lv_at hl 1 rfl) ?_
  refine vp_callSi (va_Run.run (run_S S v_CI_117 (c_CI_firstState la G cu hcu) ⟨rfl, rfl⟩ ⟨Nat.le_of_ble_eq_true rfl, Nat.le_of_ble_eq_true rfl⟩ (preR_S hP hk hs [] rfl) (rest := []) rfl hl.1 rfl (Nat.le_of_ble_eq_true rfl) d_CI_keyOf_1 ⟨Nat.le_refl _, Nat.le_refl _⟩)) (fun r1 hr1 => ?_)
  subst hr1
  refine lv_istore hx hb d_CI_keyOf_4 hl (by decide) rfl (fun ls hl => ?_)
  have hl : lv_has ls 9 [(4, .int (nI (st0 cu))), (0, .ref o), (1, .int (nI cu)), (2, .int (nI x)), (3, .int (nI y))] := hl
  refine lv_iconst (v := nI 0) hx hb d_CI_keyOf_6 (by decide) ?_
  refine lv_istore hx hb d_CI_keyOf_7 hl (by decide) rfl (fun ls hl => ?_)
  have hl : lv_has ls 9 [(5, .int (nI 0)), (4, .int (nI (st0 cu))), (0, .ref o), (1, .int (nI cu)), (2, .int (nI x)), (3, .int (nI y))] := hl
  refine lv_aload_n hx hb d_CI_keyOf_9 rfl (lv_at hl 2 rfl) ?_
  refine y_get S hk hP 0 rfl f_CI_19 rfl d_CI_keyOf_10 ?_
  refine lv_iconst (v := nI 1) hx hb d_CI_keyOf_13 (by decide) ?_
  refine x_isub hx hb d_CI_keyOf_14 (by omega) ?_
  refine lv_istore hx hb d_CI_keyOf_15 hl (by decide) rfl (fun ls hl => ?_)
  have hl : lv_has ls 9 [(6, .int (nI (L - 1))), (5, .int (nI 0)), (4, .int (nI (st0 cu))), (0, .ref o), (1, .int (nI cu)), (2, .int (nI x)), (3, .int (nI y))] := hl
  have hl := lv_sub hl [0, 1, 2, 3, 4, 5, 6] rfl
  have hl : lv_has ls 9 [(6, .int (nI (L - 1))), (5, .int (nI 0)), (4, .int (nI (st0 cu))), (0, .ref o), (1, .int (nI cu)), (2, .int (nI x)), (3, .int (nI y))] := hl
  rw [oI_pr (by omega)] at hl
  refine (?_ : ∀ (l k st : Nat) (ls : Array Slot), l ≤ L → st < 5 → lv_has ls 9 [(6, .int (oI l)), (5, .int (nI k)), (4, .int (nI st)), (0, .ref o), (1, .int (nI cu)), (2, .int (nI x)), (3, .int (nI y))] → ck l st k x y = kk cu L x y → W p la e _ s m _ below meth c s.heap [] 0 0 Q (F0 m 17 ls [])) L 0 (st0 cu) ls (Nat.le_refl _) (st0_lt cu) hl (ck_kk hcu hx' hy')
  intro l
  induction l with
  | zero =>
    intro k st ls hl' hst hl hg
    have hl : lv_has ls 9 [(6, .int (-1)), (5, .int (nI k)), (4, .int (nI st)), (0, .ref o), (1, .int (nI cu)), (2, .int (nI x)), (3, .int (nI y))] := hl
    refine lv_iload hx hb d_CI_keyOf_17 (lv_at hl 0 rfl) ?_
    refine lv_if_lt hx hb d_CI_keyOf_19 (tgt := 80) (by decide) (fun _ => ?_) (fun h => absurd (by decide) h)
    refine lv_iload hx hb d_CI_keyOf_80 (lv_at hl 1 rfl) ?_
    exact hret _ _ _ rfl (congrArg nI hg) d_CI_keyOf_82
  | succ l ih =>
    intro k st ls hl' hst hl hg
    have b1 : x / 2 ^ l % 2 < 2 := Nat.mod_lt _ (by omega)
    have b2 : y / 2 ^ l % 2 < 2 := Nat.mod_lt _ (by omega)
    have b3 : x / 2 ^ l ≤ x := Nat.div_le_self _ _
    have b4 : y / 2 ^ l ≤ y := Nat.div_le_self _ _
    have b5 := tSQ_lt (4 * st + (2 * (x / 2 ^ l % 2) + y / 2 ^ l % 2)) (by omega)
    have hl : lv_has ls 9 [(6, .int (nI l)), (5, .int (nI k)), (4, .int (nI st)), (0, .ref o), (1, .int (nI cu)), (2, .int (nI x)), (3, .int (nI y))] := hl
    refine lv_iload hx hb d_CI_keyOf_17 (lv_at hl 0 rfl) ?_
    refine lv_if_lt hx hb d_CI_keyOf_19 (tgt := 80) (by decide) (fun h => absurd h (nI_pos (by omega))) (fun _ => ?_)
    refine lv_iconst (v := nI 2) hx hb d_CI_keyOf_22 (by decide) ?_
    refine lv_iload_n hx hb d_CI_keyOf_23 rfl (lv_at hl 5 rfl) ?_
    refine lv_iload hx hb d_CI_keyOf_24 (lv_at hl 0 rfl) ?_
    refine x_ishr hx hb d_CI_keyOf_26 (by omega) (by omega) ?_
    refine lv_iconst (v := nI 1) hx hb d_CI_keyOf_27 (by decide) ?_
    refine x_iand1 hx hb d_CI_keyOf_28 (by omega) ?_
    refine x_imul hx hb d_CI_keyOf_29 ?_
    refine lv_iload_n hx hb d_CI_keyOf_30 rfl (lv_at hl 6 rfl) ?_
    refine lv_iload hx hb d_CI_keyOf_31 (lv_at hl 0 rfl) ?_
    refine x_ishr hx hb d_CI_keyOf_33 (by omega) (by omega) ?_
    refine lv_iconst (v := nI 1) hx hb d_CI_keyOf_34 (by decide) ?_
    refine x_iand1 hx hb d_CI_keyOf_35 (by omega) ?_
    refine x_iadd hx hb d_CI_keyOf_36 ?_
    refine lv_istore hx hb d_CI_keyOf_37 hl (by decide) rfl (fun ls hl => ?_)
    have hl : lv_has ls 9 [(7, .int (nI ((2 * ((x / 2 ^ l) % 2)) + ((y / 2 ^ l) % 2)))), (6, .int (nI l)), (5, .int (nI k)), (4, .int (nI st)), (0, .ref o), (1, .int (nI cu)), (2, .int (nI x)), (3, .int (nI y))] := hl
    refine y_gets S hs.1 va_S.rf s_CI_120 d_CI_keyOf_39 ?_
    refine lv_iconst (v := nI 4) hx hb d_CI_keyOf_42 (by decide) ?_
    refine lv_iload hx hb d_CI_keyOf_43 (lv_at hl 3 rfl) ?_
    refine x_imul hx hb d_CI_keyOf_45 ?_
    refine lv_iload hx hb d_CI_keyOf_46 (lv_at hl 0 rfl) ?_
    refine x_iadd hx hb d_CI_keyOf_48 ?_
    refine y_ti hx hb hs.1 va_S.rf (by omega) d_CI_keyOf_49 ?_
    refine lv_istore hx hb d_CI_keyOf_50 hl (by decide) rfl (fun ls hl => ?_)
    have hl : lv_has ls 9 [(8, .int (nI (tSQ ((4 * st) + ((2 * ((x / 2 ^ l) % 2)) + ((y / 2 ^ l) % 2)))))), (7, .int (nI ((2 * ((x / 2 ^ l) % 2)) + ((y / 2 ^ l) % 2)))), (6, .int (nI l)), (5, .int (nI k)), (4, .int (nI st)), (0, .ref o), (1, .int (nI cu)), (2, .int (nI x)), (3, .int (nI y))] := hl
    refine lv_iconst (v := nI 4) hx hb d_CI_keyOf_52 (by decide) ?_
    refine lv_iload hx hb d_CI_keyOf_53 (lv_at hl 3 rfl) ?_
    refine x_imul hx hb d_CI_keyOf_55 ?_
    refine lv_iload hx hb d_CI_keyOf_56 (lv_at hl 0 rfl) ?_
    refine x_iadd hx hb d_CI_keyOf_58 ?_
    refine lv_istore hx hb d_CI_keyOf_59 hl (by decide) rfl (fun ls hl => ?_)
    have hl : lv_has ls 9 [(5, .int (nI ((4 * k) + (tSQ ((4 * st) + ((2 * ((x / 2 ^ l) % 2)) + ((y / 2 ^ l) % 2))))))), (8, .int (nI (tSQ ((4 * st) + ((2 * ((x / 2 ^ l) % 2)) + ((y / 2 ^ l) % 2)))))), (7, .int (nI ((2 * ((x / 2 ^ l) % 2)) + ((y / 2 ^ l) % 2)))), (6, .int (nI l)), (4, .int (nI st)), (0, .ref o), (1, .int (nI cu)), (2, .int (nI x)), (3, .int (nI y))] := hl
    refine y_gets S hs.2.2 va_S.rf s_CI_123 d_CI_keyOf_61 ?_
    refine lv_iconst (v := nI 4) hx hb d_CI_keyOf_64 (by decide) ?_
    refine lv_iload hx hb d_CI_keyOf_65 (lv_at hl 4 rfl) ?_
    refine x_imul hx hb d_CI_keyOf_67 ?_
    refine lv_iload hx hb d_CI_keyOf_68 (lv_at hl 1 rfl) ?_
    refine x_iadd hx hb d_CI_keyOf_70 ?_
    refine y_ti hx hb hs.2.2 va_S.rf (by omega) d_CI_keyOf_71 ?_
    refine lv_istore hx hb d_CI_keyOf_72 hl (by decide) rfl (fun ls hl => ?_)
    have hl : lv_has ls 9 [(4, .int (nI (tSS ((4 * st) + (tSQ ((4 * st) + ((2 * ((x / 2 ^ l) % 2)) + ((y / 2 ^ l) % 2)))))))), (5, .int (nI ((4 * k) + (tSQ ((4 * st) + ((2 * ((x / 2 ^ l) % 2)) + ((y / 2 ^ l) % 2))))))), (8, .int (nI (tSQ ((4 * st) + ((2 * ((x / 2 ^ l) % 2)) + ((y / 2 ^ l) % 2)))))), (7, .int (nI ((2 * ((x / 2 ^ l) % 2)) + ((y / 2 ^ l) % 2)))), (6, .int (nI l)), (0, .ref o), (1, .int (nI cu)), (2, .int (nI x)), (3, .int (nI y))] := hl
    refine lv_iinc (v := oI l) hx hb d_CI_keyOf_74 hl (k := 4) rfl (ii_m _) (by decide) rfl (fun ls hl => ?_)
    have hl : lv_has ls 9 [(6, .int (oI l)), (4, .int (nI (tSS ((4 * st) + (tSQ ((4 * st) + ((2 * ((x / 2 ^ l) % 2)) + ((y / 2 ^ l) % 2)))))))), (5, .int (nI ((4 * k) + (tSQ ((4 * st) + ((2 * ((x / 2 ^ l) % 2)) + ((y / 2 ^ l) % 2))))))), (8, .int (nI (tSQ ((4 * st) + ((2 * ((x / 2 ^ l) % 2)) + ((y / 2 ^ l) % 2)))))), (7, .int (nI ((2 * ((x / 2 ^ l) % 2)) + ((y / 2 ^ l) % 2)))), (0, .ref o), (1, .int (nI cu)), (2, .int (nI x)), (3, .int (nI y))] := hl
    refine lv_goto hx hb d_CI_keyOf_77 (tgt := 17) (by decide) ?_
    have hl := lv_sub hl [0, 2, 1, 5, 6, 7, 8] rfl
    exact ih _ _ _ (by omega) (tSS_lt _ (by omega)) hl hg
set_option maxHeartbeats 4000000 in
set_option maxRecDepth 100000 in
theorem c_CI_cellOf (la : Launch) (G : gG) (o rw rt fr L : Nat) (cu k : Nat) (hL : L ≤ 15) (hL1 : 1 ≤ L) (hcu : cu < 2) (hk' : k < 2 ^ L * 2 ^ L) : MetR la y_CI_cellOf b_CI_cellOf 9 .int 1 22 [.ref o, .int (nI cu), .int (nI k)] G [(o, .inr (0, [.ref rw, .ref rt, .int (nI L), .ref fr]))] (fun r => r = nI ((kc cu L k).1 * 2 ^ L + (kc cu L k).2)) := by
  refine MetR.mk (by decide +kernel) (Nat.le_of_ble_eq_true rfl) ?_
  intro p e s m below meth c Q ls S hP hk hs hret hl
  have hx := S.1
  have hb := S.2.1
  have hp := p2_15 hL
  have hp4 := p4_15 hL
  have hl : lv_has ls 9 [(0, .ref o), (1, .int (nI cu)), (2, .int (nI k))] := hl
  refine lv_iload_n hx hb d_CI_cellOf_0 rfl (lv_at hl 1 rfl) ?_
  refine vp_callSi (va_Run.run (run_S S v_CI_117 (c_CI_firstState la G cu hcu) ⟨rfl, rfl⟩ ⟨Nat.le_of_ble_eq_true rfl, Nat.le_of_ble_eq_true rfl⟩ (preR_S hP hk hs [] rfl) (rest := []) rfl hl.1 rfl (Nat.le_of_ble_eq_true rfl) d_CI_cellOf_1 ⟨Nat.le_refl _, Nat.le_refl _⟩)) (fun r1 hr1 => ?_)
  subst hr1
  refine lv_istore_n hx hb d_CI_cellOf_4 rfl hl (by decide) rfl (fun ls hl => ?_)
  have hl : lv_has ls 9 [(3, .int (nI (st0 cu))), (0, .ref o), (1, .int (nI cu)), (2, .int (nI k))] := hl
  refine lv_iconst (v := nI 0) hx hb d_CI_cellOf_5 (by decide) ?_
  refine lv_istore hx hb d_CI_cellOf_6 hl (by decide) rfl (fun ls hl => ?_)
  have hl : lv_has ls 9 [(4, .int (nI 0)), (3, .int (nI (st0 cu))), (0, .ref o), (1, .int (nI cu)), (2, .int (nI k))] := hl
  refine lv_iconst (v := nI 0) hx hb d_CI_cellOf_8 (by decide) ?_
  refine lv_istore hx hb d_CI_cellOf_9 hl (by decide) rfl (fun ls hl => ?_)
  have hl : lv_has ls 9 [(5, .int (nI 0)), (4, .int (nI 0)), (3, .int (nI (st0 cu))), (0, .ref o), (1, .int (nI cu)), (2, .int (nI k))] := hl
  refine lv_aload_n hx hb d_CI_cellOf_11 rfl (lv_at hl 3 rfl) ?_
  refine y_get S hk hP 0 rfl f_CI_19 rfl d_CI_cellOf_12 ?_
  refine lv_iconst (v := nI 1) hx hb d_CI_cellOf_15 (by decide) ?_
  refine x_isub hx hb d_CI_cellOf_16 (by omega) ?_
  refine lv_istore hx hb d_CI_cellOf_17 hl (by decide) rfl (fun ls hl => ?_)
  have hl : lv_has ls 9 [(6, .int (nI (L - 1))), (5, .int (nI 0)), (4, .int (nI 0)), (3, .int (nI (st0 cu))), (0, .ref o), (1, .int (nI cu)), (2, .int (nI k))] := hl
  have hl : lv_has ls 9 [(6, .int (nI (L - 1))), (5, .int (nI 0)), (4, .int (nI 0)), (3, .int (nI (st0 cu))), (0, .ref o), (1, .int (nI cu)), (2, .int (nI k))] := hl
  rw [oI_pr (by omega)] at hl
  refine (?_ : ∀ (l x y st : Nat) (ls : Array Slot), l ≤ L → st < 5 → lv_has ls 9 [(6, .int (oI l)), (5, .int (nI y)), (4, .int (nI x)), (3, .int (nI st)), (0, .ref o), (1, .int (nI cu)), (2, .int (nI k))] → cw l st x y k = kc cu L k → W p la e _ s m _ below meth c s.heap [] 0 0 Q (F0 m 19 ls [])) L 0 0 (st0 cu) ls (Nat.le_refl _) (st0_lt cu) hl (by rw [cw_eq _ _ _ _ _ (st0_lt cu), cs_kc hcu, Nat.mul_zero, Nat.zero_add, Nat.zero_add])
  intro l
  induction l with
  | zero =>
    intro x y st ls hl' hst hl hg
    have hg : (x, y) = kc cu L k := hg
    have hkl := kc_lt (cu := cu) (N := L) (k := k)
    rw [← hg] at hkl
    have hl : lv_has ls 9 [(6, .int (-1)), (5, .int (nI y)), (4, .int (nI x)), (3, .int (nI st)), (0, .ref o), (1, .int (nI cu)), (2, .int (nI k))] := hl
    refine lv_iload hx hb d_CI_cellOf_19 (lv_at hl 0 rfl) ?_
    refine lv_if_lt hx hb d_CI_cellOf_21 (tgt := 85) (by decide) (fun _ => ?_) (fun h => absurd (by decide) h)
    refine lv_aload_n hx hb d_CI_cellOf_85 rfl (lv_at hl 4 rfl) ?_
    refine lv_iload hx hb d_CI_cellOf_86 (lv_at hl 2 rfl) ?_
    refine lv_iload hx hb d_CI_cellOf_88 (lv_at hl 1 rfl) ?_
    refine vp_callSi (va_Run.run (run_V S v_CI_62 (c_CI_cellNumber la G o rw rt fr L x y hL hkl.1) ⟨rfl, rfl⟩ ⟨Nat.le_of_ble_eq_true rfl, Nat.le_of_ble_eq_true rfl⟩ (preR_V hP hk hs [0] rfl 0 rfl rfl) (rest := []) rfl hl.1 rfl (Nat.le_of_ble_eq_true rfl) d_CI_cellOf_90 ⟨Nat.le_refl _, Nat.le_refl _⟩)) (fun r2 hr2 => ?_)
    subst hr2
    exact hret _ _ _ rfl (by rw [← hg]) d_CI_cellOf_93
  | succ l ih =>
    intro x y st ls hl' hst hl hg
    have e22 := p22 l
    have b3 : k / 2 ^ (2 * l) ≤ k := Nat.div_le_self _ _
    have b5 : tQS (4 * st + k / 2 ^ (2 * l) % 4) < 4 := tQS_lt _ (by omega)
    have hl : lv_has ls 9 [(6, .int (nI l)), (5, .int (nI y)), (4, .int (nI x)), (3, .int (nI st)), (0, .ref o), (1, .int (nI cu)), (2, .int (nI k))] := hl
    refine lv_iload hx hb d_CI_cellOf_19 (lv_at hl 0 rfl) ?_
    refine lv_if_lt hx hb d_CI_cellOf_21 (tgt := 85) (by decide) (fun h => absurd h (nI_pos (by omega))) (fun _ => ?_)
    refine lv_iload_n hx hb d_CI_cellOf_24 rfl (lv_at hl 6 rfl) ?_
    refine lv_iconst (v := nI 2) hx hb d_CI_cellOf_25 (by decide) ?_
    refine lv_iload hx hb d_CI_cellOf_26 (lv_at hl 0 rfl) ?_
    refine x_imul hx hb d_CI_cellOf_28 ?_
    refine x_ishr hx hb d_CI_cellOf_29 (by omega) (by omega) ?_
    refine lv_iconst (v := nI 3) hx hb d_CI_cellOf_30 (by decide) ?_
    refine x_iand3 hx hb d_CI_cellOf_31 (by omega) ?_
    refine lv_istore hx hb d_CI_cellOf_32 hl (by decide) rfl (fun ls hl => ?_)
    have hl : lv_has ls 9 [(7, .int (nI ((k / 2 ^ (2 * l)) % 4))), (6, .int (nI l)), (5, .int (nI y)), (4, .int (nI x)), (3, .int (nI st)), (0, .ref o), (1, .int (nI cu)), (2, .int (nI k))] := hl
    refine y_gets S hs.2.1 va_S.rf s_CI_126 d_CI_cellOf_34 ?_
    refine lv_iconst (v := nI 4) hx hb d_CI_cellOf_37 (by decide) ?_
    refine lv_iload_n hx hb d_CI_cellOf_38 rfl (lv_at hl 4 rfl) ?_
    refine x_imul hx hb d_CI_cellOf_39 ?_
    refine lv_iload hx hb d_CI_cellOf_40 (lv_at hl 0 rfl) ?_
    refine x_iadd hx hb d_CI_cellOf_42 ?_
    refine y_ti hx hb hs.2.1 va_S.rf (by omega) d_CI_cellOf_43 ?_
    refine lv_istore hx hb d_CI_cellOf_44 hl (by decide) rfl (fun ls hl => ?_)
    have hl : lv_has ls 9 [(8, .int (nI (tQS ((4 * st) + ((k / 2 ^ (2 * l)) % 4))))), (7, .int (nI ((k / 2 ^ (2 * l)) % 4))), (6, .int (nI l)), (5, .int (nI y)), (4, .int (nI x)), (3, .int (nI st)), (0, .ref o), (1, .int (nI cu)), (2, .int (nI k))] := hl
    refine lv_iconst (v := nI 2) hx hb d_CI_cellOf_46 (by decide) ?_
    refine lv_iload hx hb d_CI_cellOf_47 (lv_at hl 4 rfl) ?_
    refine x_imul hx hb d_CI_cellOf_49 ?_
    refine lv_iload hx hb d_CI_cellOf_50 (lv_at hl 0 rfl) ?_
    refine lv_iconst (v := nI 1) hx hb d_CI_cellOf_52 (by decide) ?_
    refine x_ishr hx hb d_CI_cellOf_53 (by omega) (by omega) ?_
    refine x_iadd hx hb d_CI_cellOf_54 ?_
    refine lv_istore hx hb d_CI_cellOf_55 hl (by decide) rfl (fun ls hl => ?_)
    have hl : lv_has ls 9 [(4, .int (nI ((2 * x) + ((tQS ((4 * st) + ((k / 2 ^ (2 * l)) % 4))) / 2 ^ 1)))), (8, .int (nI (tQS ((4 * st) + ((k / 2 ^ (2 * l)) % 4))))), (7, .int (nI ((k / 2 ^ (2 * l)) % 4))), (6, .int (nI l)), (5, .int (nI y)), (3, .int (nI st)), (0, .ref o), (1, .int (nI cu)), (2, .int (nI k))] := hl
    refine lv_iconst (v := nI 2) hx hb d_CI_cellOf_57 (by decide) ?_
    refine lv_iload hx hb d_CI_cellOf_58 (lv_at hl 4 rfl) ?_
    refine x_imul hx hb d_CI_cellOf_60 ?_
    refine lv_iload hx hb d_CI_cellOf_61 (lv_at hl 1 rfl) ?_
    refine lv_iconst (v := nI 1) hx hb d_CI_cellOf_63 (by decide) ?_
    refine x_iand1 hx hb d_CI_cellOf_64 (by omega) ?_
    refine x_iadd hx hb d_CI_cellOf_65 ?_
    refine lv_istore hx hb d_CI_cellOf_66 hl (by decide) rfl (fun ls hl => ?_)
    have hl : lv_has ls 9 [(5, .int (nI ((2 * y) + ((tQS ((4 * st) + ((k / 2 ^ (2 * l)) % 4))) % 2)))), (4, .int (nI ((2 * x) + ((tQS ((4 * st) + ((k / 2 ^ (2 * l)) % 4))) / 2 ^ 1)))), (8, .int (nI (tQS ((4 * st) + ((k / 2 ^ (2 * l)) % 4))))), (7, .int (nI ((k / 2 ^ (2 * l)) % 4))), (6, .int (nI l)), (3, .int (nI st)), (0, .ref o), (1, .int (nI cu)), (2, .int (nI k))] := hl
    refine y_gets S hs.2.2 va_S.rf s_CI_123 d_CI_cellOf_68 ?_
    refine lv_iconst (v := nI 4) hx hb d_CI_cellOf_71 (by decide) ?_
    refine lv_iload_n hx hb d_CI_cellOf_72 rfl (lv_at hl 5 rfl) ?_
    refine x_imul hx hb d_CI_cellOf_73 ?_
    refine lv_iload hx hb d_CI_cellOf_74 (lv_at hl 3 rfl) ?_
    refine x_iadd hx hb d_CI_cellOf_76 ?_
    refine y_ti hx hb hs.2.2 va_S.rf (by omega) d_CI_cellOf_77 ?_
    refine lv_istore_n hx hb d_CI_cellOf_78 rfl hl (by decide) rfl (fun ls hl => ?_)
    have hl : lv_has ls 9 [(3, .int (nI (tSS ((4 * st) + ((k / 2 ^ (2 * l)) % 4))))), (5, .int (nI ((2 * y) + ((tQS ((4 * st) + ((k / 2 ^ (2 * l)) % 4))) % 2)))), (4, .int (nI ((2 * x) + ((tQS ((4 * st) + ((k / 2 ^ (2 * l)) % 4))) / 2 ^ 1)))), (8, .int (nI (tQS ((4 * st) + ((k / 2 ^ (2 * l)) % 4))))), (7, .int (nI ((k / 2 ^ (2 * l)) % 4))), (6, .int (nI l)), (0, .ref o), (1, .int (nI cu)), (2, .int (nI k))] := hl
    refine lv_iinc (v := oI l) hx hb d_CI_cellOf_79 hl (k := 5) rfl (ii_m _) (by decide) rfl (fun ls hl => ?_)
    have hl : lv_has ls 9 [(6, .int (oI l)), (3, .int (nI (tSS ((4 * st) + ((k / 2 ^ (2 * l)) % 4))))), (5, .int (nI ((2 * y) + ((tQS ((4 * st) + ((k / 2 ^ (2 * l)) % 4))) % 2)))), (4, .int (nI ((2 * x) + ((tQS ((4 * st) + ((k / 2 ^ (2 * l)) % 4))) / 2 ^ 1)))), (8, .int (nI (tQS ((4 * st) + ((k / 2 ^ (2 * l)) % 4))))), (7, .int (nI ((k / 2 ^ (2 * l)) % 4))), (0, .ref o), (1, .int (nI cu)), (2, .int (nI k))] := hl
    refine lv_goto hx hb d_CI_cellOf_82 (tgt := 19) (by decide) ?_
    have hl := lv_sub hl [0, 2, 3, 1, 6, 7, 8] rfl
    exact ih _ _ _ _ (by omega) (tSS_lt _ (by omega)) hl (by rw [e22, Nat.pow_one]; exact hg)
set_option maxHeartbeats 4000000 in
set_option maxRecDepth 100000 in
theorem c_CI_hasRuns (la : Launch) (G : gG) (o rw rt fr L : Nat) (x0 y0 x1 y1 : Nat) (x : Int32) (h0 : x0 < 32768) (h1 : y0 < 32768) (h2 : x1 < 32768) (h3 : y1 < 32768) (hx' : x0 ≤ x1) (hy' : y0 ≤ y1) : MetR la y_CI_hasRuns b_CI_hasRuns 2 .boolean 1 20 [.ref o, .int x] G [(o, .inr (0, [.ref rw, .ref rt, .int (nI L), .ref fr])), (fr, .inr (2, [.int (nI x0), .int (nI y0), .int (nI x1), .int (nI y1)]))] (fun r => (r = 1 ∧ cuO x ∧ (x1 - x0 + 1) * (y1 - y0 + 1) ≤ 4096) ∨ (r = 0 ∧ ¬ (cuO x ∧ (x1 - x0 + 1) * (y1 - y0 + 1) ≤ 4096))) := by
  refine MetR.mk (by decide +kernel) (Nat.le_of_ble_eq_true rfl) ?_
  intro p e s m below meth c Q ls S hP hk hs hret hl
  have hx := S.1
  have hb := S.2.1
  have hm : (x1 - x0 + 1) * (y1 - y0 + 1) ≤ 32768 * 32768 := Nat.mul_le_mul (by omega) (by omega)
  have hl : lv_has ls 2 [(0, .ref o), (1, .int x)] := hl
  refine lv_iload_n hx hb d_CI_hasRuns_0 rfl (lv_at hl 1 rfl) ?_
  refine vp_callSi (va_Run.run (run_S S v_CI_35 (c_CI_isCurve la G x) ⟨rfl, rfl⟩ ⟨Nat.le_of_ble_eq_true rfl, Nat.le_of_ble_eq_true rfl⟩ (preR_S hP hk hs [] rfl) (rest := []) rfl hl.1 rfl (Nat.le_of_ble_eq_true rfl) d_CI_hasRuns_1 ⟨Nat.le_refl _, Nat.le_refl _⟩)) (fun r1 hr1 => ?_)
  rcases hr1 with ⟨rfl, q1⟩ | ⟨rfl, q1⟩
  · refine lv_if_eq hx hb d_CI_hasRuns_4 (tgt := 24) (by decide) (fun h => absurd h (by decide)) (fun _ => ?_)
    refine lv_aload_n hx hb d_CI_hasRuns_7 rfl (lv_at hl 0 rfl) ?_
    refine y_get S hk hP 0 rfl f_CI_28 rfl d_CI_hasRuns_8 ?_
    refine vp_callSi (va_Run.run (run_VN S hk v_CI_129 (c_Fr_cellCount la G fr x0 y0 x1 y1 (by omega) (by omega) (by omega) (by omega) hx' hy') ⟨rfl, rfl⟩ ⟨Nat.le_of_ble_eq_true rfl, Nat.le_of_ble_eq_true rfl⟩ (preR_V hP hk hs [1] rfl 1 rfl rfl) (rest := []) rfl hl.1 rfl (Nat.le_of_ble_eq_true rfl) d_CI_hasRuns_11 ⟨Nat.le_refl _, Nat.le_refl _⟩)) (fun r2 hr2 => ?_)
    subst hr2
    refine lv_sipush (v := nI 4096) hx hb d_CI_hasRuns_14 (by decide) ?_
    refine x_icmp_gt hx hb d_CI_hasRuns_17 (tgt := 24) (by decide) (by omega) (by omega) (fun h17 => ?_) (fun h17 => ?_)
    · refine lv_iconst (v := nI 0) hx hb d_CI_hasRuns_24 (by decide) ?_
      exact hret _ _ _ (by decide) (Or.inr ⟨by decide, by first | exact fun z => q1 z.1 | exact fun z => absurd z.2 (by omega)⟩) d_CI_hasRuns_25
    · refine lv_iconst (v := nI 1) hx hb d_CI_hasRuns_20 (by decide) ?_
      refine lv_goto hx hb d_CI_hasRuns_21 (tgt := 25) (by decide) ?_
      exact hret _ _ _ (by decide) (Or.inl ⟨by decide, q1, by omega⟩) d_CI_hasRuns_25
  · refine lv_if_eq hx hb d_CI_hasRuns_4 (tgt := 24) (by decide) (fun _ => ?_) (fun h => absurd (by decide) h)
    refine lv_iconst (v := nI 0) hx hb d_CI_hasRuns_24 (by decide) ?_
    exact hret _ _ _ (by decide) (Or.inr ⟨by decide, by first | exact fun z => q1 z.1 | exact fun z => absurd z.2 (by omega)⟩) d_CI_hasRuns_25
set_option maxHeartbeats 4000000 in
set_option maxRecDepth 100000 in
theorem c_CI_squaredDistance (la : Launch) (G : gG) (o rw rt fr L : Nat) (x y k : Nat) (hL : L ≤ 15) (hx' : x < 2 ^ L) (hy' : y < 2 ^ L) (hk' : k < 2 ^ L * 2 ^ L) : MetL la y_CI_squaredDistance b_CI_squaredDistance 8 1 21 [.ref o, .int (nI x), .int (nI y), .int (nI k)] G [(o, .inr (0, [.ref rw, .ref rt, .int (nI L), .ref fr]))] (fun r => r = lN (dq L x y k)) := by
  refine MetL.mk (by decide +kernel) (Nat.le_of_ble_eq_true rfl) ?_
  intro p e s m below meth c Q ls S hP hk hs hret hl
  have hx := S.1
  have hb := S.2.1
  have hp := p2_15 hL
  have hp4 := p4_15 hL
  obtain ⟨hc1, hc2⟩ := cl_of hk'
  have hl : lv_has ls 8 [(0, .ref o), (1, .int (nI x)), (2, .int (nI y)), (3, .int (nI k))] := hl
  refine lv_iload_n hx hb d_CI_squaredDistance_0 rfl (lv_at hl 1 rfl) ?_
  refine lv_aload_n hx hb d_CI_squaredDistance_1 rfl (lv_at hl 0 rfl) ?_
  refine lv_iload_n hx hb d_CI_squaredDistance_2 rfl (lv_at hl 3 rfl) ?_
  refine vp_callSi (va_Run.run (run_V S v_CI_108 (c_CI_xOf la G o rw rt fr L k hL (by omega)) ⟨rfl, rfl⟩ ⟨Nat.le_of_ble_eq_true rfl, Nat.le_of_ble_eq_true rfl⟩ (preR_V hP hk hs [0] rfl 0 rfl rfl) (rest := [.int (nI x)]) rfl hl.1 rfl (Nat.le_of_ble_eq_true rfl) d_CI_squaredDistance_3 ⟨Nat.le_refl _, Nat.le_refl _⟩)) (fun r1 hr1 => ?_)
  subst hr1
  refine lv_isub hx hb d_CI_squaredDistance_6 ?_
  refine lv_i2l hx hb d_CI_squaredDistance_7 rfl ?_
  refine lv_lstore hx hb d_CI_squaredDistance_8 hl (by decide) rfl (fun ls hl => ?_)
  have hl : lv_has ls 8 [(4, .long (((nI x) - (nI (k / 2 ^ L))).toInt64)), (0, .ref o), (1, .int (nI x)), (2, .int (nI y)), (3, .int (nI k))] := hl
  refine lv_iload_n hx hb d_CI_squaredDistance_10 rfl (lv_at hl 3 rfl) ?_
  refine lv_aload_n hx hb d_CI_squaredDistance_11 rfl (lv_at hl 1 rfl) ?_
  refine lv_iload_n hx hb d_CI_squaredDistance_12 rfl (lv_at hl 4 rfl) ?_
  refine vp_callSi (va_Run.run (run_V S v_CI_111 (c_CI_yOf la G o rw rt fr L k hL (by omega)) ⟨rfl, rfl⟩ ⟨Nat.le_of_ble_eq_true rfl, Nat.le_of_ble_eq_true rfl⟩ (preR_V hP hk hs [0] rfl 0 rfl rfl) (rest := [.int (nI y)]) rfl hl.1 rfl (Nat.le_of_ble_eq_true rfl) d_CI_squaredDistance_13 ⟨Nat.le_refl _, Nat.le_refl _⟩)) (fun r2 hr2 => ?_)
  subst hr2
  refine lv_isub hx hb d_CI_squaredDistance_16 ?_
  refine lv_i2l hx hb d_CI_squaredDistance_17 rfl ?_
  refine lv_lstore hx hb d_CI_squaredDistance_18 hl (by decide) rfl (fun ls hl => ?_)
  have hl : lv_has ls 8 [(6, .long (((nI y) - (nI (k % 2 ^ L))).toInt64)), (4, .long (((nI x) - (nI (k / 2 ^ L))).toInt64)), (0, .ref o), (1, .int (nI x)), (2, .int (nI y)), (3, .int (nI k))] := hl
  refine lv_lload hx hb d_CI_squaredDistance_20 (lv_at hl 1 rfl) ?_
  refine lv_lload hx hb d_CI_squaredDistance_22 (lv_at hl 1 rfl) ?_
  refine lv_lmul hx hb d_CI_squaredDistance_24 ?_
  refine lv_lload hx hb d_CI_squaredDistance_25 (lv_at hl 0 rfl) ?_
  refine lv_lload hx hb d_CI_squaredDistance_27 (lv_at hl 0 rfl) ?_
  refine lv_lmul hx hb d_CI_squaredDistance_29 ?_
  refine lv_ladd hx hb d_CI_squaredDistance_30 ?_
  exact hret _ _ _ (by rw [sqd_l (by omega) (by omega), sqd_l (by omega) (by omega), lN_add]; rfl) d_CI_squaredDistance_31
end
section
/-! the class's rows (laid by gen/m3.py) -/
set_option maxHeartbeats 4000000 in
set_option maxRecDepth 100000 in
theorem c_Row_clear (la : Launch) (G : gG) (ro ak ac av n : Nat)  : MetV la y_Row_clear b_Row_clear 1 0 0 0 0 [.ref ro] G [(ro, .inr (1, [.ref ak, .ref ac, .ref av, .int (nI n)]))] (S := Unit) (fun _ => True) (fun _ => [(ro, .inr (1, [.ref ak, .ref ac, .ref av, .int (nI 0)]))]) := by
  refine MetV.mk (by decide +kernel) (Nat.le_of_ble_eq_true rfl) ?_
  intro p e s m below meth c Q A ls S hin hP hD hA hS hk hs hret hl
  have hx := S.1
  have hb := S.2.1
  have hP : va_P G.1 cls [(ro, .inr (1, [.ref ak, .ref ac, .ref av, .int (nI n)]))] s.heap := hP
  have hD : va_D A [(ro, .inr (1, [.ref ak, .ref ac, .ref av, .int (nI n)]))] := hD
  have hl : lv_has ls 1 [(0, .ref ro)] := hl
  refine lv_aload_n hx hb d_Row_clear_0 rfl (lv_at hl 0 rfl) ?_
  refine lv_iconst (v := nI 0) hx hb d_Row_clear_1 (by decide) ?_
  refine y_put S hk hP hD hS 0 rfl f_Row_21 T_1 M_1_3 rfl rfl (Nat.le_of_ble_eq_true rfl) d_Row_clear_2 (fun H locs hP hD hS => ?_)
  have hP : va_P G.1 cls [(ro, .inr (1, [.ref ak, .ref ac, .ref av, .int (nI 0)]))] H := hP
  have hD : va_D A [(ro, .inr (1, [.ref ak, .ref ac, .ref av, .int (nI 0)]))] := hD
  exact hret _ _ () _ _ (trivial) hP hD hS d_Row_clear_5
set_option maxHeartbeats 4000000 in
set_option maxRecDepth 100000 in
theorem c_Row_isFull (la : Launch) (G : gG) (ro ak ac av n : Nat) (hn : n ≤ 500) : MetR la y_Row_isFull b_Row_isFull 1 .boolean 0 0 [.ref ro] G [(ro, .inr (1, [.ref ak, .ref ac, .ref av, .int (nI n)]))] (fun r => (r = 1 ∧ 500 ≤ n) ∨ (r = 0 ∧ n < 500)) := by
  refine MetR.mk (by decide +kernel) (Nat.le_of_ble_eq_true rfl) ?_
  intro p e s m below meth c Q ls S hP hk hs hret hl
  have hx := S.1
  have hb := S.2.1
  have hl : lv_has ls 1 [(0, .ref ro)] := hl
  refine lv_aload_n hx hb d_Row_isFull_0 rfl (lv_at hl 0 rfl) ?_
  refine y_get S hk hP 0 rfl f_Row_21 rfl d_Row_isFull_1 ?_
  refine lv_sipush (v := nI 500) hx hb d_Row_isFull_4 (by decide) ?_
  refine x_icmp_lt hx hb d_Row_isFull_7 (tgt := 14) (by decide) (by omega) (by omega) (fun h7 => ?_) (fun h7 => ?_)
  · refine lv_iconst (v := nI 0) hx hb d_Row_isFull_14 (by decide) ?_
    exact hret _ _ _ (by decide) (Or.inr ⟨by decide, by omega⟩) d_Row_isFull_15
  · refine lv_iconst (v := nI 1) hx hb d_Row_isFull_10 (by decide) ?_
    refine lv_goto hx hb d_Row_isFull_11 (tgt := 15) (by decide) ?_
    exact hret _ _ _ (by decide) (Or.inl ⟨by decide, by omega⟩) d_Row_isFull_15
set_option maxHeartbeats 4000000 in
set_option maxRecDepth 100000 in
theorem c_Row_placeOf (la : Launch) (G : gG) (ro ak ac av n : Nat) (K : Nat → Nat) (key : Nat) (hn : n ≤ 500) (hK : bd K) (hkey : key < 2147483648) : MetR la y_Row_placeOf b_Row_placeOf 3 .int 0 0 [.ref ro, .int (nI key)] G [(ro, .inr (1, [.ref ak, .ref ac, .ref av, .int (nI n)])), (ak, .inl (G.2.1, 500, .inl (fun zz => nI (K zz))))] (fun r => ∃ p, atp n K key p ∧ r = nI p) := by
  refine MetR.mk (by decide +kernel) (Nat.le_of_ble_eq_true rfl) ?_
  intro p e s m below meth c Q ls S hP hk hs hret hl
  have hx := S.1
  have hb := S.2.1
  have hl : lv_has ls 3 [(0, .ref ro), (1, .int (nI key))] := hl
  refine lv_iconst (v := nI 0) hx hb d_Row_placeOf_0 (by decide) ?_
  refine lv_istore_n hx hb d_Row_placeOf_1 rfl hl (by decide) rfl (fun ls hl => ?_)
  have hl : lv_has ls 3 [(2, .int (nI 0)), (0, .ref ro), (1, .int (nI key))] := hl
  refine (?_ : ∀ (d : Nat) (q : Nat) (ls : Array Slot), n - q < d → lv_has ls 3 [(2, .int (nI q)), (0, .ref ro), (1, .int (nI key))] → (q ≤ n) → (∀ i, i < q → K i < key) → W p la e _ s m _ below meth c s.heap [] 0 0 Q (F0 m 2 ls [])) (n - 0 + 1) 0 ls (Nat.lt_succ_self _) hl (Nat.zero_le _) (fun i h => absurd h (Nat.not_lt_zero _))
  intro d
  induction d with
  | zero => intro q ls hd; exact absurd hd (Nat.not_lt_zero _)
  | succ d ih =>
    intro q ls hd hl hq hlt
    refine lv_iload_n hx hb d_Row_placeOf_2 rfl (lv_at hl 0 rfl) ?_
    refine lv_aload_n hx hb d_Row_placeOf_3 rfl (lv_at hl 1 rfl) ?_
    refine y_get S hk hP 0 rfl f_Row_21 rfl d_Row_placeOf_4 ?_
    refine x_icmp_ge hx hb d_Row_placeOf_7 (tgt := 26) (by decide) (by omega) (by omega) (fun h7 => ?_) (fun h7 => ?_)
    · refine lv_iload_n hx hb d_Row_placeOf_26 rfl (lv_at hl 0 rfl) ?_
      exact hret _ _ _ rfl (⟨q, ⟨hq, hlt, fun h => by first | exact absurd h (by omega) | exact h17⟩, rfl⟩) d_Row_placeOf_27
    · refine lv_aload_n hx hb d_Row_placeOf_10 rfl (lv_at hl 1 rfl) ?_
      refine y_get S hk hP 0 rfl f_Row_9 rfl d_Row_placeOf_11 ?_
      refine lv_iload_n hx hb d_Row_placeOf_14 rfl (lv_at hl 0 rfl) ?_
      refine y_ald hx hb hk hP 1 rfl (by omega) (by decide) d_Row_placeOf_15 ?_
      refine lv_iload_n hx hb d_Row_placeOf_16 rfl (lv_at hl 2 rfl) ?_
      refine x_icmp_ge hx hb d_Row_placeOf_17 (tgt := 26) (by decide) (hK _) (hkey) (fun h17 => ?_) (fun h17 => ?_)
      · refine lv_iload_n hx hb d_Row_placeOf_26 rfl (lv_at hl 0 rfl) ?_
        exact hret _ _ _ rfl (⟨q, ⟨hq, hlt, fun h => by first | exact absurd h (by omega) | exact h17⟩, rfl⟩) d_Row_placeOf_27
      · refine lv_iinc (v := nI (q + 1)) hx hb d_Row_placeOf_20 hl (k := 0) rfl (ii_p _ 1) (by decide) rfl (fun ls hl => ?_)
        have hl : lv_has ls 3 [(2, .int (nI (q + 1))), (0, .ref ro), (1, .int (nI key))] := hl
        refine lv_goto hx hb d_Row_placeOf_23 (tgt := 2) (by decide) ?_
        have hl := lv_sub hl [0, 1, 2] rfl
        exact ih (q + 1) _ (by omega) hl (by omega) (fun i h => by rcases Nat.lt_or_ge i q with g | g; exact hlt i g; obtain rfl : i = q := (by omega); exact h17)
set_option maxHeartbeats 4000000 in
set_option maxRecDepth 100000 in
theorem c_Row_isKeyAt (la : Launch) (G : gG) (ro ak ac av n : Nat) (K : Nat → Nat) (q key : Nat) (hn : n ≤ 500) (hK : bd K) (hq : q ≤ n) (hkey : key < 2147483648) : MetR la y_Row_isKeyAt b_Row_isKeyAt 3 .boolean 0 0 [.ref ro, .int (nI q), .int (nI key)] G [(ro, .inr (1, [.ref ak, .ref ac, .ref av, .int (nI n)])), (ak, .inl (G.2.1, 500, .inl (fun zz => nI (K zz))))] (fun r => (r = 1 ∧ q < n ∧ K q = key) ∨ (r = 0 ∧ ¬ (q < n ∧ K q = key))) := by
  refine MetR.mk (by decide +kernel) (Nat.le_of_ble_eq_true rfl) ?_
  intro p e s m below meth c Q ls S hP hk hs hret hl
  have hx := S.1
  have hb := S.2.1
  have hl : lv_has ls 3 [(0, .ref ro), (1, .int (nI q)), (2, .int (nI key))] := hl
  refine lv_iload_n hx hb d_Row_isKeyAt_0 rfl (lv_at hl 1 rfl) ?_
  refine lv_aload_n hx hb d_Row_isKeyAt_1 rfl (lv_at hl 0 rfl) ?_
  refine y_get S hk hP 0 rfl f_Row_21 rfl d_Row_isKeyAt_2 ?_
  refine x_icmp_ge hx hb d_Row_isKeyAt_5 (tgt := 22) (by decide) (by omega) (by omega) (fun h5 => ?_) (fun h5 => ?_)
  · refine lv_iconst (v := nI 0) hx hb d_Row_isKeyAt_22 (by decide) ?_
    exact hret _ _ _ (by decide) (Or.inr ⟨by decide, by first | exact fun z => h15 z.2 | exact fun z => absurd z.1 (by omega)⟩) d_Row_isKeyAt_23
  · refine lv_aload_n hx hb d_Row_isKeyAt_8 rfl (lv_at hl 0 rfl) ?_
    refine y_get S hk hP 0 rfl f_Row_9 rfl d_Row_isKeyAt_9 ?_
    refine lv_iload_n hx hb d_Row_isKeyAt_12 rfl (lv_at hl 1 rfl) ?_
    refine y_ald hx hb hk hP 1 rfl (by omega) (by decide) d_Row_isKeyAt_13 ?_
    refine lv_iload_n hx hb d_Row_isKeyAt_14 rfl (lv_at hl 2 rfl) ?_
    refine x_icmp_ne hx hb d_Row_isKeyAt_15 (tgt := 22) (by decide) (hK _) (hkey) (fun h15 => ?_) (fun h15 => ?_)
    · refine lv_iconst (v := nI 0) hx hb d_Row_isKeyAt_22 (by decide) ?_
      exact hret _ _ _ (by decide) (Or.inr ⟨by decide, by first | exact fun z => h15 z.2 | exact fun z => absurd z.1 (by omega)⟩) d_Row_isKeyAt_23
    · refine lv_iconst (v := nI 1) hx hb d_Row_isKeyAt_18 (by decide) ?_
      refine lv_goto hx hb d_Row_isKeyAt_19 (tgt := 23) (by decide) ?_
      exact hret _ _ _ (by decide) (Or.inl ⟨by decide, by omega, h15⟩) d_Row_isKeyAt_23
set_option maxHeartbeats 4000000 in
set_option maxRecDepth 100000 in
theorem c_Row_weightOf (la : Launch) (G : gG) (ro ak ac av n : Nat) (K V : Nat → Nat) (key : Nat) (hn : n ≤ 500) (hK : bd K) (hkey : key < 2147483648) : MetR la y_Row_weightOf b_Row_weightOf 3 .int 1 22 [.ref ro, .int (nI key)] G [(ro, .inr (1, [.ref ak, .ref ac, .ref av, .int (nI n)])), (ak, .inl (G.2.1, 500, .inl (fun zz => nI (K zz)))), (av, .inl (G.2.1, 500, .inl (fun zz => nI (V zz))))] (fun r => ∃ p, atp n K key p ∧ ((p < n ∧ K p = key ∧ r = nI (V p)) ∨ (¬ (p < n ∧ K p = key) ∧ r = nI 0))) := by
  refine MetR.mk (by decide +kernel) (Nat.le_of_ble_eq_true rfl) ?_
  intro p e s m below meth c Q ls S hP hk hs hret hl
  have hx := S.1
  have hb := S.2.1
  have hl : lv_has ls 3 [(0, .ref ro), (1, .int (nI key))] := hl
  refine lv_aload_n hx hb d_Row_weightOf_0 rfl (lv_at hl 0 rfl) ?_
  refine lv_iload_n hx hb d_Row_weightOf_1 rfl (lv_at hl 1 rfl) ?_
  refine vp_callSi (va_Run.run (run_V S v_Row_25 (c_Row_placeOf la G ro ak ac av n K key hn hK hkey) ⟨rfl, rfl⟩ ⟨Nat.le_of_ble_eq_true rfl, Nat.le_of_ble_eq_true rfl⟩ (preR_V hP hk hs [0, 1] rfl 0 rfl rfl) (rest := []) rfl hl.1 rfl (Nat.le_of_ble_eq_true rfl) d_Row_weightOf_2 ⟨Nat.le_refl _, Nat.le_refl _⟩)) (fun r1 hr1 => ?_)
  obtain ⟨q, hat, rfl⟩ := hr1
  have hq := hat.1
  refine lv_istore_n hx hb d_Row_weightOf_5 rfl hl (by decide) rfl (fun ls hl => ?_)
  have hl : lv_has ls 3 [(2, .int (nI q)), (0, .ref ro), (1, .int (nI key))] := hl
  refine lv_aload_n hx hb d_Row_weightOf_6 rfl (lv_at hl 1 rfl) ?_
  refine lv_iload_n hx hb d_Row_weightOf_7 rfl (lv_at hl 0 rfl) ?_
  refine lv_iload_n hx hb d_Row_weightOf_8 rfl (lv_at hl 2 rfl) ?_
  refine vp_callSi (va_Run.run (run_V S v_Row_29 (c_Row_isKeyAt la G ro ak ac av n K q key hn hK hq hkey) ⟨rfl, rfl⟩ ⟨Nat.le_of_ble_eq_true rfl, Nat.le_of_ble_eq_true rfl⟩ (preR_V hP hk hs [0, 1] rfl 0 rfl rfl) (rest := []) rfl hl.1 rfl (Nat.le_of_ble_eq_true rfl) d_Row_weightOf_9 ⟨Nat.le_refl _, Nat.le_refl _⟩)) (fun r2 hr2 => ?_)
  rcases hr2 with ⟨rfl, q1, q2⟩ | ⟨rfl, q1⟩
  · refine lv_if_eq hx hb d_Row_weightOf_12 (tgt := 24) (by decide) (fun h => absurd h (by decide)) (fun _ => ?_)
    refine lv_aload_n hx hb d_Row_weightOf_15 rfl (lv_at hl 1 rfl) ?_
    refine y_get S hk hP 0 rfl f_Row_18 rfl d_Row_weightOf_16 ?_
    refine lv_iload_n hx hb d_Row_weightOf_19 rfl (lv_at hl 0 rfl) ?_
    refine y_ald hx hb hk hP 2 rfl (by omega) (by decide) d_Row_weightOf_20 ?_
    refine lv_goto hx hb d_Row_weightOf_21 (tgt := 25) (by decide) ?_
    exact hret _ _ _ rfl (⟨q, hat, Or.inl ⟨q1, q2, rfl⟩⟩) d_Row_weightOf_25
  · refine lv_if_eq hx hb d_Row_weightOf_12 (tgt := 24) (by decide) (fun _ => ?_) (fun h => absurd (by decide) h)
    refine lv_iconst (v := nI 0) hx hb d_Row_weightOf_24 (by decide) ?_
    exact hret _ _ _ rfl (⟨q, hat, Or.inr ⟨q1, rfl⟩⟩) d_Row_weightOf_25
set_option maxHeartbeats 4000000 in
set_option maxRecDepth 100000 in
theorem c_Row_moveTail (la : Launch) (G : gG) (ro ak ac av n : Nat) (K C V : Nat → Nat) (i j : Nat) (hn : n ≤ 500) (hi : i ≤ n) (hj : j + (n - i) ≤ 500) : MetV la y_Row_moveTail b_Row_moveTail 4 1 60 0 0 [.ref ro, .int (nI i), .int (nI j)] G [(ro, .inr (1, [.ref ak, .ref ac, .ref av, .int (nI n)])), (ak, .inl (G.2.1, 500, .inl (fun zz => nI (K zz)))), (ac, .inl (G.2.1, 500, .inl (fun zz => nI (C zz)))), (av, .inl (G.2.1, 500, .inl (fun zz => nI (V zz))))] (S := Unit) (fun _ => True) (fun _ => [(ro, .inr (1, [.ref ak, .ref ac, .ref av, .int (nI n)])), (ak, .inl (G.2.1, 500, .inl (fun zz => nI ((va_cpy K K i j (n - i)) zz)))), (ac, .inl (G.2.1, 500, .inl (fun zz => nI ((va_cpy C C i j (n - i)) zz)))), (av, .inl (G.2.1, 500, .inl (fun zz => nI ((va_cpy V V i j (n - i)) zz))))]) := by
  refine MetV.mk (by decide +kernel) (Nat.le_of_ble_eq_true rfl) ?_
  intro p e s m below meth c Q A ls S hin hP hD hA hS hk hs hret hl
  have hx := S.1
  have hb := S.2.1
  have hP : va_P G.1 cls [(ro, .inr (1, [.ref ak, .ref ac, .ref av, .int (nI n)])), (ak, .inl (G.2.1, 500, .inl (fun zz => nI (K zz)))), (ac, .inl (G.2.1, 500, .inl (fun zz => nI (C zz)))), (av, .inl (G.2.1, 500, .inl (fun zz => nI (V zz))))] s.heap := hP
  have hD : va_D A [(ro, .inr (1, [.ref ak, .ref ac, .ref av, .int (nI n)])), (ak, .inl (G.2.1, 500, .inl (fun zz => nI (K zz)))), (ac, .inl (G.2.1, 500, .inl (fun zz => nI (C zz)))), (av, .inl (G.2.1, 500, .inl (fun zz => nI (V zz))))] := hD
  have hl : lv_has ls 4 [(0, .ref ro), (1, .int (nI i)), (2, .int (nI j))] := hl
  refine lv_aload_n hx hb d_Row_moveTail_0 rfl (lv_at hl 0 rfl) ?_
  refine y_get S hk hP 0 rfl f_Row_21 rfl d_Row_moveTail_1 ?_
  refine lv_iload_n hx hb d_Row_moveTail_4 rfl (lv_at hl 1 rfl) ?_
  refine x_isub hx hb d_Row_moveTail_5 (by omega) ?_
  refine lv_istore_n hx hb d_Row_moveTail_6 rfl hl (by decide) rfl (fun ls hl => ?_)
  have hl : lv_has ls 4 [(3, .int (nI (n - i))), (0, .ref ro), (1, .int (nI i)), (2, .int (nI j))] := hl
  refine lv_aload_n hx hb d_Row_moveTail_7 rfl (lv_at hl 1 rfl) ?_
  refine y_get S hk hP 0 rfl f_Row_9 rfl d_Row_moveTail_8 ?_
  refine lv_iload_n hx hb d_Row_moveTail_11 rfl (lv_at hl 2 rfl) ?_
  refine lv_aload_n hx hb d_Row_moveTail_12 rfl (lv_at hl 1 rfl) ?_
  refine y_get S hk hP 0 rfl f_Row_9 rfl d_Row_moveTail_13 ?_
  refine lv_iload_n hx hb d_Row_moveTail_16 rfl (lv_at hl 3 rfl) ?_
  refine lv_iload_n hx hb d_Row_moveTail_17 rfl (lv_at hl 0 rfl) ?_
  refine y_cpy S hl.1 hk hP hD hS 1 rfl (wq 140 (by decide +kernel)) (wq 142 (by decide +kernel)) (wq 141 (by decide +kernel)) (wq 37 (by decide +kernel)) (by omega) (by omega) (by decide) (Nat.le_of_ble_eq_true rfl) (Nat.le_of_ble_eq_true rfl) d_Row_moveTail_18 (fun H locs hP hD hS => ?_)
  have hP : va_P G.1 cls [(ro, .inr (1, [.ref ak, .ref ac, .ref av, .int (nI n)])), (ak, .inl (G.2.1, 500, .inl (fun zz => nI ((va_cpy K K i j (n - i)) zz)))), (ac, .inl (G.2.1, 500, .inl (fun zz => nI (C zz)))), (av, .inl (G.2.1, 500, .inl (fun zz => nI (V zz))))] H := hP
  have hD : va_D A [(ro, .inr (1, [.ref ak, .ref ac, .ref av, .int (nI n)])), (ak, .inl (G.2.1, 500, .inl (fun zz => nI ((va_cpy K K i j (n - i)) zz)))), (ac, .inl (G.2.1, 500, .inl (fun zz => nI (C zz)))), (av, .inl (G.2.1, 500, .inl (fun zz => nI (V zz))))] := hD
  refine lv_aload_n hx hb d_Row_moveTail_21 rfl (lv_at hl 1 rfl) ?_
  refine y_get S hk hP 0 rfl f_Row_15 rfl d_Row_moveTail_22 ?_
  refine lv_iload_n hx hb d_Row_moveTail_25 rfl (lv_at hl 2 rfl) ?_
  refine lv_aload_n hx hb d_Row_moveTail_26 rfl (lv_at hl 1 rfl) ?_
  refine y_get S hk hP 0 rfl f_Row_15 rfl d_Row_moveTail_27 ?_
  refine lv_iload_n hx hb d_Row_moveTail_30 rfl (lv_at hl 3 rfl) ?_
  refine lv_iload_n hx hb d_Row_moveTail_31 rfl (lv_at hl 0 rfl) ?_
  refine y_cpy S hl.1 hk hP hD hS 2 rfl (wq 140 (by decide +kernel)) (wq 142 (by decide +kernel)) (wq 141 (by decide +kernel)) (wq 37 (by decide +kernel)) (by omega) (by omega) (by decide) (Nat.le_of_ble_eq_true rfl) (Nat.le_of_ble_eq_true rfl) d_Row_moveTail_32 (fun H locs hP hD hS => ?_)
  have hP : va_P G.1 cls [(ro, .inr (1, [.ref ak, .ref ac, .ref av, .int (nI n)])), (ak, .inl (G.2.1, 500, .inl (fun zz => nI ((va_cpy K K i j (n - i)) zz)))), (ac, .inl (G.2.1, 500, .inl (fun zz => nI ((va_cpy C C i j (n - i)) zz)))), (av, .inl (G.2.1, 500, .inl (fun zz => nI (V zz))))] H := hP
  have hD : va_D A [(ro, .inr (1, [.ref ak, .ref ac, .ref av, .int (nI n)])), (ak, .inl (G.2.1, 500, .inl (fun zz => nI ((va_cpy K K i j (n - i)) zz)))), (ac, .inl (G.2.1, 500, .inl (fun zz => nI ((va_cpy C C i j (n - i)) zz)))), (av, .inl (G.2.1, 500, .inl (fun zz => nI (V zz))))] := hD
  refine lv_aload_n hx hb d_Row_moveTail_35 rfl (lv_at hl 1 rfl) ?_
  refine y_get S hk hP 0 rfl f_Row_18 rfl d_Row_moveTail_36 ?_
  refine lv_iload_n hx hb d_Row_moveTail_39 rfl (lv_at hl 2 rfl) ?_
  refine lv_aload_n hx hb d_Row_moveTail_40 rfl (lv_at hl 1 rfl) ?_
  refine y_get S hk hP 0 rfl f_Row_18 rfl d_Row_moveTail_41 ?_
  refine lv_iload_n hx hb d_Row_moveTail_44 rfl (lv_at hl 3 rfl) ?_
  refine lv_iload_n hx hb d_Row_moveTail_45 rfl (lv_at hl 0 rfl) ?_
  refine y_cpy S hl.1 hk hP hD hS 3 rfl (wq 140 (by decide +kernel)) (wq 142 (by decide +kernel)) (wq 141 (by decide +kernel)) (wq 37 (by decide +kernel)) (by omega) (by omega) (by decide) (Nat.le_of_ble_eq_true rfl) (Nat.le_of_ble_eq_true rfl) d_Row_moveTail_46 (fun H locs hP hD hS => ?_)
  have hP : va_P G.1 cls [(ro, .inr (1, [.ref ak, .ref ac, .ref av, .int (nI n)])), (ak, .inl (G.2.1, 500, .inl (fun zz => nI ((va_cpy K K i j (n - i)) zz)))), (ac, .inl (G.2.1, 500, .inl (fun zz => nI ((va_cpy C C i j (n - i)) zz)))), (av, .inl (G.2.1, 500, .inl (fun zz => nI ((va_cpy V V i j (n - i)) zz))))] H := hP
  have hD : va_D A [(ro, .inr (1, [.ref ak, .ref ac, .ref av, .int (nI n)])), (ak, .inl (G.2.1, 500, .inl (fun zz => nI ((va_cpy K K i j (n - i)) zz)))), (ac, .inl (G.2.1, 500, .inl (fun zz => nI ((va_cpy C C i j (n - i)) zz)))), (av, .inl (G.2.1, 500, .inl (fun zz => nI ((va_cpy V V i j (n - i)) zz))))] := hD
  exact hret _ _ () _ _ (trivial) hP hD hS d_Row_moveTail_49
set_option maxHeartbeats 4000000 in
set_option maxRecDepth 100000 in
theorem c_Row_keep (la : Launch) (G : gG) (ro ak ac av n : Nat) (K C V : Nat → Nat) (key cn w : Nat) (hn : n ≤ 500) (hK : bd K) (hkey : key < 2147483648) : MetV la y_Row_keep b_Row_keep 5 2 83 0 0 [.ref ro, .int (nI key), .int (nI cn), .int (nI w)] G [(ro, .inr (1, [.ref ak, .ref ac, .ref av, .int (nI n)])), (ak, .inl (G.2.1, 500, .inl (fun zz => nI (K zz)))), (ac, .inl (G.2.1, 500, .inl (fun zz => nI (C zz)))), (av, .inl (G.2.1, 500, .inl (fun zz => nI (V zz))))] (S := rS) (fun u => keepR n K C V key cn w u) (fun u => [(ro, .inr (1, [.ref ak, .ref ac, .ref av, .int (nI u.1)])), (ak, .inl (G.2.1, 500, .inl (fun zz => nI (u.2.1 zz)))), (ac, .inl (G.2.1, 500, .inl (fun zz => nI (u.2.2.1 zz)))), (av, .inl (G.2.1, 500, .inl (fun zz => nI (u.2.2.2 zz))))]) := by
  refine MetV.mk (by decide +kernel) (Nat.le_of_ble_eq_true rfl) ?_
  intro p e s m below meth c Q A ls S hin hP hD hA hS hk hs hret hl
  have hx := S.1
  have hb := S.2.1
  have hP : va_P G.1 cls [(ro, .inr (1, [.ref ak, .ref ac, .ref av, .int (nI n)])), (ak, .inl (G.2.1, 500, .inl (fun zz => nI (K zz)))), (ac, .inl (G.2.1, 500, .inl (fun zz => nI (C zz)))), (av, .inl (G.2.1, 500, .inl (fun zz => nI (V zz))))] s.heap := hP
  have hD : va_D A [(ro, .inr (1, [.ref ak, .ref ac, .ref av, .int (nI n)])), (ak, .inl (G.2.1, 500, .inl (fun zz => nI (K zz)))), (ac, .inl (G.2.1, 500, .inl (fun zz => nI (C zz)))), (av, .inl (G.2.1, 500, .inl (fun zz => nI (V zz))))] := hD
  have hl : lv_has ls 5 [(0, .ref ro), (1, .int (nI key)), (2, .int (nI cn)), (3, .int (nI w))] := hl
  refine lv_aload_n hx hb d_Row_keep_0 rfl (lv_at hl 0 rfl) ?_
  refine lv_iload_n hx hb d_Row_keep_1 rfl (lv_at hl 1 rfl) ?_
  refine vp_callSi (va_Run.run (run_V S v_Row_25 (c_Row_placeOf la G ro ak ac av n K key hn hK hkey) ⟨rfl, rfl⟩ ⟨Nat.le_of_ble_eq_true rfl, Nat.le_of_ble_eq_true rfl⟩ (preR_V hP hk (hs.kept (fun a h1 h2 => hS.2.1 a h1 h2)) [0, 1] rfl 0 rfl rfl) (rest := []) rfl hl.1 rfl (Nat.le_of_ble_eq_true rfl) d_Row_keep_2 ⟨Nat.le_of_ble_eq_true rfl, Nat.le_of_ble_eq_true rfl⟩)) (fun r1 hr1 => ?_)
  obtain ⟨q, hat, rfl⟩ := hr1
  have hq := hat.1
  refine lv_istore hx hb d_Row_keep_5 hl (by decide) rfl (fun ls hl => ?_)
  have hl : lv_has ls 5 [(4, .int (nI q)), (0, .ref ro), (1, .int (nI key)), (2, .int (nI cn)), (3, .int (nI w))] := hl
  refine lv_aload_n hx hb d_Row_keep_7 rfl (lv_at hl 1 rfl) ?_
  refine lv_iload hx hb d_Row_keep_8 (lv_at hl 0 rfl) ?_
  refine lv_iload_n hx hb d_Row_keep_10 rfl (lv_at hl 2 rfl) ?_
  refine vp_callSi (va_Run.run (run_V S v_Row_29 (c_Row_isKeyAt la G ro ak ac av n K q key hn hK hq hkey) ⟨rfl, rfl⟩ ⟨Nat.le_of_ble_eq_true rfl, Nat.le_of_ble_eq_true rfl⟩ (preR_V hP hk (hs.kept (fun a h1 h2 => hS.2.1 a h1 h2)) [0, 1] rfl 0 rfl rfl) (rest := []) rfl hl.1 rfl (Nat.le_of_ble_eq_true rfl) d_Row_keep_11 ⟨Nat.le_of_ble_eq_true rfl, Nat.le_of_ble_eq_true rfl⟩)) (fun r2 hr2 => ?_)
  rcases hr2 with ⟨rfl, q1, q2⟩ | ⟨rfl, q1⟩
  · refine lv_if_ne hx hb d_Row_keep_14 (tgt := 45) (by decide) (fun _ => ?_) (fun h => absurd h (by decide))
    refine lv_aload_n hx hb d_Row_keep_45 rfl (lv_at hl 1 rfl) ?_
    refine y_get S hk hP 0 rfl f_Row_9 rfl d_Row_keep_46 ?_
    refine lv_iload hx hb d_Row_keep_49 (lv_at hl 0 rfl) ?_
    refine lv_iload_n hx hb d_Row_keep_51 rfl (lv_at hl 2 rfl) ?_
    refine y_ast hx hb hk hP hD hS 1 rfl (by omega) (by decide) d_Row_keep_52 (fun H locs hP hD hS => ?_)
    have hP : va_P G.1 cls [(ro, .inr (1, [.ref ak, .ref ac, .ref av, .int (nI n)])), (ak, .inl (G.2.1, 500, .inl (fun zz => nI ((va_up K q key) zz)))), (ac, .inl (G.2.1, 500, .inl (fun zz => nI (C zz)))), (av, .inl (G.2.1, 500, .inl (fun zz => nI (V zz))))] H := hP
    have hD : va_D A [(ro, .inr (1, [.ref ak, .ref ac, .ref av, .int (nI n)])), (ak, .inl (G.2.1, 500, .inl (fun zz => nI ((va_up K q key) zz)))), (ac, .inl (G.2.1, 500, .inl (fun zz => nI (C zz)))), (av, .inl (G.2.1, 500, .inl (fun zz => nI (V zz))))] := hD
    refine lv_aload_n hx hb d_Row_keep_53 rfl (lv_at hl 1 rfl) ?_
    refine y_get S hk hP 0 rfl f_Row_15 rfl d_Row_keep_54 ?_
    refine lv_iload hx hb d_Row_keep_57 (lv_at hl 0 rfl) ?_
    refine lv_iload_n hx hb d_Row_keep_59 rfl (lv_at hl 3 rfl) ?_
    refine y_ast hx hb hk hP hD hS 2 rfl (by omega) (by decide) d_Row_keep_60 (fun H locs hP hD hS => ?_)
    have hP : va_P G.1 cls [(ro, .inr (1, [.ref ak, .ref ac, .ref av, .int (nI n)])), (ak, .inl (G.2.1, 500, .inl (fun zz => nI ((va_up K q key) zz)))), (ac, .inl (G.2.1, 500, .inl (fun zz => nI ((va_up C q cn) zz)))), (av, .inl (G.2.1, 500, .inl (fun zz => nI (V zz))))] H := hP
    have hD : va_D A [(ro, .inr (1, [.ref ak, .ref ac, .ref av, .int (nI n)])), (ak, .inl (G.2.1, 500, .inl (fun zz => nI ((va_up K q key) zz)))), (ac, .inl (G.2.1, 500, .inl (fun zz => nI ((va_up C q cn) zz)))), (av, .inl (G.2.1, 500, .inl (fun zz => nI (V zz))))] := hD
    refine lv_aload_n hx hb d_Row_keep_61 rfl (lv_at hl 1 rfl) ?_
    refine y_get S hk hP 0 rfl f_Row_18 rfl d_Row_keep_62 ?_
    refine lv_iload hx hb d_Row_keep_65 (lv_at hl 0 rfl) ?_
    refine lv_iload_n hx hb d_Row_keep_67 rfl (lv_at hl 4 rfl) ?_
    refine y_ast hx hb hk hP hD hS 3 rfl (by omega) (by decide) d_Row_keep_68 (fun H locs hP hD hS => ?_)
    have hP : va_P G.1 cls [(ro, .inr (1, [.ref ak, .ref ac, .ref av, .int (nI n)])), (ak, .inl (G.2.1, 500, .inl (fun zz => nI ((va_up K q key) zz)))), (ac, .inl (G.2.1, 500, .inl (fun zz => nI ((va_up C q cn) zz)))), (av, .inl (G.2.1, 500, .inl (fun zz => nI ((va_up V q w) zz))))] H := hP
    have hD : va_D A [(ro, .inr (1, [.ref ak, .ref ac, .ref av, .int (nI n)])), (ak, .inl (G.2.1, 500, .inl (fun zz => nI ((va_up K q key) zz)))), (ac, .inl (G.2.1, 500, .inl (fun zz => nI ((va_up C q cn) zz)))), (av, .inl (G.2.1, 500, .inl (fun zz => nI ((va_up V q w) zz))))] := hD
    exact hret _ _ (n, (va_up K q key), (va_up C q cn), (va_up V q w)) _ _ (⟨q, hat, by first | exact Or.inl ⟨q1, q2, rfl⟩ | exact Or.inr (Or.inl ⟨q1, q3, rfl⟩) | exact Or.inr (Or.inr ⟨q1, q3, rfl⟩)⟩) hP hD hS d_Row_keep_69
  · refine lv_if_ne hx hb d_Row_keep_14 (tgt := 45) (by decide) (fun h => absurd rfl h) (fun _ => ?_)
    refine lv_aload_n hx hb d_Row_keep_17 rfl (lv_at hl 1 rfl) ?_
    refine vp_callSi (va_Run.run (run_V S v_Row_33 (c_Row_isFull la G ro ak ac av n hn) ⟨rfl, rfl⟩ ⟨Nat.le_of_ble_eq_true rfl, Nat.le_of_ble_eq_true rfl⟩ (preR_V hP hk (hs.kept (fun a h1 h2 => hS.2.1 a h1 h2)) [0] rfl 0 rfl rfl) (rest := []) rfl hl.1 rfl (Nat.le_of_ble_eq_true rfl) d_Row_keep_18 ⟨Nat.le_of_ble_eq_true rfl, Nat.le_of_ble_eq_true rfl⟩)) (fun r3 hr3 => ?_)
    rcases hr3 with ⟨rfl, q3⟩ | ⟨rfl, q3⟩
    · refine lv_if_eq hx hb d_Row_keep_21 (tgt := 25) (by decide) (fun h => absurd h (by decide)) (fun _ => ?_)
      exact hret _ _ (n, K, C, V) _ _ (⟨q, hat, by first | exact Or.inl ⟨q1, q2, rfl⟩ | exact Or.inr (Or.inl ⟨q1, q3, rfl⟩) | exact Or.inr (Or.inr ⟨q1, q3, rfl⟩)⟩) hP hD hS d_Row_keep_24
    · refine lv_if_eq hx hb d_Row_keep_21 (tgt := 25) (by decide) (fun _ => ?_) (fun h => absurd (by decide) h)
      refine lv_aload_n hx hb d_Row_keep_25 rfl (lv_at hl 1 rfl) ?_
      refine lv_iload hx hb d_Row_keep_26 (lv_at hl 0 rfl) ?_
      refine lv_iload hx hb d_Row_keep_28 (lv_at hl 0 rfl) ?_
      refine lv_iconst (v := nI 1) hx hb d_Row_keep_30 (by decide) ?_
      refine x_iadd hx hb d_Row_keep_31 ?_
      refine eff_V (wr := []) (run_V S v_Row_37 (c_Row_moveTail la G ro ak ac av n K C V q (q + 1) hn (by omega) (by omega) _) ⟨rfl, rfl⟩ ⟨Nat.le_of_ble_eq_true rfl, Nat.le_of_ble_eq_true rfl⟩ (preW_V hP hD hA hS hk hs [0, 1, 2, 3] (by decide) rfl 0 rfl rfl) (rest := []) rfl hl.1 rfl (Nat.le_of_ble_eq_true rfl) d_Row_keep_32 ⟨Nat.le_of_ble_eq_true rfl, Nat.le_of_ble_eq_true rfl⟩) hP hD hA hS [0, 1, 2, 3] [] rfl rfl (by decide) (by decide) (fun u H locs hu hP hD hS => ?_)
      have hP : va_P G.1 cls [(ro, .inr (1, [.ref ak, .ref ac, .ref av, .int (nI n)])), (ak, .inl (G.2.1, 500, .inl (fun zz => nI ((va_cpy K K q (q + 1) (n - q)) zz)))), (ac, .inl (G.2.1, 500, .inl (fun zz => nI ((va_cpy C C q (q + 1) (n - q)) zz)))), (av, .inl (G.2.1, 500, .inl (fun zz => nI ((va_cpy V V q (q + 1) (n - q)) zz))))] H := hP
      have hD : va_D A [(ro, .inr (1, [.ref ak, .ref ac, .ref av, .int (nI n)])), (ak, .inl (G.2.1, 500, .inl (fun zz => nI ((va_cpy K K q (q + 1) (n - q)) zz)))), (ac, .inl (G.2.1, 500, .inl (fun zz => nI ((va_cpy C C q (q + 1) (n - q)) zz)))), (av, .inl (G.2.1, 500, .inl (fun zz => nI ((va_cpy V V q (q + 1) (n - q)) zz))))] := hD
      refine lv_aload_n hx hb d_Row_keep_35 rfl (lv_at hl 1 rfl) ?_
      refine lv_dup hx hb d_Row_keep_36 rfl ?_
      refine y_get S hk hP 0 rfl f_Row_21 rfl d_Row_keep_37 ?_
      refine lv_iconst (v := nI 1) hx hb d_Row_keep_40 (by decide) ?_
      refine x_iadd hx hb d_Row_keep_41 ?_
      refine y_put S hk hP hD hS 0 rfl f_Row_21 T_1 M_1_3 rfl rfl (Nat.le_of_ble_eq_true rfl) d_Row_keep_42 (fun H locs hP hD hS => ?_)
      have hP : va_P G.1 cls [(ro, .inr (1, [.ref ak, .ref ac, .ref av, .int (nI (n + 1))])), (ak, .inl (G.2.1, 500, .inl (fun zz => nI ((va_cpy K K q (q + 1) (n - q)) zz)))), (ac, .inl (G.2.1, 500, .inl (fun zz => nI ((va_cpy C C q (q + 1) (n - q)) zz)))), (av, .inl (G.2.1, 500, .inl (fun zz => nI ((va_cpy V V q (q + 1) (n - q)) zz))))] H := hP
      have hD : va_D A [(ro, .inr (1, [.ref ak, .ref ac, .ref av, .int (nI (n + 1))])), (ak, .inl (G.2.1, 500, .inl (fun zz => nI ((va_cpy K K q (q + 1) (n - q)) zz)))), (ac, .inl (G.2.1, 500, .inl (fun zz => nI ((va_cpy C C q (q + 1) (n - q)) zz)))), (av, .inl (G.2.1, 500, .inl (fun zz => nI ((va_cpy V V q (q + 1) (n - q)) zz))))] := hD
      refine lv_aload_n hx hb d_Row_keep_45 rfl (lv_at hl 1 rfl) ?_
      refine y_get S hk hP 0 rfl f_Row_9 rfl d_Row_keep_46 ?_
      refine lv_iload hx hb d_Row_keep_49 (lv_at hl 0 rfl) ?_
      refine lv_iload_n hx hb d_Row_keep_51 rfl (lv_at hl 2 rfl) ?_
      refine y_ast hx hb hk hP hD hS 1 rfl (by omega) (by decide) d_Row_keep_52 (fun H locs hP hD hS => ?_)
      have hP : va_P G.1 cls [(ro, .inr (1, [.ref ak, .ref ac, .ref av, .int (nI (n + 1))])), (ak, .inl (G.2.1, 500, .inl (fun zz => nI ((va_up (va_cpy K K q (q + 1) (n - q)) q key) zz)))), (ac, .inl (G.2.1, 500, .inl (fun zz => nI ((va_cpy C C q (q + 1) (n - q)) zz)))), (av, .inl (G.2.1, 500, .inl (fun zz => nI ((va_cpy V V q (q + 1) (n - q)) zz))))] H := hP
      have hD : va_D A [(ro, .inr (1, [.ref ak, .ref ac, .ref av, .int (nI (n + 1))])), (ak, .inl (G.2.1, 500, .inl (fun zz => nI ((va_up (va_cpy K K q (q + 1) (n - q)) q key) zz)))), (ac, .inl (G.2.1, 500, .inl (fun zz => nI ((va_cpy C C q (q + 1) (n - q)) zz)))), (av, .inl (G.2.1, 500, .inl (fun zz => nI ((va_cpy V V q (q + 1) (n - q)) zz))))] := hD
      refine lv_aload_n hx hb d_Row_keep_53 rfl (lv_at hl 1 rfl) ?_
      refine y_get S hk hP 0 rfl f_Row_15 rfl d_Row_keep_54 ?_
      refine lv_iload hx hb d_Row_keep_57 (lv_at hl 0 rfl) ?_
      refine lv_iload_n hx hb d_Row_keep_59 rfl (lv_at hl 3 rfl) ?_
      refine y_ast hx hb hk hP hD hS 2 rfl (by omega) (by decide) d_Row_keep_60 (fun H locs hP hD hS => ?_)
      have hP : va_P G.1 cls [(ro, .inr (1, [.ref ak, .ref ac, .ref av, .int (nI (n + 1))])), (ak, .inl (G.2.1, 500, .inl (fun zz => nI ((va_up (va_cpy K K q (q + 1) (n - q)) q key) zz)))), (ac, .inl (G.2.1, 500, .inl (fun zz => nI ((va_up (va_cpy C C q (q + 1) (n - q)) q cn) zz)))), (av, .inl (G.2.1, 500, .inl (fun zz => nI ((va_cpy V V q (q + 1) (n - q)) zz))))] H := hP
      have hD : va_D A [(ro, .inr (1, [.ref ak, .ref ac, .ref av, .int (nI (n + 1))])), (ak, .inl (G.2.1, 500, .inl (fun zz => nI ((va_up (va_cpy K K q (q + 1) (n - q)) q key) zz)))), (ac, .inl (G.2.1, 500, .inl (fun zz => nI ((va_up (va_cpy C C q (q + 1) (n - q)) q cn) zz)))), (av, .inl (G.2.1, 500, .inl (fun zz => nI ((va_cpy V V q (q + 1) (n - q)) zz))))] := hD
      refine lv_aload_n hx hb d_Row_keep_61 rfl (lv_at hl 1 rfl) ?_
      refine y_get S hk hP 0 rfl f_Row_18 rfl d_Row_keep_62 ?_
      refine lv_iload hx hb d_Row_keep_65 (lv_at hl 0 rfl) ?_
      refine lv_iload_n hx hb d_Row_keep_67 rfl (lv_at hl 4 rfl) ?_
      refine y_ast hx hb hk hP hD hS 3 rfl (by omega) (by decide) d_Row_keep_68 (fun H locs hP hD hS => ?_)
      have hP : va_P G.1 cls [(ro, .inr (1, [.ref ak, .ref ac, .ref av, .int (nI (n + 1))])), (ak, .inl (G.2.1, 500, .inl (fun zz => nI ((va_up (va_cpy K K q (q + 1) (n - q)) q key) zz)))), (ac, .inl (G.2.1, 500, .inl (fun zz => nI ((va_up (va_cpy C C q (q + 1) (n - q)) q cn) zz)))), (av, .inl (G.2.1, 500, .inl (fun zz => nI ((va_up (va_cpy V V q (q + 1) (n - q)) q w) zz))))] H := hP
      have hD : va_D A [(ro, .inr (1, [.ref ak, .ref ac, .ref av, .int (nI (n + 1))])), (ak, .inl (G.2.1, 500, .inl (fun zz => nI ((va_up (va_cpy K K q (q + 1) (n - q)) q key) zz)))), (ac, .inl (G.2.1, 500, .inl (fun zz => nI ((va_up (va_cpy C C q (q + 1) (n - q)) q cn) zz)))), (av, .inl (G.2.1, 500, .inl (fun zz => nI ((va_up (va_cpy V V q (q + 1) (n - q)) q w) zz))))] := hD
      exact hret _ _ (n + 1, (va_up (va_cpy K K q (q + 1) (n - q)) q key), (va_up (va_cpy C C q (q + 1) (n - q)) q cn), (va_up (va_cpy V V q (q + 1) (n - q)) q w)) _ _ (⟨q, hat, by first | exact Or.inl ⟨q1, q2, rfl⟩ | exact Or.inr (Or.inl ⟨q1, q3, rfl⟩) | exact Or.inr (Or.inr ⟨q1, q3, rfl⟩)⟩) hP hD hS d_Row_keep_69
set_option maxHeartbeats 4000000 in
set_option maxRecDepth 100000 in
theorem c_Row_drop (la : Launch) (G : gG) (ro ak ac av n : Nat) (K C V : Nat → Nat) (key : Nat) (hn : n ≤ 500) (hK : bd K) (hkey : key < 2147483648) : MetV la y_Row_drop b_Row_drop 3 2 83 0 0 [.ref ro, .int (nI key)] G [(ro, .inr (1, [.ref ak, .ref ac, .ref av, .int (nI n)])), (ak, .inl (G.2.1, 500, .inl (fun zz => nI (K zz)))), (ac, .inl (G.2.1, 500, .inl (fun zz => nI (C zz)))), (av, .inl (G.2.1, 500, .inl (fun zz => nI (V zz))))] (S := rS) (fun u => dropR n K C V key u) (fun u => [(ro, .inr (1, [.ref ak, .ref ac, .ref av, .int (nI u.1)])), (ak, .inl (G.2.1, 500, .inl (fun zz => nI (u.2.1 zz)))), (ac, .inl (G.2.1, 500, .inl (fun zz => nI (u.2.2.1 zz)))), (av, .inl (G.2.1, 500, .inl (fun zz => nI (u.2.2.2 zz))))]) := by
  refine MetV.mk (by decide +kernel) (Nat.le_of_ble_eq_true rfl) ?_
  intro p e s m below meth c Q A ls S hin hP hD hA hS hk hs hret hl
  have hx := S.1
  have hb := S.2.1
  have hP : va_P G.1 cls [(ro, .inr (1, [.ref ak, .ref ac, .ref av, .int (nI n)])), (ak, .inl (G.2.1, 500, .inl (fun zz => nI (K zz)))), (ac, .inl (G.2.1, 500, .inl (fun zz => nI (C zz)))), (av, .inl (G.2.1, 500, .inl (fun zz => nI (V zz))))] s.heap := hP
  have hD : va_D A [(ro, .inr (1, [.ref ak, .ref ac, .ref av, .int (nI n)])), (ak, .inl (G.2.1, 500, .inl (fun zz => nI (K zz)))), (ac, .inl (G.2.1, 500, .inl (fun zz => nI (C zz)))), (av, .inl (G.2.1, 500, .inl (fun zz => nI (V zz))))] := hD
  have hl : lv_has ls 3 [(0, .ref ro), (1, .int (nI key))] := hl
  refine lv_aload_n hx hb d_Row_drop_0 rfl (lv_at hl 0 rfl) ?_
  refine lv_iload_n hx hb d_Row_drop_1 rfl (lv_at hl 1 rfl) ?_
  refine vp_callSi (va_Run.run (run_V S v_Row_25 (c_Row_placeOf la G ro ak ac av n K key hn hK hkey) ⟨rfl, rfl⟩ ⟨Nat.le_of_ble_eq_true rfl, Nat.le_of_ble_eq_true rfl⟩ (preR_V hP hk (hs.kept (fun a h1 h2 => hS.2.1 a h1 h2)) [0, 1] rfl 0 rfl rfl) (rest := []) rfl hl.1 rfl (Nat.le_of_ble_eq_true rfl) d_Row_drop_2 ⟨Nat.le_of_ble_eq_true rfl, Nat.le_of_ble_eq_true rfl⟩)) (fun r1 hr1 => ?_)
  obtain ⟨q, hat, rfl⟩ := hr1
  have hq := hat.1
  refine lv_istore_n hx hb d_Row_drop_5 rfl hl (by decide) rfl (fun ls hl => ?_)
  have hl : lv_has ls 3 [(2, .int (nI q)), (0, .ref ro), (1, .int (nI key))] := hl
  refine lv_aload_n hx hb d_Row_drop_6 rfl (lv_at hl 1 rfl) ?_
  refine lv_iload_n hx hb d_Row_drop_7 rfl (lv_at hl 0 rfl) ?_
  refine lv_iload_n hx hb d_Row_drop_8 rfl (lv_at hl 2 rfl) ?_
  refine vp_callSi (va_Run.run (run_V S v_Row_29 (c_Row_isKeyAt la G ro ak ac av n K q key hn hK hq hkey) ⟨rfl, rfl⟩ ⟨Nat.le_of_ble_eq_true rfl, Nat.le_of_ble_eq_true rfl⟩ (preR_V hP hk (hs.kept (fun a h1 h2 => hS.2.1 a h1 h2)) [0, 1] rfl 0 rfl rfl) (rest := []) rfl hl.1 rfl (Nat.le_of_ble_eq_true rfl) d_Row_drop_9 ⟨Nat.le_of_ble_eq_true rfl, Nat.le_of_ble_eq_true rfl⟩)) (fun r2 hr2 => ?_)
  rcases hr2 with ⟨rfl, q1, q2⟩ | ⟨rfl, q1⟩
  · refine lv_if_eq hx hb d_Row_drop_12 (tgt := 33) (by decide) (fun h => absurd h (by decide)) (fun _ => ?_)
    refine lv_aload_n hx hb d_Row_drop_15 rfl (lv_at hl 1 rfl) ?_
    refine lv_iload_n hx hb d_Row_drop_16 rfl (lv_at hl 0 rfl) ?_
    refine lv_iconst (v := nI 1) hx hb d_Row_drop_17 (by decide) ?_
    refine x_iadd hx hb d_Row_drop_18 ?_
    refine lv_iload_n hx hb d_Row_drop_19 rfl (lv_at hl 0 rfl) ?_
    refine eff_V (wr := []) (run_V S v_Row_37 (c_Row_moveTail la G ro ak ac av n K C V (q + 1) q hn (by omega) (by omega) _) ⟨rfl, rfl⟩ ⟨Nat.le_of_ble_eq_true rfl, Nat.le_of_ble_eq_true rfl⟩ (preW_V hP hD hA hS hk hs [0, 1, 2, 3] (by decide) rfl 0 rfl rfl) (rest := []) rfl hl.1 rfl (Nat.le_of_ble_eq_true rfl) d_Row_drop_20 ⟨Nat.le_of_ble_eq_true rfl, Nat.le_of_ble_eq_true rfl⟩) hP hD hA hS [0, 1, 2, 3] [] rfl rfl (by decide) (by decide) (fun u H locs hu hP hD hS => ?_)
    have hP : va_P G.1 cls [(ro, .inr (1, [.ref ak, .ref ac, .ref av, .int (nI n)])), (ak, .inl (G.2.1, 500, .inl (fun zz => nI ((va_cpy K K (q + 1) q (n - (q + 1))) zz)))), (ac, .inl (G.2.1, 500, .inl (fun zz => nI ((va_cpy C C (q + 1) q (n - (q + 1))) zz)))), (av, .inl (G.2.1, 500, .inl (fun zz => nI ((va_cpy V V (q + 1) q (n - (q + 1))) zz))))] H := hP
    have hD : va_D A [(ro, .inr (1, [.ref ak, .ref ac, .ref av, .int (nI n)])), (ak, .inl (G.2.1, 500, .inl (fun zz => nI ((va_cpy K K (q + 1) q (n - (q + 1))) zz)))), (ac, .inl (G.2.1, 500, .inl (fun zz => nI ((va_cpy C C (q + 1) q (n - (q + 1))) zz)))), (av, .inl (G.2.1, 500, .inl (fun zz => nI ((va_cpy V V (q + 1) q (n - (q + 1))) zz))))] := hD
    refine lv_aload_n hx hb d_Row_drop_23 rfl (lv_at hl 1 rfl) ?_
    refine lv_dup hx hb d_Row_drop_24 rfl ?_
    refine y_get S hk hP 0 rfl f_Row_21 rfl d_Row_drop_25 ?_
    refine lv_iconst (v := nI 1) hx hb d_Row_drop_28 (by decide) ?_
    refine x_isub hx hb d_Row_drop_29 (by omega) ?_
    refine y_put S hk hP hD hS 0 rfl f_Row_21 T_1 M_1_3 rfl rfl (Nat.le_of_ble_eq_true rfl) d_Row_drop_30 (fun H locs hP hD hS => ?_)
    have hP : va_P G.1 cls [(ro, .inr (1, [.ref ak, .ref ac, .ref av, .int (nI (n - 1))])), (ak, .inl (G.2.1, 500, .inl (fun zz => nI ((va_cpy K K (q + 1) q (n - (q + 1))) zz)))), (ac, .inl (G.2.1, 500, .inl (fun zz => nI ((va_cpy C C (q + 1) q (n - (q + 1))) zz)))), (av, .inl (G.2.1, 500, .inl (fun zz => nI ((va_cpy V V (q + 1) q (n - (q + 1))) zz))))] H := hP
    have hD : va_D A [(ro, .inr (1, [.ref ak, .ref ac, .ref av, .int (nI (n - 1))])), (ak, .inl (G.2.1, 500, .inl (fun zz => nI ((va_cpy K K (q + 1) q (n - (q + 1))) zz)))), (ac, .inl (G.2.1, 500, .inl (fun zz => nI ((va_cpy C C (q + 1) q (n - (q + 1))) zz)))), (av, .inl (G.2.1, 500, .inl (fun zz => nI ((va_cpy V V (q + 1) q (n - (q + 1))) zz))))] := hD
    exact hret _ _ (n - 1, (va_cpy K K (q + 1) q (n - (q + 1))), (va_cpy C C (q + 1) q (n - (q + 1))), (va_cpy V V (q + 1) q (n - (q + 1)))) _ _ (⟨q, hat, by first | exact Or.inl ⟨q1, q2, rfl⟩ | exact Or.inr ⟨q1, rfl⟩⟩) hP hD hS d_Row_drop_33
  · refine lv_if_eq hx hb d_Row_drop_12 (tgt := 33) (by decide) (fun _ => ?_) (fun h => absurd (by decide) h)
    exact hret _ _ (n, K, C, V) _ _ (⟨q, hat, by first | exact Or.inl ⟨q1, q2, rfl⟩ | exact Or.inr ⟨q1, rfl⟩⟩) hP hD hS d_Row_drop_33
end
section
/-! constructors, the walk over the window's keys (laid by gen/m4.py) -/
set_option maxHeartbeats 4000000 in
set_option maxRecDepth 100000 in
theorem c_Row_init (la : Launch) (G : gG) (ro : Nat)  : MetV la y_Row_init b_Row_init 1 1 12 3 1500 [.ref ro] G [(ro, .inr (1, [.null, .null, .null, .int (nI 0)]))] (S := Nat × Nat × Nat) (fun _ => True) (fun u => [(ro, .inr (1, [.ref u.1, .ref u.2.1, .ref u.2.2, .int (nI 0)])), (u.1, .inl (G.2.1, 500, .inl (fun zz => nI (zf zz)))), (u.2.1, .inl (G.2.1, 500, .inl (fun zz => nI (zf zz)))), (u.2.2, .inl (G.2.1, 500, .inl (fun zz => nI (zf zz))))]) := by
  refine MetV.mk (by decide +kernel) (Nat.le_of_ble_eq_true rfl) ?_
  intro p e s m below meth c Q A ls S hin hP hD hA hS hk hs hret hl
  have hx := S.1
  have hb := S.2.1
  have hP : va_P G.1 cls [(ro, .inr (1, [.null, .null, .null, .int (nI 0)]))] s.heap := hP
  have hD : va_D A [(ro, .inr (1, [.null, .null, .null, .int (nI 0)]))] := hD
  have hl : lv_has ls 1 [(0, .ref ro)] := hl
  refine lv_aload_n hx hb d_Row_init_0 rfl (lv_at hl 0 rfl) ?_
  refine y_oinit S hl.1 (wq 51 (by decide +kernel)) (wq 45 (by decide +kernel)) (wq 46 (by decide +kernel)) d_Row_init_1 (Nat.le_of_ble_eq_true rfl) (Nat.le_of_ble_eq_true rfl) ?_
  refine lv_aload_n hx hb d_Row_init_4 rfl (lv_at hl 0 rfl) ?_
  refine lv_sipush (v := nI 500) hx hb d_Row_init_5 (by decide) ?_
  refine y_newa S hk hP hD hA hS (wq 60 (by decide +kernel)) (by decide) (Nat.le_of_ble_eq_true rfl) (Nat.le_of_ble_eq_true rfl) d_Row_init_8 (fun q8 H hP hD hS => ?_)
  have hP : va_P G.1 cls [(ro, .inr (1, [.null, .null, .null, .int (nI 0)])), (q8, .inl (G.2.1, 500, .inl (fun zz => nI (zf zz))))] H := hP
  have hD : va_D A [(ro, .inr (1, [.null, .null, .null, .int (nI 0)])), (q8, .inl (G.2.1, 500, .inl (fun zz => nI (zf zz))))] := hD
  refine y_putF S hin hk hP hD hS 0 rfl f_Row_9 T_1 M_1_0 ⟨_, _, rfl⟩ rfl rfl (Nat.le_of_ble_eq_true rfl) d_Row_init_10 (fun H locs hP hD hS => ?_)
  have hP : va_P G.1 cls [(ro, .inr (1, [.ref q8, .null, .null, .int (nI 0)])), (q8, .inl (G.2.1, 500, .inl (fun zz => nI (zf zz))))] H := hP
  have hD : va_D A [(ro, .inr (1, [.ref q8, .null, .null, .int (nI 0)])), (q8, .inl (G.2.1, 500, .inl (fun zz => nI (zf zz))))] := hD
  refine lv_aload_n hx hb d_Row_init_13 rfl (lv_at hl 0 rfl) ?_
  refine lv_sipush (v := nI 500) hx hb d_Row_init_14 (by decide) ?_
  refine y_newa S hk hP hD hA hS (wq 60 (by decide +kernel)) (by decide) (Nat.le_of_ble_eq_true rfl) (Nat.le_of_ble_eq_true rfl) d_Row_init_17 (fun q17 H hP hD hS => ?_)
  have hP : va_P G.1 cls [(ro, .inr (1, [.ref q8, .null, .null, .int (nI 0)])), (q8, .inl (G.2.1, 500, .inl (fun zz => nI (zf zz)))), (q17, .inl (G.2.1, 500, .inl (fun zz => nI (zf zz))))] H := hP
  have hD : va_D A [(ro, .inr (1, [.ref q8, .null, .null, .int (nI 0)])), (q8, .inl (G.2.1, 500, .inl (fun zz => nI (zf zz)))), (q17, .inl (G.2.1, 500, .inl (fun zz => nI (zf zz))))] := hD
  refine y_putF S hin hk hP hD hS 0 rfl f_Row_15 T_1 M_1_1 ⟨_, _, rfl⟩ rfl rfl (Nat.le_of_ble_eq_true rfl) d_Row_init_19 (fun H locs hP hD hS => ?_)
  have hP : va_P G.1 cls [(ro, .inr (1, [.ref q8, .ref q17, .null, .int (nI 0)])), (q8, .inl (G.2.1, 500, .inl (fun zz => nI (zf zz)))), (q17, .inl (G.2.1, 500, .inl (fun zz => nI (zf zz))))] H := hP
  have hD : va_D A [(ro, .inr (1, [.ref q8, .ref q17, .null, .int (nI 0)])), (q8, .inl (G.2.1, 500, .inl (fun zz => nI (zf zz)))), (q17, .inl (G.2.1, 500, .inl (fun zz => nI (zf zz))))] := hD
  refine lv_aload_n hx hb d_Row_init_22 rfl (lv_at hl 0 rfl) ?_
  refine lv_sipush (v := nI 500) hx hb d_Row_init_23 (by decide) ?_
  refine y_newa S hk hP hD hA hS (wq 60 (by decide +kernel)) (by decide) (Nat.le_of_ble_eq_true rfl) (Nat.le_of_ble_eq_true rfl) d_Row_init_26 (fun q26 H hP hD hS => ?_)
  have hP : va_P G.1 cls [(ro, .inr (1, [.ref q8, .ref q17, .null, .int (nI 0)])), (q8, .inl (G.2.1, 500, .inl (fun zz => nI (zf zz)))), (q17, .inl (G.2.1, 500, .inl (fun zz => nI (zf zz)))), (q26, .inl (G.2.1, 500, .inl (fun zz => nI (zf zz))))] H := hP
  have hD : va_D A [(ro, .inr (1, [.ref q8, .ref q17, .null, .int (nI 0)])), (q8, .inl (G.2.1, 500, .inl (fun zz => nI (zf zz)))), (q17, .inl (G.2.1, 500, .inl (fun zz => nI (zf zz)))), (q26, .inl (G.2.1, 500, .inl (fun zz => nI (zf zz))))] := hD
  refine y_putF S hin hk hP hD hS 0 rfl f_Row_18 T_1 M_1_2 ⟨_, _, rfl⟩ rfl rfl (Nat.le_of_ble_eq_true rfl) d_Row_init_28 (fun H locs hP hD hS => ?_)
  have hP : va_P G.1 cls [(ro, .inr (1, [.ref q8, .ref q17, .ref q26, .int (nI 0)])), (q8, .inl (G.2.1, 500, .inl (fun zz => nI (zf zz)))), (q17, .inl (G.2.1, 500, .inl (fun zz => nI (zf zz)))), (q26, .inl (G.2.1, 500, .inl (fun zz => nI (zf zz))))] H := hP
  have hD : va_D A [(ro, .inr (1, [.ref q8, .ref q17, .ref q26, .int (nI 0)])), (q8, .inl (G.2.1, 500, .inl (fun zz => nI (zf zz)))), (q17, .inl (G.2.1, 500, .inl (fun zz => nI (zf zz)))), (q26, .inl (G.2.1, 500, .inl (fun zz => nI (zf zz))))] := hD
  refine lv_aload_n hx hb d_Row_init_31 rfl (lv_at hl 0 rfl) ?_
  refine lv_iconst (v := nI 0) hx hb d_Row_init_32 (by decide) ?_
  refine y_put S hk hP hD hS 0 rfl f_Row_21 T_1 M_1_3 rfl rfl (Nat.le_of_ble_eq_true rfl) d_Row_init_33 (fun H locs hP hD hS => ?_)
  have hP : va_P G.1 cls [(ro, .inr (1, [.ref q8, .ref q17, .ref q26, .int (nI 0)])), (q8, .inl (G.2.1, 500, .inl (fun zz => nI (zf zz)))), (q17, .inl (G.2.1, 500, .inl (fun zz => nI (zf zz)))), (q26, .inl (G.2.1, 500, .inl (fun zz => nI (zf zz))))] H := hP
  have hD : va_D A [(ro, .inr (1, [.ref q8, .ref q17, .ref q26, .int (nI 0)])), (q8, .inl (G.2.1, 500, .inl (fun zz => nI (zf zz)))), (q17, .inl (G.2.1, 500, .inl (fun zz => nI (zf zz)))), (q26, .inl (G.2.1, 500, .inl (fun zz => nI (zf zz))))] := hD
  exact hret _ _ (q8, q17, q26) _ _ (trivial) hP hD hS d_Row_init_36
set_option maxHeartbeats 4000000 in
set_option maxRecDepth 100000 in
theorem c_Fr_init (la : Launch) (G : gG) (fr x0 y0 x1 y1 : Nat)  : MetV la y_Fr_init b_Fr_init 5 1 12 0 0 [.ref fr, .int (nI x0), .int (nI y0), .int (nI x1), .int (nI y1)] G [(fr, .inr (2, [.int (nI 0), .int (nI 0), .int (nI 0), .int (nI 0)]))] (S := Unit) (fun _ => True) (fun _ => [(fr, .inr (2, [.int (nI x0), .int (nI y0), .int (nI x1), .int (nI y1)]))]) := by
  refine MetV.mk (by decide +kernel) (Nat.le_of_ble_eq_true rfl) ?_
  intro p e s m below meth c Q A ls S hin hP hD hA hS hk hs hret hl
  have hx := S.1
  have hb := S.2.1
  have hP : va_P G.1 cls [(fr, .inr (2, [.int (nI 0), .int (nI 0), .int (nI 0), .int (nI 0)]))] s.heap := hP
  have hD : va_D A [(fr, .inr (2, [.int (nI 0), .int (nI 0), .int (nI 0), .int (nI 0)]))] := hD
  have hl : lv_has ls 5 [(0, .ref fr), (1, .int (nI x0)), (2, .int (nI y0)), (3, .int (nI x1)), (4, .int (nI y1))] := hl
  refine lv_aload_n hx hb d_Fr_init_0 rfl (lv_at hl 0 rfl) ?_
  refine y_oinit S hl.1 (wq 65 (by decide +kernel)) (wq 45 (by decide +kernel)) (wq 46 (by decide +kernel)) d_Fr_init_1 (Nat.le_of_ble_eq_true rfl) (Nat.le_of_ble_eq_true rfl) ?_
  refine lv_aload_n hx hb d_Fr_init_4 rfl (lv_at hl 0 rfl) ?_
  refine lv_iload_n hx hb d_Fr_init_5 rfl (lv_at hl 1 rfl) ?_
  refine y_putF S hin hk hP hD hS 0 rfl f_Fr_7 T_2 M_2_0 ⟨_, _, rfl⟩ rfl rfl (Nat.le_of_ble_eq_true rfl) d_Fr_init_6 (fun H locs hP hD hS => ?_)
  have hP : va_P G.1 cls [(fr, .inr (2, [.int (nI x0), .int (nI 0), .int (nI 0), .int (nI 0)]))] H := hP
  have hD : va_D A [(fr, .inr (2, [.int (nI x0), .int (nI 0), .int (nI 0), .int (nI 0)]))] := hD
  refine lv_aload_n hx hb d_Fr_init_9 rfl (lv_at hl 0 rfl) ?_
  refine lv_iload_n hx hb d_Fr_init_10 rfl (lv_at hl 2 rfl) ?_
  refine y_putF S hin hk hP hD hS 0 rfl f_Fr_13 T_2 M_2_1 ⟨_, _, rfl⟩ rfl rfl (Nat.le_of_ble_eq_true rfl) d_Fr_init_11 (fun H locs hP hD hS => ?_)
  have hP : va_P G.1 cls [(fr, .inr (2, [.int (nI x0), .int (nI y0), .int (nI 0), .int (nI 0)]))] H := hP
  have hD : va_D A [(fr, .inr (2, [.int (nI x0), .int (nI y0), .int (nI 0), .int (nI 0)]))] := hD
  refine lv_aload_n hx hb d_Fr_init_14 rfl (lv_at hl 0 rfl) ?_
  refine lv_iload_n hx hb d_Fr_init_15 rfl (lv_at hl 3 rfl) ?_
  refine y_putF S hin hk hP hD hS 0 rfl f_Fr_16 T_2 M_2_2 ⟨_, _, rfl⟩ rfl rfl (Nat.le_of_ble_eq_true rfl) d_Fr_init_16 (fun H locs hP hD hS => ?_)
  have hP : va_P G.1 cls [(fr, .inr (2, [.int (nI x0), .int (nI y0), .int (nI x1), .int (nI 0)]))] H := hP
  have hD : va_D A [(fr, .inr (2, [.int (nI x0), .int (nI y0), .int (nI x1), .int (nI 0)]))] := hD
  refine lv_aload_n hx hb d_Fr_init_19 rfl (lv_at hl 0 rfl) ?_
  refine lv_iload hx hb d_Fr_init_20 (lv_at hl 4 rfl) ?_
  refine y_putF S hin hk hP hD hS 0 rfl f_Fr_19 T_2 M_2_3 ⟨_, _, rfl⟩ rfl rfl (Nat.le_of_ble_eq_true rfl) d_Fr_init_22 (fun H locs hP hD hS => ?_)
  have hP : va_P G.1 cls [(fr, .inr (2, [.int (nI x0), .int (nI y0), .int (nI x1), .int (nI y1)]))] H := hP
  have hD : va_D A [(fr, .inr (2, [.int (nI x0), .int (nI y0), .int (nI x1), .int (nI y1)]))] := hD
  exact hret _ _ () _ _ (trivial) hP hD hS d_Fr_init_25
set_option maxHeartbeats 4000000 in
set_option maxRecDepth 100000 in
theorem c_RW_init (la : Launch) (G : gG) (wk fr : Nat) (w : Int32)  : MetV la y_RW_init b_RW_init 3 1 12 0 0 [.ref wk, .ref fr, .int w] G [(wk, .inr (3, [.null, .int (nI 0), .int (nI 0), .int (nI 0), .int (nI 0), .int (nI 0)]))] (S := Unit) (fun _ => True) (fun _ => [(wk, .inr (3, [.ref fr, .int w, .int (nI 0), .int (oI 0), .int (oI 0), .int (oI 0)]))]) := by
  refine MetV.mk (by decide +kernel) (Nat.le_of_ble_eq_true rfl) ?_
  intro p e s m below meth c Q A ls S hin hP hD hA hS hk hs hret hl
  have hx := S.1
  have hb := S.2.1
  have hP : va_P G.1 cls [(wk, .inr (3, [.null, .int (nI 0), .int (nI 0), .int (nI 0), .int (nI 0), .int (nI 0)]))] s.heap := hP
  have hD : va_D A [(wk, .inr (3, [.null, .int (nI 0), .int (nI 0), .int (nI 0), .int (nI 0), .int (nI 0)]))] := hD
  have hl : lv_has ls 3 [(0, .ref wk), (1, .ref fr), (2, .int w)] := hl
  refine lv_aload_n hx hb d_RW_init_0 rfl (lv_at hl 0 rfl) ?_
  refine y_oinit S hl.1 (wq 200 (by decide +kernel)) (wq 45 (by decide +kernel)) (wq 46 (by decide +kernel)) d_RW_init_1 (Nat.le_of_ble_eq_true rfl) (Nat.le_of_ble_eq_true rfl) ?_
  refine lv_aload_n hx hb d_RW_init_4 rfl (lv_at hl 0 rfl) ?_
  refine lv_iconst (v := nI 0) hx hb d_RW_init_5 (by decide) ?_
  refine y_put S hk hP hD hS 0 rfl f_RW_9 T_3 M_3_2 rfl rfl (Nat.le_of_ble_eq_true rfl) d_RW_init_6 (fun H locs hP hD hS => ?_)
  have hP : va_P G.1 cls [(wk, .inr (3, [.null, .int (nI 0), .int (nI 0), .int (nI 0), .int (nI 0), .int (nI 0)]))] H := hP
  have hD : va_D A [(wk, .inr (3, [.null, .int (nI 0), .int (nI 0), .int (nI 0), .int (nI 0), .int (nI 0)]))] := hD
  refine lv_aload_n hx hb d_RW_init_9 rfl (lv_at hl 0 rfl) ?_
  refine lv_iconst (v := (-1)) hx hb d_RW_init_10 (by decide) ?_
  refine y_put S hk hP hD hS 0 rfl f_RW_15 T_3 M_3_3 rfl rfl (Nat.le_of_ble_eq_true rfl) d_RW_init_11 (fun H locs hP hD hS => ?_)
  have hP : va_P G.1 cls [(wk, .inr (3, [.null, .int (nI 0), .int (nI 0), .int (-1), .int (nI 0), .int (nI 0)]))] H := hP
  have hD : va_D A [(wk, .inr (3, [.null, .int (nI 0), .int (nI 0), .int (-1), .int (nI 0), .int (nI 0)]))] := hD
  refine lv_aload_n hx hb d_RW_init_14 rfl (lv_at hl 0 rfl) ?_
  refine lv_iconst (v := (-1)) hx hb d_RW_init_15 (by decide) ?_
  refine y_put S hk hP hD hS 0 rfl f_RW_18 T_3 M_3_4 rfl rfl (Nat.le_of_ble_eq_true rfl) d_RW_init_16 (fun H locs hP hD hS => ?_)
  have hP : va_P G.1 cls [(wk, .inr (3, [.null, .int (nI 0), .int (nI 0), .int (-1), .int (-1), .int (nI 0)]))] H := hP
  have hD : va_D A [(wk, .inr (3, [.null, .int (nI 0), .int (nI 0), .int (-1), .int (-1), .int (nI 0)]))] := hD
  refine lv_aload_n hx hb d_RW_init_19 rfl (lv_at hl 0 rfl) ?_
  refine lv_iconst (v := (-1)) hx hb d_RW_init_20 (by decide) ?_
  refine y_put S hk hP hD hS 0 rfl f_RW_21 T_3 M_3_5 rfl rfl (Nat.le_of_ble_eq_true rfl) d_RW_init_21 (fun H locs hP hD hS => ?_)
  have hP : va_P G.1 cls [(wk, .inr (3, [.null, .int (nI 0), .int (nI 0), .int (-1), .int (-1), .int (-1)]))] H := hP
  have hD : va_D A [(wk, .inr (3, [.null, .int (nI 0), .int (nI 0), .int (-1), .int (-1), .int (-1)]))] := hD
  refine lv_aload_n hx hb d_RW_init_24 rfl (lv_at hl 0 rfl) ?_
  refine lv_aload_n hx hb d_RW_init_25 rfl (lv_at hl 1 rfl) ?_
  refine y_putF S hin hk hP hD hS 0 rfl f_RW_24 T_3 M_3_0 ⟨_, _, rfl⟩ rfl rfl (Nat.le_of_ble_eq_true rfl) d_RW_init_26 (fun H locs hP hD hS => ?_)
  have hP : va_P G.1 cls [(wk, .inr (3, [.ref fr, .int (nI 0), .int (nI 0), .int (-1), .int (-1), .int (-1)]))] H := hP
  have hD : va_D A [(wk, .inr (3, [.ref fr, .int (nI 0), .int (nI 0), .int (-1), .int (-1), .int (-1)]))] := hD
  refine lv_aload_n hx hb d_RW_init_29 rfl (lv_at hl 0 rfl) ?_
  refine lv_iload_n hx hb d_RW_init_30 rfl (lv_at hl 2 rfl) ?_
  refine y_putF S hin hk hP hD hS 0 rfl f_RW_28 T_3 M_3_1 ⟨_, _, rfl⟩ rfl rfl (Nat.le_of_ble_eq_true rfl) d_RW_init_31 (fun H locs hP hD hS => ?_)
  have hP : va_P G.1 cls [(wk, .inr (3, [.ref fr, .int w, .int (nI 0), .int (-1), .int (-1), .int (-1)]))] H := hP
  have hD : va_D A [(wk, .inr (3, [.ref fr, .int w, .int (nI 0), .int (-1), .int (-1), .int (-1)]))] := hD
  exact hret _ _ () _ _ (trivial) hP hD hS d_RW_init_34
set_option maxHeartbeats 4000000 in
set_option maxRecDepth 100000 in
theorem c_RW_join (la : Launch) (G : gG) (wk fr : Nat) (w : Int32) (c0 e0 f0 g0 a b : Nat) (ha : a < 2147483648) (hc : c0 < 2147483647) (he : e0 < 2147483648) : MetV la y_RW_join b_RW_join 3 0 0 0 0 [.ref wk, .int (nI a), .int (oI b)] G [(wk, .inr (3, [.ref fr, .int w, .int (nI c0), .int (oI e0), .int (oI f0), .int (oI g0)]))] (S := rw_S) (fun u => u = rw_j w a b (c0, e0, f0, g0)) (fun u => [(wk, .inr (3, [.ref fr, .int w, .int (nI u.1), .int (oI u.2.1), .int (oI u.2.2.1), .int (oI u.2.2.2)]))]) := by
  refine MetV.mk (by decide +kernel) (Nat.le_of_ble_eq_true rfl) ?_
  intro p e s m below meth c Q A ls S hin hP hD hA hS hk hs hret hl
  have hx := S.1
  have hb := S.2.1
  have hP : va_P G.1 cls [(wk, .inr (3, [.ref fr, .int w, .int (nI c0), .int (oI e0), .int (oI f0), .int (oI g0)]))] s.heap := hP
  have hD : va_D A [(wk, .inr (3, [.ref fr, .int w, .int (nI c0), .int (oI e0), .int (oI f0), .int (oI g0)]))] := hD
  have hl : lv_has ls 3 [(0, .ref wk), (1, .int (nI a)), (2, .int (oI b))] := hl
  refine lv_aload_n hx hb d_RW_join_0 rfl (lv_at hl 0 rfl) ?_
  refine y_get S hk hP 0 rfl f_RW_9 rfl d_RW_join_1 ?_
  refine x_if_eq hx hb d_RW_join_4 (tgt := 17) (by decide) (by omega) (fun h4 => ?_) (fun h4 => ?_)
  · refine lv_aload_n hx hb d_RW_join_17 rfl (lv_at hl 0 rfl) ?_
    refine lv_dup hx hb d_RW_join_18 rfl ?_
    refine y_get S hk hP 0 rfl f_RW_9 rfl d_RW_join_19 ?_
    refine lv_iconst (v := nI 1) hx hb d_RW_join_22 (by decide) ?_
    refine x_iadd hx hb d_RW_join_23 ?_
    refine y_put S hk hP hD hS 0 rfl f_RW_9 T_3 M_3_2 rfl rfl (Nat.le_of_ble_eq_true rfl) d_RW_join_24 (fun H locs hP hD hS => ?_)
    have hP : va_P G.1 cls [(wk, .inr (3, [.ref fr, .int w, .int (nI (c0 + 1)), .int (oI e0), .int (oI f0), .int (oI g0)]))] H := hP
    have hD : va_D A [(wk, .inr (3, [.ref fr, .int w, .int (nI (c0 + 1)), .int (oI e0), .int (oI f0), .int (oI g0)]))] := hD
    refine lv_aload_n hx hb d_RW_join_27 rfl (lv_at hl 0 rfl) ?_
    refine y_get S hk hP 0 rfl f_RW_9 rfl d_RW_join_28 ?_
    refine lv_iconst (v := nI 1) hx hb d_RW_join_31 (by decide) ?_
    refine x_isub hx hb d_RW_join_32 (by omega) ?_
    refine x_reN (b := c0) (by omega) ?_
    refine lv_aload_n hx hb d_RW_join_33 rfl (lv_at hl 0 rfl) ?_
    refine y_get S hk hP 0 rfl f_RW_28 rfl d_RW_join_34 ?_
    refine lv_icmp_ne hx hb d_RW_join_37 (tgt := 45) (by decide) (fun h37 => ?_) (fun h37 => ?_)
    · refine lv_aload_n hx hb d_RW_join_45 rfl (lv_at hl 0 rfl) ?_
      refine y_get S hk hP 0 rfl f_RW_9 rfl d_RW_join_46 ?_
      refine lv_iconst (v := nI 1) hx hb d_RW_join_49 (by decide) ?_
      refine x_isub hx hb d_RW_join_50 (by omega) ?_
      refine x_reN (b := c0) (by omega) ?_
      refine lv_aload_n hx hb d_RW_join_51 rfl (lv_at hl 0 rfl) ?_
      refine y_get S hk hP 0 rfl f_RW_28 rfl d_RW_join_52 ?_
      refine lv_icmp_ne hx hb d_RW_join_55 (tgt := 63) (by decide) (fun h55 => ?_) (fun h55 => ?_)
      · refine lv_aload_n hx hb d_RW_join_63 rfl (lv_at hl 0 rfl) ?_
        refine lv_iload_n hx hb d_RW_join_64 rfl (lv_at hl 2 rfl) ?_
        refine y_put S hk hP hD hS 0 rfl f_RW_15 T_3 M_3_3 rfl rfl (Nat.le_of_ble_eq_true rfl) d_RW_join_65 (fun H locs hP hD hS => ?_)
        have hP : va_P G.1 cls [(wk, .inr (3, [.ref fr, .int w, .int (nI (c0 + 1)), .int (oI b), .int (oI f0), .int (oI g0)]))] H := hP
        have hD : va_D A [(wk, .inr (3, [.ref fr, .int w, .int (nI (c0 + 1)), .int (oI b), .int (oI f0), .int (oI g0)]))] := hD
        exact hret _ _ (c0 + 1, b, f0, g0) _ _ (by rw [rw_j_new (by first | exact Or.inl h4 | exact Or.inr h14)]; dsimp only; rw [if_neg h55, if_neg h55]) hP hD hS d_RW_join_68
      · refine lv_aload_n hx hb d_RW_join_58 rfl (lv_at hl 0 rfl) ?_
        refine lv_iload_n hx hb d_RW_join_59 rfl (lv_at hl 2 rfl) ?_
        refine y_put S hk hP hD hS 0 rfl f_RW_21 T_3 M_3_5 rfl rfl (Nat.le_of_ble_eq_true rfl) d_RW_join_60 (fun H locs hP hD hS => ?_)
        have hP : va_P G.1 cls [(wk, .inr (3, [.ref fr, .int w, .int (nI (c0 + 1)), .int (oI e0), .int (oI f0), .int (oI b)]))] H := hP
        have hD : va_D A [(wk, .inr (3, [.ref fr, .int w, .int (nI (c0 + 1)), .int (oI e0), .int (oI f0), .int (oI b)]))] := hD
        refine lv_aload_n hx hb d_RW_join_63 rfl (lv_at hl 0 rfl) ?_
        refine lv_iload_n hx hb d_RW_join_64 rfl (lv_at hl 2 rfl) ?_
        refine y_put S hk hP hD hS 0 rfl f_RW_15 T_3 M_3_3 rfl rfl (Nat.le_of_ble_eq_true rfl) d_RW_join_65 (fun H locs hP hD hS => ?_)
        have hP : va_P G.1 cls [(wk, .inr (3, [.ref fr, .int w, .int (nI (c0 + 1)), .int (oI b), .int (oI f0), .int (oI b)]))] H := hP
        have hD : va_D A [(wk, .inr (3, [.ref fr, .int w, .int (nI (c0 + 1)), .int (oI b), .int (oI f0), .int (oI b)]))] := hD
        exact absurd h55 h37
    · refine lv_aload_n hx hb d_RW_join_40 rfl (lv_at hl 0 rfl) ?_
      refine lv_iload_n hx hb d_RW_join_41 rfl (lv_at hl 1 rfl) ?_
      refine y_put S hk hP hD hS 0 rfl f_RW_18 T_3 M_3_4 rfl rfl (Nat.le_of_ble_eq_true rfl) d_RW_join_42 (fun H locs hP hD hS => ?_)
      have hP : va_P G.1 cls [(wk, .inr (3, [.ref fr, .int w, .int (nI (c0 + 1)), .int (oI e0), .int (nI a), .int (oI g0)]))] H := hP
      have hD : va_D A [(wk, .inr (3, [.ref fr, .int w, .int (nI (c0 + 1)), .int (oI e0), .int (nI a), .int (oI g0)]))] := hD
      refine lv_aload_n hx hb d_RW_join_45 rfl (lv_at hl 0 rfl) ?_
      refine y_get S hk hP 0 rfl f_RW_9 rfl d_RW_join_46 ?_
      refine lv_iconst (v := nI 1) hx hb d_RW_join_49 (by decide) ?_
      refine x_isub hx hb d_RW_join_50 (by omega) ?_
      refine x_reN (b := c0) (by omega) ?_
      refine lv_aload_n hx hb d_RW_join_51 rfl (lv_at hl 0 rfl) ?_
      refine y_get S hk hP 0 rfl f_RW_28 rfl d_RW_join_52 ?_
      refine lv_icmp_ne hx hb d_RW_join_55 (tgt := 63) (by decide) (fun h55 => ?_) (fun h55 => ?_)
      · refine lv_aload_n hx hb d_RW_join_63 rfl (lv_at hl 0 rfl) ?_
        refine lv_iload_n hx hb d_RW_join_64 rfl (lv_at hl 2 rfl) ?_
        refine y_put S hk hP hD hS 0 rfl f_RW_15 T_3 M_3_3 rfl rfl (Nat.le_of_ble_eq_true rfl) d_RW_join_65 (fun H locs hP hD hS => ?_)
        have hP : va_P G.1 cls [(wk, .inr (3, [.ref fr, .int w, .int (nI (c0 + 1)), .int (oI b), .int (nI a), .int (oI g0)]))] H := hP
        have hD : va_D A [(wk, .inr (3, [.ref fr, .int w, .int (nI (c0 + 1)), .int (oI b), .int (nI a), .int (oI g0)]))] := hD
        exact absurd h37 h55
      · refine lv_aload_n hx hb d_RW_join_58 rfl (lv_at hl 0 rfl) ?_
        refine lv_iload_n hx hb d_RW_join_59 rfl (lv_at hl 2 rfl) ?_
        refine y_put S hk hP hD hS 0 rfl f_RW_21 T_3 M_3_5 rfl rfl (Nat.le_of_ble_eq_true rfl) d_RW_join_60 (fun H locs hP hD hS => ?_)
        have hP : va_P G.1 cls [(wk, .inr (3, [.ref fr, .int w, .int (nI (c0 + 1)), .int (oI e0), .int (nI a), .int (oI b)]))] H := hP
        have hD : va_D A [(wk, .inr (3, [.ref fr, .int w, .int (nI (c0 + 1)), .int (oI e0), .int (nI a), .int (oI b)]))] := hD
        refine lv_aload_n hx hb d_RW_join_63 rfl (lv_at hl 0 rfl) ?_
        refine lv_iload_n hx hb d_RW_join_64 rfl (lv_at hl 2 rfl) ?_
        refine y_put S hk hP hD hS 0 rfl f_RW_15 T_3 M_3_3 rfl rfl (Nat.le_of_ble_eq_true rfl) d_RW_join_65 (fun H locs hP hD hS => ?_)
        have hP : va_P G.1 cls [(wk, .inr (3, [.ref fr, .int w, .int (nI (c0 + 1)), .int (oI b), .int (nI a), .int (oI b)]))] H := hP
        have hD : va_D A [(wk, .inr (3, [.ref fr, .int w, .int (nI (c0 + 1)), .int (oI b), .int (nI a), .int (oI b)]))] := hD
        exact hret _ _ (c0 + 1, b, a + 1, b) _ _ (by rw [rw_j_new (by first | exact Or.inl h4 | exact Or.inr h14)]; dsimp only; rw [if_pos h55, if_pos h55]) hP hD hS d_RW_join_68
  · refine lv_iload_n hx hb d_RW_join_7 rfl (lv_at hl 1 rfl) ?_
    refine lv_aload_n hx hb d_RW_join_8 rfl (lv_at hl 0 rfl) ?_
    refine y_get S hk hP 0 rfl f_RW_15 rfl d_RW_join_9 ?_
    refine lv_iconst (v := nI 1) hx hb d_RW_join_12 (by decide) ?_
    refine lv_iadd hx hb d_RW_join_13 ?_
    refine x_re (y := (nI e0)) (oI_inc1 e0) ?_
    refine x_icmp_eq hx hb d_RW_join_14 (tgt := 45) (by decide) (by omega) (by omega) (fun h14 => ?_) (fun h14 => ?_)
    · refine lv_aload_n hx hb d_RW_join_45 rfl (lv_at hl 0 rfl) ?_
      refine y_get S hk hP 0 rfl f_RW_9 rfl d_RW_join_46 ?_
      refine lv_iconst (v := nI 1) hx hb d_RW_join_49 (by decide) ?_
      refine x_isub hx hb d_RW_join_50 (by omega) ?_
      refine lv_aload_n hx hb d_RW_join_51 rfl (lv_at hl 0 rfl) ?_
      refine y_get S hk hP 0 rfl f_RW_28 rfl d_RW_join_52 ?_
      refine lv_icmp_ne hx hb d_RW_join_55 (tgt := 63) (by decide) (fun h55 => ?_) (fun h55 => ?_)
      · refine lv_aload_n hx hb d_RW_join_63 rfl (lv_at hl 0 rfl) ?_
        refine lv_iload_n hx hb d_RW_join_64 rfl (lv_at hl 2 rfl) ?_
        refine y_put S hk hP hD hS 0 rfl f_RW_15 T_3 M_3_3 rfl rfl (Nat.le_of_ble_eq_true rfl) d_RW_join_65 (fun H locs hP hD hS => ?_)
        have hP : va_P G.1 cls [(wk, .inr (3, [.ref fr, .int w, .int (nI c0), .int (oI b), .int (oI f0), .int (oI g0)]))] H := hP
        have hD : va_D A [(wk, .inr (3, [.ref fr, .int w, .int (nI c0), .int (oI b), .int (oI f0), .int (oI g0)]))] := hD
        exact hret _ _ (c0, b, f0, g0) _ _ (by rw [rw_j_old h4 h14]; dsimp only; rw [if_neg h55]) hP hD hS d_RW_join_68
      · refine lv_aload_n hx hb d_RW_join_58 rfl (lv_at hl 0 rfl) ?_
        refine lv_iload_n hx hb d_RW_join_59 rfl (lv_at hl 2 rfl) ?_
        refine y_put S hk hP hD hS 0 rfl f_RW_21 T_3 M_3_5 rfl rfl (Nat.le_of_ble_eq_true rfl) d_RW_join_60 (fun H locs hP hD hS => ?_)
        have hP : va_P G.1 cls [(wk, .inr (3, [.ref fr, .int w, .int (nI c0), .int (oI e0), .int (oI f0), .int (oI b)]))] H := hP
        have hD : va_D A [(wk, .inr (3, [.ref fr, .int w, .int (nI c0), .int (oI e0), .int (oI f0), .int (oI b)]))] := hD
        refine lv_aload_n hx hb d_RW_join_63 rfl (lv_at hl 0 rfl) ?_
        refine lv_iload_n hx hb d_RW_join_64 rfl (lv_at hl 2 rfl) ?_
        refine y_put S hk hP hD hS 0 rfl f_RW_15 T_3 M_3_3 rfl rfl (Nat.le_of_ble_eq_true rfl) d_RW_join_65 (fun H locs hP hD hS => ?_)
        have hP : va_P G.1 cls [(wk, .inr (3, [.ref fr, .int w, .int (nI c0), .int (oI b), .int (oI f0), .int (oI b)]))] H := hP
        have hD : va_D A [(wk, .inr (3, [.ref fr, .int w, .int (nI c0), .int (oI b), .int (oI f0), .int (oI b)]))] := hD
        exact hret _ _ (c0, b, f0, b) _ _ (by rw [rw_j_old h4 h14]; dsimp only; rw [if_pos h55]) hP hD hS d_RW_join_68
    · refine lv_aload_n hx hb d_RW_join_17 rfl (lv_at hl 0 rfl) ?_
      refine lv_dup hx hb d_RW_join_18 rfl ?_
      refine y_get S hk hP 0 rfl f_RW_9 rfl d_RW_join_19 ?_
      refine lv_iconst (v := nI 1) hx hb d_RW_join_22 (by decide) ?_
      refine x_iadd hx hb d_RW_join_23 ?_
      refine y_put S hk hP hD hS 0 rfl f_RW_9 T_3 M_3_2 rfl rfl (Nat.le_of_ble_eq_true rfl) d_RW_join_24 (fun H locs hP hD hS => ?_)
      have hP : va_P G.1 cls [(wk, .inr (3, [.ref fr, .int w, .int (nI (c0 + 1)), .int (oI e0), .int (oI f0), .int (oI g0)]))] H := hP
      have hD : va_D A [(wk, .inr (3, [.ref fr, .int w, .int (nI (c0 + 1)), .int (oI e0), .int (oI f0), .int (oI g0)]))] := hD
      refine lv_aload_n hx hb d_RW_join_27 rfl (lv_at hl 0 rfl) ?_
      refine y_get S hk hP 0 rfl f_RW_9 rfl d_RW_join_28 ?_
      refine lv_iconst (v := nI 1) hx hb d_RW_join_31 (by decide) ?_
      refine x_isub hx hb d_RW_join_32 (by omega) ?_
      refine x_reN (b := c0) (by omega) ?_
      refine lv_aload_n hx hb d_RW_join_33 rfl (lv_at hl 0 rfl) ?_
      refine y_get S hk hP 0 rfl f_RW_28 rfl d_RW_join_34 ?_
      refine lv_icmp_ne hx hb d_RW_join_37 (tgt := 45) (by decide) (fun h37 => ?_) (fun h37 => ?_)
      · refine lv_aload_n hx hb d_RW_join_45 rfl (lv_at hl 0 rfl) ?_
        refine y_get S hk hP 0 rfl f_RW_9 rfl d_RW_join_46 ?_
        refine lv_iconst (v := nI 1) hx hb d_RW_join_49 (by decide) ?_
        refine x_isub hx hb d_RW_join_50 (by omega) ?_
        refine x_reN (b := c0) (by omega) ?_
        refine lv_aload_n hx hb d_RW_join_51 rfl (lv_at hl 0 rfl) ?_
        refine y_get S hk hP 0 rfl f_RW_28 rfl d_RW_join_52 ?_
        refine lv_icmp_ne hx hb d_RW_join_55 (tgt := 63) (by decide) (fun h55 => ?_) (fun h55 => ?_)
        · refine lv_aload_n hx hb d_RW_join_63 rfl (lv_at hl 0 rfl) ?_
          refine lv_iload_n hx hb d_RW_join_64 rfl (lv_at hl 2 rfl) ?_
          refine y_put S hk hP hD hS 0 rfl f_RW_15 T_3 M_3_3 rfl rfl (Nat.le_of_ble_eq_true rfl) d_RW_join_65 (fun H locs hP hD hS => ?_)
          have hP : va_P G.1 cls [(wk, .inr (3, [.ref fr, .int w, .int (nI (c0 + 1)), .int (oI b), .int (oI f0), .int (oI g0)]))] H := hP
          have hD : va_D A [(wk, .inr (3, [.ref fr, .int w, .int (nI (c0 + 1)), .int (oI b), .int (oI f0), .int (oI g0)]))] := hD
          exact hret _ _ (c0 + 1, b, f0, g0) _ _ (by rw [rw_j_new (by first | exact Or.inl h4 | exact Or.inr h14)]; dsimp only; rw [if_neg h55, if_neg h55]) hP hD hS d_RW_join_68
        · refine lv_aload_n hx hb d_RW_join_58 rfl (lv_at hl 0 rfl) ?_
          refine lv_iload_n hx hb d_RW_join_59 rfl (lv_at hl 2 rfl) ?_
          refine y_put S hk hP hD hS 0 rfl f_RW_21 T_3 M_3_5 rfl rfl (Nat.le_of_ble_eq_true rfl) d_RW_join_60 (fun H locs hP hD hS => ?_)
          have hP : va_P G.1 cls [(wk, .inr (3, [.ref fr, .int w, .int (nI (c0 + 1)), .int (oI e0), .int (oI f0), .int (oI b)]))] H := hP
          have hD : va_D A [(wk, .inr (3, [.ref fr, .int w, .int (nI (c0 + 1)), .int (oI e0), .int (oI f0), .int (oI b)]))] := hD
          refine lv_aload_n hx hb d_RW_join_63 rfl (lv_at hl 0 rfl) ?_
          refine lv_iload_n hx hb d_RW_join_64 rfl (lv_at hl 2 rfl) ?_
          refine y_put S hk hP hD hS 0 rfl f_RW_15 T_3 M_3_3 rfl rfl (Nat.le_of_ble_eq_true rfl) d_RW_join_65 (fun H locs hP hD hS => ?_)
          have hP : va_P G.1 cls [(wk, .inr (3, [.ref fr, .int w, .int (nI (c0 + 1)), .int (oI b), .int (oI f0), .int (oI b)]))] H := hP
          have hD : va_D A [(wk, .inr (3, [.ref fr, .int w, .int (nI (c0 + 1)), .int (oI b), .int (oI f0), .int (oI b)]))] := hD
          exact absurd h55 h37
      · refine lv_aload_n hx hb d_RW_join_40 rfl (lv_at hl 0 rfl) ?_
        refine lv_iload_n hx hb d_RW_join_41 rfl (lv_at hl 1 rfl) ?_
        refine y_put S hk hP hD hS 0 rfl f_RW_18 T_3 M_3_4 rfl rfl (Nat.le_of_ble_eq_true rfl) d_RW_join_42 (fun H locs hP hD hS => ?_)
        have hP : va_P G.1 cls [(wk, .inr (3, [.ref fr, .int w, .int (nI (c0 + 1)), .int (oI e0), .int (nI a), .int (oI g0)]))] H := hP
        have hD : va_D A [(wk, .inr (3, [.ref fr, .int w, .int (nI (c0 + 1)), .int (oI e0), .int (nI a), .int (oI g0)]))] := hD
        refine lv_aload_n hx hb d_RW_join_45 rfl (lv_at hl 0 rfl) ?_
        refine y_get S hk hP 0 rfl f_RW_9 rfl d_RW_join_46 ?_
        refine lv_iconst (v := nI 1) hx hb d_RW_join_49 (by decide) ?_
        refine x_isub hx hb d_RW_join_50 (by omega) ?_
        refine x_reN (b := c0) (by omega) ?_
        refine lv_aload_n hx hb d_RW_join_51 rfl (lv_at hl 0 rfl) ?_
        refine y_get S hk hP 0 rfl f_RW_28 rfl d_RW_join_52 ?_
        refine lv_icmp_ne hx hb d_RW_join_55 (tgt := 63) (by decide) (fun h55 => ?_) (fun h55 => ?_)
        · refine lv_aload_n hx hb d_RW_join_63 rfl (lv_at hl 0 rfl) ?_
          refine lv_iload_n hx hb d_RW_join_64 rfl (lv_at hl 2 rfl) ?_
          refine y_put S hk hP hD hS 0 rfl f_RW_15 T_3 M_3_3 rfl rfl (Nat.le_of_ble_eq_true rfl) d_RW_join_65 (fun H locs hP hD hS => ?_)
          have hP : va_P G.1 cls [(wk, .inr (3, [.ref fr, .int w, .int (nI (c0 + 1)), .int (oI b), .int (nI a), .int (oI g0)]))] H := hP
          have hD : va_D A [(wk, .inr (3, [.ref fr, .int w, .int (nI (c0 + 1)), .int (oI b), .int (nI a), .int (oI g0)]))] := hD
          exact absurd h37 h55
        · refine lv_aload_n hx hb d_RW_join_58 rfl (lv_at hl 0 rfl) ?_
          refine lv_iload_n hx hb d_RW_join_59 rfl (lv_at hl 2 rfl) ?_
          refine y_put S hk hP hD hS 0 rfl f_RW_21 T_3 M_3_5 rfl rfl (Nat.le_of_ble_eq_true rfl) d_RW_join_60 (fun H locs hP hD hS => ?_)
          have hP : va_P G.1 cls [(wk, .inr (3, [.ref fr, .int w, .int (nI (c0 + 1)), .int (oI e0), .int (nI a), .int (oI b)]))] H := hP
          have hD : va_D A [(wk, .inr (3, [.ref fr, .int w, .int (nI (c0 + 1)), .int (oI e0), .int (nI a), .int (oI b)]))] := hD
          refine lv_aload_n hx hb d_RW_join_63 rfl (lv_at hl 0 rfl) ?_
          refine lv_iload_n hx hb d_RW_join_64 rfl (lv_at hl 2 rfl) ?_
          refine y_put S hk hP hD hS 0 rfl f_RW_15 T_3 M_3_3 rfl rfl (Nat.le_of_ble_eq_true rfl) d_RW_join_65 (fun H locs hP hD hS => ?_)
          have hP : va_P G.1 cls [(wk, .inr (3, [.ref fr, .int w, .int (nI (c0 + 1)), .int (oI b), .int (nI a), .int (oI b)]))] H := hP
          have hD : va_D A [(wk, .inr (3, [.ref fr, .int w, .int (nI (c0 + 1)), .int (oI b), .int (nI a), .int (oI b)]))] := hD
          exact hret _ _ (c0 + 1, b, a + 1, b) _ _ (by rw [rw_j_new (by first | exact Or.inl h4 | exact Or.inr h14)]; dsimp only; rw [if_pos h55, if_pos h55]) hP hD hS d_RW_join_68
set_option maxHeartbeats 4000000 in
set_option maxRecDepth 100000 in
/-- visit: the walk over a square's keys -/
theorem c_RW_visit (la : Launch) (G : gG) (wk fr x0 y0 x1 y1 : Nat) (w : Int32) (M : Nat → Bool) (h0 : x0 < 2147483648) (h1 : y0 < 2147483648) (h2 : x1 < 2147483648) (h3 : y1 < 2147483648) (hne : ∀ k, (rw_k w M k).1 ≤ k ∧ (rw_k w M k).2.1 ≤ k) : ∀ l : Nat, l ≤ 15 → ∀ st x y k : Nat, st < 5 → x + 2 ^ l ≤ 32768 → y + 2 ^ l ≤ 32768 → k + 2 ^ l * 2 ^ l ≤ 1073741824 → sqM M (x0, y0, x1, y1) st l x y k → MetV la y_RW_visit b_RW_visit 9 (l + 2) (45 + 28 * l) 0 0 [.ref wk, .int (nI l), .int (nI st), .int (nI x), .int (nI y), .int (nI k)] G [(wk, .inr (3, [.ref fr, .int w, .int (nI ((rw_k w M (k)).1)), .int (oI ((rw_k w M (k)).2.1)), .int (oI ((rw_k w M (k)).2.2.1)), .int (oI ((rw_k w M (k)).2.2.2))])), (fr, .inr (2, [.int (nI x0), .int (nI y0), .int (nI x1), .int (nI y1)]))] (S := Unit) (fun _ => True) (fun _ => [(wk, .inr (3, [.ref fr, .int w, .int (nI ((rw_k w M (k + 2 ^ l * 2 ^ l)).1)), .int (oI ((rw_k w M (k + 2 ^ l * 2 ^ l)).2.1)), .int (oI ((rw_k w M (k + 2 ^ l * 2 ^ l)).2.2.1)), .int (oI ((rw_k w M (k + 2 ^ l * 2 ^ l)).2.2.2))])), (fr, .inr (2, [.int (nI x0), .int (nI y0), .int (nI x1), .int (nI y1)]))]) := by
  intro l
  induction l with
  | zero =>
    intro hl15 st x y k hst hxb hyb hkb hsq
    have hp4 := p4_pos (0)
    have hpp := Nat.two_pow_pos (0)
    have hl2 := p2_15 hl15
    have hl4 := p4_15 hl15
    have hl22 := p22_15 hl15
    have hj := hne k
    refine MetV.mk (by decide +kernel) (Nat.le_of_ble_eq_true rfl) ?_
    intro p e s m below meth c Q A ls S hin hP hD hA hS hk hs hret hl
    have hx := S.1
    have hb := S.2.1
    have hP : va_P G.1 cls [(wk, .inr (3, [.ref fr, .int w, .int (nI ((rw_k w M k).1)), .int (oI ((rw_k w M k).2.1)), .int (oI ((rw_k w M k).2.2.1)), .int (oI ((rw_k w M k).2.2.2))])), (fr, .inr (2, [.int (nI x0), .int (nI y0), .int (nI x1), .int (nI y1)]))] s.heap := hP
    have hD : va_D A [(wk, .inr (3, [.ref fr, .int w, .int (nI ((rw_k w M k).1)), .int (oI ((rw_k w M k).2.1)), .int (oI ((rw_k w M k).2.2.1)), .int (oI ((rw_k w M k).2.2.2))])), (fr, .inr (2, [.int (nI x0), .int (nI y0), .int (nI x1), .int (nI y1)]))] := hD
    have hl : lv_has ls 9 [(0, .ref wk), (1, .int (nI 0)), (2, .int (nI st)), (3, .int (nI x)), (4, .int (nI y)), (5, .int (nI k))] := hl
    refine lv_iload_n hx hb d_RW_visit_0 rfl (lv_at hl 1 rfl) ?_
    refine lv_if_lt hx hb d_RW_visit_1 (tgt := 20) (by decide) (fun h => absurd h (by decide)) (fun _ => ?_)
    refine lv_aload_n hx hb d_RW_visit_4 rfl (lv_at hl 0 rfl) ?_
    refine y_get S hk hP 0 rfl f_RW_24 rfl d_RW_visit_5 ?_
    refine lv_iload_n hx hb d_RW_visit_8 rfl (lv_at hl 3 rfl) ?_
    refine lv_iload hx hb d_RW_visit_9 (lv_at hl 4 rfl) ?_
    refine lv_iconst (v := nI 1) hx hb d_RW_visit_11 (by decide) ?_
    refine lv_iload_n hx hb d_RW_visit_12 rfl (lv_at hl 1 rfl) ?_
    refine x_ishl hx hb d_RW_visit_13 (by omega) (by rw [Nat.one_mul]; omega) ?_
    refine x_reN (b := 2 ^ 0) (Nat.one_mul _) ?_
    refine vp_callSi (va_Run.run (run_VN S hk v_RW_31 (c_Fr_missesSquare la G fr x0 y0 x1 y1 x y (2 ^ 0) h0 h1 h2 h3 (by omega) (by omega)) ⟨rfl, rfl⟩ ⟨(by omega : 0 + 1 ≤ 0 + 2), (by omega : 8 + (4 + 11) + 0 ≤ 45 + 28 * 0)⟩ (preR_V hP hk (hs.kept (fun a h1 h2 => hS.2.1 a h1 h2)) [1] rfl 1 rfl rfl) (rest := []) rfl hl.1 rfl (Nat.le_of_ble_eq_true rfl) d_RW_visit_14 ⟨Nat.le_of_ble_eq_true rfl, Nat.le_of_ble_eq_true rfl⟩)) (fun r1 hr1 => ?_)
    rcases hr1 with ⟨rfl, m1⟩ | ⟨rfl, m1⟩
    · refine lv_if_eq hx hb d_RW_visit_17 (tgt := 21) (by decide) (fun h => absurd h (by decide)) (fun _ => ?_)
      rw [← sqM_miss hsq m1 w] at hP hD
      exact hret _ _ () _ _ trivial hP hD hS d_RW_visit_20
    · refine lv_if_eq hx hb d_RW_visit_17 (tgt := 21) (by decide) (fun _ => ?_) (fun h => absurd (by decide) h)
      refine lv_aload_n hx hb d_RW_visit_21 rfl (lv_at hl 0 rfl) ?_
      refine y_get S hk hP 0 rfl f_RW_24 rfl d_RW_visit_22 ?_
      refine lv_iload_n hx hb d_RW_visit_25 rfl (lv_at hl 3 rfl) ?_
      refine lv_iload hx hb d_RW_visit_26 (lv_at hl 4 rfl) ?_
      refine lv_iconst (v := nI 1) hx hb d_RW_visit_28 (by decide) ?_
      refine lv_iload_n hx hb d_RW_visit_29 rfl (lv_at hl 1 rfl) ?_
      refine x_ishl hx hb d_RW_visit_30 (by omega) (by rw [Nat.one_mul]; omega) ?_
      refine x_reN (b := 2 ^ 0) (Nat.one_mul _) ?_
      refine vp_callSi (va_Run.run (run_VN S hk v_RW_37 (c_Fr_holdsSquare la G fr x0 y0 x1 y1 x y (2 ^ 0) h0 h1 h2 h3 (by omega) (by omega) (by omega)) ⟨rfl, rfl⟩ ⟨(by omega : 1 + 1 ≤ 0 + 2), (by omega : 8 + (4 + 11) + 22 ≤ 45 + 28 * 0)⟩ (preR_V hP hk (hs.kept (fun a h1 h2 => hS.2.1 a h1 h2)) [1] rfl 1 rfl rfl) (rest := []) rfl hl.1 rfl (Nat.le_of_ble_eq_true rfl) d_RW_visit_31 ⟨Nat.le_of_ble_eq_true rfl, Nat.le_of_ble_eq_true rfl⟩)) (fun r2 hr2 => ?_)
      rcases hr2 with ⟨rfl, m2, m3⟩ | ⟨rfl, m2⟩
      · refine lv_if_eq hx hb d_RW_visit_34 (tgt := 54) (by decide) (fun h => absurd h (by decide)) (fun _ => ?_)
        refine lv_aload_n hx hb d_RW_visit_37 rfl (lv_at hl 0 rfl) ?_
        refine lv_iload hx hb d_RW_visit_38 (lv_at hl 5 rfl) ?_
        refine lv_iload hx hb d_RW_visit_40 (lv_at hl 5 rfl) ?_
        refine lv_iconst (v := nI 1) hx hb d_RW_visit_42 (by decide) ?_
        refine lv_iconst (v := nI 2) hx hb d_RW_visit_43 (by decide) ?_
        refine lv_iload_n hx hb d_RW_visit_44 rfl (lv_at hl 1 rfl) ?_
        refine x_imul hx hb d_RW_visit_45 ?_
        refine x_ishl hx hb d_RW_visit_46 (by omega) (by rw [Nat.one_mul]; omega) ?_
        refine x_iadd hx hb d_RW_visit_47 ?_
        refine lv_iconst (v := nI 1) hx hb d_RW_visit_48 (by decide) ?_
        refine x_isub hx hb d_RW_visit_49 (by rw [Nat.one_mul, p22]; omega) ?_
        refine x_re (y := (oI (k + 2 ^ 0 * 2 ^ 0))) (by rw [Nat.one_mul, p22]; exact oI_pr (by omega)) ?_
        refine eff_V (wr := [(fr, .inr (2, [.int (nI x0), .int (nI y0), .int (nI x1), .int (nI y1)]))]) (run_V S v_RW_40 (c_RW_join la G wk fr w (rw_k w M k).1 (rw_k w M k).2.1 (rw_k w M k).2.2.1 (rw_k w M k).2.2.2 k (k + 2 ^ 0 * 2 ^ 0) (by omega) (by omega) (by omega) _) ⟨rfl, rfl⟩ ⟨(by omega : 0 + 1 ≤ 0 + 2), (by omega : 8 + (3 + 11) + 0 ≤ 45 + 28 * 0)⟩ (preW_V hP hD hA hS hk hs [0] (by decide) rfl 0 rfl rfl) (rest := []) rfl hl.1 rfl (Nat.le_of_ble_eq_true rfl) d_RW_visit_50 ⟨Nat.le_of_ble_eq_true rfl, Nat.le_of_ble_eq_true rfl⟩) hP hD hA hS [0] [1] rfl rfl (by decide) (by decide) (fun u H locs hu hP hD hS => ?_)
        have hu : u = rw_k w M (k + 2 ^ 0 * 2 ^ 0) := hu.trans (sqM_hold hsq m2 m3 w).symm
        subst hu
        exact hret _ _ () _ _ trivial (hP.sub [1, 0] rfl) (hD.sub [1, 0] (by decide) rfl) hS d_RW_visit_53
      · refine lv_if_eq hx hb d_RW_visit_34 (tgt := 54) (by decide) (fun _ => ?_) (fun h => absurd (by decide) h)
        exact absurd (sq_one (F := (x0, y0, x1, y1)) m1) m2
  | succ l ihv =>
    intro hl15 st x y k hst hxb hyb hkb hsq
    have hp4 := p4_pos (l + 1)
    have hpp := Nat.two_pow_pos (l + 1)
    have hl2 := p2_15 hl15
    have hl4 := p4_15 hl15
    have hl22 := p22_15 hl15
    have hj := hne k
    refine MetV.mk (by decide +kernel) (Nat.le_of_ble_eq_true rfl) ?_
    intro p e s m below meth c Q A ls S hin hP hD hA hS hk hs hret hl
    have hx := S.1
    have hb := S.2.1
    have hP : va_P G.1 cls [(wk, .inr (3, [.ref fr, .int w, .int (nI ((rw_k w M k).1)), .int (oI ((rw_k w M k).2.1)), .int (oI ((rw_k w M k).2.2.1)), .int (oI ((rw_k w M k).2.2.2))])), (fr, .inr (2, [.int (nI x0), .int (nI y0), .int (nI x1), .int (nI y1)]))] s.heap := hP
    have hD : va_D A [(wk, .inr (3, [.ref fr, .int w, .int (nI ((rw_k w M k).1)), .int (oI ((rw_k w M k).2.1)), .int (oI ((rw_k w M k).2.2.1)), .int (oI ((rw_k w M k).2.2.2))])), (fr, .inr (2, [.int (nI x0), .int (nI y0), .int (nI x1), .int (nI y1)]))] := hD
    have hl : lv_has ls 9 [(0, .ref wk), (1, .int (nI (l + 1))), (2, .int (nI st)), (3, .int (nI x)), (4, .int (nI y)), (5, .int (nI k))] := hl
    refine lv_iload_n hx hb d_RW_visit_0 rfl (lv_at hl 1 rfl) ?_
    refine lv_if_lt hx hb d_RW_visit_1 (tgt := 20) (by decide) (fun h => absurd h (nI_pos (by omega))) (fun _ => ?_)
    refine lv_aload_n hx hb d_RW_visit_4 rfl (lv_at hl 0 rfl) ?_
    refine y_get S hk hP 0 rfl f_RW_24 rfl d_RW_visit_5 ?_
    refine lv_iload_n hx hb d_RW_visit_8 rfl (lv_at hl 3 rfl) ?_
    refine lv_iload hx hb d_RW_visit_9 (lv_at hl 4 rfl) ?_
    refine lv_iconst (v := nI 1) hx hb d_RW_visit_11 (by decide) ?_
    refine lv_iload_n hx hb d_RW_visit_12 rfl (lv_at hl 1 rfl) ?_
    refine x_ishl hx hb d_RW_visit_13 (by omega) (by rw [Nat.one_mul]; omega) ?_
    refine x_reN (b := 2 ^ (l + 1)) (Nat.one_mul _) ?_
    refine vp_callSi (va_Run.run (run_VN S hk v_RW_31 (c_Fr_missesSquare la G fr x0 y0 x1 y1 x y (2 ^ (l + 1)) h0 h1 h2 h3 (by omega) (by omega)) ⟨rfl, rfl⟩ ⟨(by omega : 0 + 1 ≤ (l + 1) + 2), (by omega : 8 + (4 + 11) + 0 ≤ 45 + 28 * (l + 1))⟩ (preR_V hP hk (hs.kept (fun a h1 h2 => hS.2.1 a h1 h2)) [1] rfl 1 rfl rfl) (rest := []) rfl hl.1 rfl (Nat.le_of_ble_eq_true rfl) d_RW_visit_14 ⟨Nat.le_of_ble_eq_true rfl, Nat.le_of_ble_eq_true rfl⟩)) (fun r1 hr1 => ?_)
    rcases hr1 with ⟨rfl, m1⟩ | ⟨rfl, m1⟩
    · refine lv_if_eq hx hb d_RW_visit_17 (tgt := 21) (by decide) (fun h => absurd h (by decide)) (fun _ => ?_)
      rw [← sqM_miss hsq m1 w] at hP hD
      exact hret _ _ () _ _ trivial hP hD hS d_RW_visit_20
    · refine lv_if_eq hx hb d_RW_visit_17 (tgt := 21) (by decide) (fun _ => ?_) (fun h => absurd (by decide) h)
      refine lv_aload_n hx hb d_RW_visit_21 rfl (lv_at hl 0 rfl) ?_
      refine y_get S hk hP 0 rfl f_RW_24 rfl d_RW_visit_22 ?_
      refine lv_iload_n hx hb d_RW_visit_25 rfl (lv_at hl 3 rfl) ?_
      refine lv_iload hx hb d_RW_visit_26 (lv_at hl 4 rfl) ?_
      refine lv_iconst (v := nI 1) hx hb d_RW_visit_28 (by decide) ?_
      refine lv_iload_n hx hb d_RW_visit_29 rfl (lv_at hl 1 rfl) ?_
      refine x_ishl hx hb d_RW_visit_30 (by omega) (by rw [Nat.one_mul]; omega) ?_
      refine x_reN (b := 2 ^ (l + 1)) (Nat.one_mul _) ?_
      refine vp_callSi (va_Run.run (run_VN S hk v_RW_37 (c_Fr_holdsSquare la G fr x0 y0 x1 y1 x y (2 ^ (l + 1)) h0 h1 h2 h3 (by omega) (by omega) (by omega)) ⟨rfl, rfl⟩ ⟨(by omega : 1 + 1 ≤ (l + 1) + 2), (by omega : 8 + (4 + 11) + 22 ≤ 45 + 28 * (l + 1))⟩ (preR_V hP hk (hs.kept (fun a h1 h2 => hS.2.1 a h1 h2)) [1] rfl 1 rfl rfl) (rest := []) rfl hl.1 rfl (Nat.le_of_ble_eq_true rfl) d_RW_visit_31 ⟨Nat.le_of_ble_eq_true rfl, Nat.le_of_ble_eq_true rfl⟩)) (fun r2 hr2 => ?_)
      rcases hr2 with ⟨rfl, m2, m3⟩ | ⟨rfl, m2⟩
      · refine lv_if_eq hx hb d_RW_visit_34 (tgt := 54) (by decide) (fun h => absurd h (by decide)) (fun _ => ?_)
        refine lv_aload_n hx hb d_RW_visit_37 rfl (lv_at hl 0 rfl) ?_
        refine lv_iload hx hb d_RW_visit_38 (lv_at hl 5 rfl) ?_
        refine lv_iload hx hb d_RW_visit_40 (lv_at hl 5 rfl) ?_
        refine lv_iconst (v := nI 1) hx hb d_RW_visit_42 (by decide) ?_
        refine lv_iconst (v := nI 2) hx hb d_RW_visit_43 (by decide) ?_
        refine lv_iload_n hx hb d_RW_visit_44 rfl (lv_at hl 1 rfl) ?_
        refine x_imul hx hb d_RW_visit_45 ?_
        refine x_ishl hx hb d_RW_visit_46 (by omega) (by rw [Nat.one_mul]; omega) ?_
        refine x_iadd hx hb d_RW_visit_47 ?_
        refine lv_iconst (v := nI 1) hx hb d_RW_visit_48 (by decide) ?_
        refine x_isub hx hb d_RW_visit_49 (by rw [Nat.one_mul, p22]; omega) ?_
        refine x_re (y := (oI (k + 2 ^ (l + 1) * 2 ^ (l + 1)))) (by rw [Nat.one_mul, p22]; exact oI_pr (by omega)) ?_
        refine eff_V (wr := [(fr, .inr (2, [.int (nI x0), .int (nI y0), .int (nI x1), .int (nI y1)]))]) (run_V S v_RW_40 (c_RW_join la G wk fr w (rw_k w M k).1 (rw_k w M k).2.1 (rw_k w M k).2.2.1 (rw_k w M k).2.2.2 k (k + 2 ^ (l + 1) * 2 ^ (l + 1)) (by omega) (by omega) (by omega) _) ⟨rfl, rfl⟩ ⟨(by omega : 0 + 1 ≤ (l + 1) + 2), (by omega : 8 + (3 + 11) + 0 ≤ 45 + 28 * (l + 1))⟩ (preW_V hP hD hA hS hk hs [0] (by decide) rfl 0 rfl rfl) (rest := []) rfl hl.1 rfl (Nat.le_of_ble_eq_true rfl) d_RW_visit_50 ⟨Nat.le_of_ble_eq_true rfl, Nat.le_of_ble_eq_true rfl⟩) hP hD hA hS [0] [1] rfl rfl (by decide) (by decide) (fun u H locs hu hP hD hS => ?_)
        have hu : u = rw_k w M (k + 2 ^ (l + 1) * 2 ^ (l + 1)) := hu.trans (sqM_hold hsq m2 m3 w).symm
        subst hu
        exact hret _ _ () _ _ trivial (hP.sub [1, 0] rfl) (hD.sub [1, 0] (by decide) rfl) hS d_RW_visit_53
      · refine lv_if_eq hx hb d_RW_visit_34 (tgt := 54) (by decide) (fun _ => ?_) (fun h => absurd (by decide) h)
        refine lv_iload_n hx hb d_RW_visit_54 rfl (lv_at hl 1 rfl) ?_
        refine lv_iconst (v := nI 1) hx hb d_RW_visit_55 (by decide) ?_
        refine x_isub hx hb d_RW_visit_56 (by omega) ?_
        refine x_reN (b := l) (by omega) ?_
        refine lv_istore hx hb d_RW_visit_57 hl (by decide) rfl (fun ls hl => ?_)
        have hl : lv_has ls 9 [(6, .int (nI l)), (0, .ref wk), (1, .int (nI (l + 1))), (2, .int (nI st)), (3, .int (nI x)), (4, .int (nI y)), (5, .int (nI k))] := hl
        refine lv_iconst (v := nI 0) hx hb d_RW_visit_59 (by decide) ?_
        refine lv_istore hx hb d_RW_visit_60 hl (by decide) rfl (fun ls hl => ?_)
        have hl : lv_has ls 9 [(7, .int (nI 0)), (6, .int (nI l)), (0, .ref wk), (1, .int (nI (l + 1))), (2, .int (nI st)), (3, .int (nI x)), (4, .int (nI y)), (5, .int (nI k))] := hl
        have hp4' := p4_s l
        have hp2' := p2_s l
        have e22 := p22 l
        refine (?_ : ∀ (d : Nat) (q : Nat) (u : rw_S) (H : Heap) (locs : List Loc) (ls : Array Slot), 4 - q < d → lv_has ls 9 [(7, .int (nI q)), (6, .int (nI l)), (0, .ref wk), (1, .int (nI (l + 1))), (2, .int (nI st)), (3, .int (nI x)), (4, .int (nI y)), (5, .int (nI k))] → va_P G.1 cls [(wk, .inr (3, [.ref fr, .int w, .int (nI u.1), .int (oI u.2.1), .int (oI u.2.2.1), .int (oI u.2.2.2)])), (fr, .inr (2, [.int (nI x0), .int (nI y0), .int (nI x1), .int (nI y1)]))] H → va_D A [(wk, .inr (3, [.ref fr, .int w, .int (nI u.1), .int (oI u.2.1), .int (oI u.2.2.1), .int (oI u.2.2.2)])), (fr, .inr (2, [.int (nI x0), .int (nI y0), .int (nI x1), .int (nI y1)]))] → va_S A s.heap H locs → (q ≤ 4) → (u = rw_k w M (k + q * 2 ^ (2 * l))) → W p la e _ s m _ below meth c H locs 0 0 Q (F0 m 62 ls [])) (4 - 0 + 1) 0 (rw_k w M k) _ _ ls (Nat.lt_succ_self _) hl hP hD hS (by omega) (by rw [Nat.zero_mul, Nat.add_zero])
        intro d
        induction d with
        | zero => intro q u H locs ls hd; exact absurd hd (Nat.not_lt_zero _)
        | succ d ih =>
          intro q u H locs ls hd hl hP hD hS hq hu
          subst hu
          refine lv_iload hx hb d_RW_visit_62 (lv_at hl 0 rfl) ?_
          refine lv_iconst (v := nI 4) hx hb d_RW_visit_64 (by decide) ?_
          refine x_icmp_ge hx hb d_RW_visit_65 (tgt := 131) (by decide) (by omega) (by omega) (fun h65 => ?_) (fun h65 => ?_)
          · have e4 : k + q * 2 ^ (2 * l) = k + 2 ^ (l + 1) * 2 ^ (l + 1) := by rw [p4_s, p22, show q = 4 by omega]
            rw [e4] at hP hD
            exact hret _ _ () _ _ trivial (hP.sub [0, 1] rfl) (hD.sub [0, 1] (by decide) rfl) hS d_RW_visit_131
          · refine y_getsN S hk hs.2.1 hS s_RW_44 d_RW_visit_68 ?_
            refine lv_iconst (v := nI 4) hx hb d_RW_visit_71 (by decide) ?_
            refine lv_iload_n hx hb d_RW_visit_72 rfl (lv_at hl 4 rfl) ?_
            refine x_imul hx hb d_RW_visit_73 ?_
            refine lv_iload hx hb d_RW_visit_74 (lv_at hl 0 rfl) ?_
            refine x_iadd hx hb d_RW_visit_76 ?_
            refine y_ti hx hb hs.2.1 hS (by omega) d_RW_visit_77 ?_
            have hQ := tQS_lt (4 * st + q) (by omega)
            have hd1 : tQS (4 * st + q) / 2 ^ 1 < 2 := by rw [Nat.pow_one]; omega
            have hm1 : tQS (4 * st + q) / 2 ^ 1 * 2 ^ l ≤ 1 * 2 ^ l := Nat.mul_le_mul_right _ (by omega)
            have hm2 : tQS (4 * st + q) % 2 * 2 ^ l ≤ 1 * 2 ^ l := Nat.mul_le_mul_right _ (by omega)
            have hm3 : q * 2 ^ (2 * l) ≤ 3 * 2 ^ (2 * l) := Nat.mul_le_mul_right _ (by omega)
            rw [Nat.one_mul] at hm1 hm2
            refine lv_istore hx hb d_RW_visit_78 hl (by decide) rfl (fun ls hl => ?_)
            have hl : lv_has ls 9 [(8, .int (nI (tQS ((4 * st) + q)))), (7, .int (nI q)), (6, .int (nI l)), (0, .ref wk), (1, .int (nI (l + 1))), (2, .int (nI st)), (3, .int (nI x)), (4, .int (nI y)), (5, .int (nI k))] := hl
            refine lv_aload_n hx hb d_RW_visit_80 rfl (lv_at hl 3 rfl) ?_
            refine lv_iload hx hb d_RW_visit_81 (lv_at hl 2 rfl) ?_
            refine y_getsN S hk hs.2.2 hS s_RW_48 d_RW_visit_83 ?_
            refine lv_iconst (v := nI 4) hx hb d_RW_visit_86 (by decide) ?_
            refine lv_iload_n hx hb d_RW_visit_87 rfl (lv_at hl 5 rfl) ?_
            refine x_imul hx hb d_RW_visit_88 ?_
            refine lv_iload hx hb d_RW_visit_89 (lv_at hl 1 rfl) ?_
            refine x_iadd hx hb d_RW_visit_91 ?_
            refine y_ti hx hb hs.2.2 hS (by omega) d_RW_visit_92 ?_
            refine lv_iload_n hx hb d_RW_visit_93 rfl (lv_at hl 6 rfl) ?_
            refine lv_iload hx hb d_RW_visit_94 (lv_at hl 0 rfl) ?_
            refine lv_iconst (v := nI 1) hx hb d_RW_visit_96 (by decide) ?_
            refine x_ishr hx hb d_RW_visit_97 (by omega) (by omega) ?_
            refine lv_iload hx hb d_RW_visit_98 (lv_at hl 2 rfl) ?_
            refine x_ishl hx hb d_RW_visit_100 (by omega) (by omega) ?_
            refine x_iadd hx hb d_RW_visit_101 ?_
            refine lv_iload hx hb d_RW_visit_102 (lv_at hl 7 rfl) ?_
            refine lv_iload hx hb d_RW_visit_104 (lv_at hl 0 rfl) ?_
            refine lv_iconst (v := nI 1) hx hb d_RW_visit_106 (by decide) ?_
            refine x_iand1 hx hb d_RW_visit_107 (by omega) ?_
            refine lv_iload hx hb d_RW_visit_108 (lv_at hl 2 rfl) ?_
            refine x_ishl hx hb d_RW_visit_110 (by omega) (by omega) ?_
            refine x_iadd hx hb d_RW_visit_111 ?_
            refine lv_iload hx hb d_RW_visit_112 (lv_at hl 8 rfl) ?_
            refine lv_iload hx hb d_RW_visit_114 (lv_at hl 1 rfl) ?_
            refine lv_iconst (v := nI 2) hx hb d_RW_visit_116 (by decide) ?_
            refine lv_iload hx hb d_RW_visit_117 (lv_at hl 2 rfl) ?_
            refine x_imul hx hb d_RW_visit_119 ?_
            refine x_ishl hx hb d_RW_visit_120 (by omega) (by omega) ?_
            refine x_iadd hx hb d_RW_visit_121 ?_
            refine eff_V (wr := []) (run_S S v_RW_51 (ihv (by omega) (tSS (4 * st + q)) (x + tQS (4 * st + q) / 2 ^ 1 * 2 ^ l) (y + tQS (4 * st + q) % 2 * 2 ^ l) (k + q * 2 ^ (2 * l)) (tSS_lt _ (by omega)) (by omega) (by omega) (by omega) (sqM_step hst (by omega) hsq) _) ⟨rfl, rfl⟩ ⟨(by omega : l + 2 + 1 ≤ l + 1 + 2), (by omega : 8 + (9 + 11) + (45 + 28 * l) ≤ 45 + 28 * (l + 1))⟩ (preW_S hP hD hA hS hk hs [0, 1] (by decide) rfl) (rest := []) rfl hl.1 rfl (Nat.le_of_ble_eq_true rfl) d_RW_visit_122 ⟨Nat.le_of_ble_eq_true rfl, Nat.le_of_ble_eq_true rfl⟩) hP hD hA hS [0, 1] [] rfl rfl (by decide) (by decide) (fun u H locs hu hP hD hS => ?_)
            have hP : va_P G.1 cls [(wk, .inr (3, [.ref fr, .int w, .int (nI ((rw_k w M (k + q * 2 ^ (2 * l) + 2 ^ l * 2 ^ l)).1)), .int (oI ((rw_k w M (k + q * 2 ^ (2 * l) + 2 ^ l * 2 ^ l)).2.1)), .int (oI ((rw_k w M (k + q * 2 ^ (2 * l) + 2 ^ l * 2 ^ l)).2.2.1)), .int (oI ((rw_k w M (k + q * 2 ^ (2 * l) + 2 ^ l * 2 ^ l)).2.2.2))])), (fr, .inr (2, [.int (nI x0), .int (nI y0), .int (nI x1), .int (nI y1)]))] H := hP
            have hD : va_D A [(wk, .inr (3, [.ref fr, .int w, .int (nI ((rw_k w M (k + q * 2 ^ (2 * l) + 2 ^ l * 2 ^ l)).1)), .int (oI ((rw_k w M (k + q * 2 ^ (2 * l) + 2 ^ l * 2 ^ l)).2.1)), .int (oI ((rw_k w M (k + q * 2 ^ (2 * l) + 2 ^ l * 2 ^ l)).2.2.1)), .int (oI ((rw_k w M (k + q * 2 ^ (2 * l) + 2 ^ l * 2 ^ l)).2.2.2))])), (fr, .inr (2, [.int (nI x0), .int (nI y0), .int (nI x1), .int (nI y1)]))] := hD
            refine lv_iinc (v := nI (q + 1)) hx hb d_RW_visit_125 hl (k := 1) rfl (ii_p _ 1) (by decide) rfl (fun ls hl => ?_)
            have hl : lv_has ls 9 [(7, .int (nI (q + 1))), (8, .int (nI (tQS ((4 * st) + q)))), (6, .int (nI l)), (0, .ref wk), (1, .int (nI (l + 1))), (2, .int (nI st)), (3, .int (nI x)), (4, .int (nI y)), (5, .int (nI k))] := hl
            refine lv_goto hx hb d_RW_visit_128 (tgt := 62) (by decide) ?_
            have hl := lv_sub hl [0, 2, 3, 4, 5, 6, 7, 8] rfl
            exact ih (q + 1) (rw_k w M (k + q * 2 ^ (2 * l) + 2 ^ l * 2 ^ l)) _ _ _ (by omega) hl hP hD hS (by omega) (by rw [Nat.add_mul, Nat.one_mul, p22, Nat.add_assoc])
end
section
/-! what each call must answer, in numbers; the class's state -/
def wM (cu N : Nat) (F : fQ) (k : Nat) : Bool := inF F.1 F.2.1 F.2.2.1 F.2.2.2 (kc cu N k).1 (kc cu N k).2
def cellsF (F : fQ) : Nat := (F.2.2.1 - F.1 + 1) * (F.2.2.2 - F.2.1 + 1)
def keyS (L : Nat) (cu x y r : Int32) : Prop := (∃ k a b, k < 2 ∧ a < 2 ^ L ∧ b < 2 ^ L ∧ cu = nI k ∧ x = nI a ∧ y = nI b ∧ r = nI (kk k L a b)) ∨ (¬ (cuO cu ∧ inC L x y) ∧ r = -1)
def isK (L : Nat) (x : Int32) : Prop := ∃ j, j < 2 ^ L * 2 ^ L ∧ x = nI j
def cellS (L : Nat) (cu x r : Int32) : Prop := (∃ k j, k < 2 ∧ j < 2 ^ L * 2 ^ L ∧ cu = nI k ∧ x = nI j ∧ r = nI ((kc k L j).1 * 2 ^ L + (kc k L j).2)) ∨ (¬ (cuO cu ∧ isK L x) ∧ r = -1)
def atS (L n : Nat) (C V : Nat → Nat) (x y r : Int32) : Prop := (∃ a b, a < 2 ^ L ∧ b < 2 ^ L ∧ x = nI a ∧ y = nI b ∧ r = nI (wt n C V (a * 2 ^ L + b))) ∨ (¬ inC L x y ∧ r = -1)
def nthQ (L : Nat) (F : fQ) (n : Nat) (C : Nat → Nat) (n' : Nat) (C' : Nat → Nat) (cu i r : Int32) : Prop := (cu = nI 0 ∧ nthS 0 L F n C i r) ∨ (cu = nI 1 ∧ nthS 1 L F n' C' i r) ∨ (¬ cuO cu ∧ r = -1)
def nearQ (L n : Nat) (C : Nat → Nat) (x y r : Int32) : Prop := (∃ a b, a < 2 ^ L ∧ b < 2 ^ L ∧ x = nI a ∧ y = nI b ∧ nearS L a b n C r) ∨ (¬ inC L x y ∧ r = -1)
def runsS (L : Nat) (F : fQ) (cu r : Int32) : Prop := (∃ k, k < 2 ∧ cu = nI k ∧ cellsF F ≤ 4096 ∧ r = nI (rw_k (-1) (wM k L F) (2 ^ L * 2 ^ L)).1) ∨ (¬ (cuO cu ∧ cellsF F ≤ 4096) ∧ r = -1)
def runS (L : Nat) (F : fQ) (cu i wh r : Int32) : Prop := (∃ k j, k < 2 ∧ cu = nI k ∧ j < 2147483648 ∧ i = nI j ∧ cellsF F ≤ 4096 ∧ ((wh = nI 0 ∧ r = oI (rw_k (nI j) (wM k L F) (2 ^ L * 2 ^ L)).2.2.1) ∨ (wh = nI 1 ∧ r = oI (rw_k (nI j) (wM k L F) (2 ^ L * 2 ^ L)).2.2.2))) ∨ (¬ (cuO cu ∧ cellsF F ≤ 4096 ∧ ¬ i < 0 ∧ (wh = nI 0 ∨ wh = nI 1)) ∧ r = -1)
def putO (L n : Nat) (C V : Nat → Nat) (x y w : Int32) : Prop := ∃ a b k, a < 2 ^ L ∧ b < 2 ^ L ∧ 1 ≤ k ∧ k ≤ 999 ∧ x = nI a ∧ y = nI b ∧ w = nI k ∧ (wt n C V (a * 2 ^ L + b) ≠ 0 ∨ n < 500)
def begO (n : Int32) : Prop := ∃ j, 1 ≤ j ∧ j ≤ 15 ∧ n = nI j
def winO (L : Nat) (x0 y0 x1 y1 : Int32) : Prop := ∃ a b a' b', a ≤ a' ∧ a' < 2 ^ L ∧ b ≤ b' ∧ b' < 2 ^ L ∧ x0 = nI a ∧ y0 = nI b ∧ x1 = nI a' ∧ y1 = nI b'
/-- the class's state: the level, the weave's row, the turn's row, the window -/
abbrev cS : Type := Nat × rS × rS × fQ
def okF (L : Nat) (F : fQ) : Prop := F.1 ≤ F.2.2.1 ∧ F.2.2.1 < 2 ^ L ∧ F.2.1 ≤ F.2.2.2 ∧ F.2.2.2 < 2 ^ L
def bdr (r : rS) : Prop := bd r.2.1 ∧ bd r.2.2.1 ∧ bd r.2.2.2
def okC (u : cS) : Prop := (1 ≤ u.1 ∧ u.1 ≤ 15) ∧ okr 0 u.1 u.2.1.1 u.2.1.2.1 u.2.1.2.2.1 u.2.1.2.2.2 ∧ okr 1 u.1 u.2.2.1.1 u.2.2.1.2.1 u.2.2.1.2.2.1 u.2.2.1.2.2.2 ∧ bdr u.2.1 ∧ bdr u.2.2.1 ∧ okF u.1 u.2.2.2 ∧ same u.2.1.1 u.2.1.2.2.1 u.2.1.2.2.2 u.2.2.1.1 u.2.2.1.2.2.1 u.2.2.1.2.2.2
theorem okF.b {L : Nat} {F : fQ} (h : okF L F) (hL : L ≤ 15) : F.1 < 32768 ∧ F.2.1 < 32768 ∧ F.2.2.1 < 32768 ∧ F.2.2.2 < 32768 := by
  have := p2_15 hL
  obtain ⟨a, b, c, d⟩ := h
  omega
theorem ke_31 {cu L c : Nat} (hL : L ≤ 15) (hc : c < 2 ^ L * 2 ^ L) : ke cu L c < 2147483648 := by
  have := ke_lt (cu := cu) hc
  have := p4_15 hL
  omega
theorem ins_1 {N : Nat} {F : fQ} {q : Nat} {C : Nat → Nat} (h : inc N F (C q) = true) : ins N F (q + 1) C = ins N F q C + 1 := by
  unfold ins
  rw [sg_s, if_pos h]
theorem ins_0 {N : Nat} {F : fQ} {q : Nat} {C : Nat → Nat} (h : inc N F (C q) = false) : ins N F (q + 1) C = ins N F q C := by
  unfold ins
  rw [sg_s, h, if_neg (by decide)]
  rfl
theorem sum_1 {N : Nat} {F : fQ} {q : Nat} {C V : Nat → Nat} (h : inc N F (C q) = true) : sum N F (q + 1) C V = sum N F q C V + V q := by
  unfold sum
  rw [sg_s, if_pos h]
theorem sum_0 {N : Nat} {F : fQ} {q : Nat} {C V : Nat → Nat} (h : inc N F (C q) = false) : sum N F (q + 1) C V = sum N F q C V := by
  unfold sum
  rw [sg_s, h, if_neg (by decide)]
  rfl
theorem ins_le {N : Nat} {F : fQ} {q : Nat} {C : Nat → Nat} : ins N F q C ≤ q := by
  have := sg_le (n := q) (f := fun i => if inc N F (C i) = true then 1 else 0) (g := fun _ => 1) (fun i _ => by (try dsimp only); split <;> omega)
  rwa [sg_one] at this
theorem rw_k_le (w : Int32) (M : Nat → Bool) (k : Nat) : (rw_k w M k).1 ≤ k ∧ (rw_k w M k).2.1 ≤ k := by
  induction k with
  | zero => exact ⟨Nat.le_refl _, Nat.le_refl _⟩
  | succ k ih =>
    show (if M k then rw_j w k (k + 1) (rw_k w M k) else rw_k w M k).1 ≤ k + 1 ∧ (if M k then rw_j w k (k + 1) (rw_k w M k) else rw_k w M k).2.1 ≤ k + 1
    split
    · unfold rw_j
      split
      · exact ⟨by show (rw_k w M k).1 + 1 ≤ k + 1; omega, Nat.le_refl _⟩
      · exact ⟨by show (rw_k w M k).1 ≤ k + 1; omega, Nat.le_refl _⟩
    · omega
theorem nI_m1 {a : Nat} (h : a < 2147483648) : nI a ≠ -1 := by
  intro e
  have : (nI a).toInt = -1 := by rw [e]; rfl
  rw [nI_toInt h] at this
  omega
theorem ng_lt {x : Int32} {b : Nat} (h : x < 0) (hb : b < 2147483648) : x < nI b := by
  rw [Int32.lt_iff_toInt_lt] at h ⊢
  rw [nI_toInt hb]
  have : (0 : Int32).toInt = 0 := rfl
  omega
theorem ng_le {x : Int32} {b : Nat} (h : x < 0) (hb : b < 2147483648) : x ≤ nI b := by
  rw [Int32.le_iff_toInt_le]
  rw [Int32.lt_iff_toInt_lt] at h
  rw [nI_toInt hb]
  have : (0 : Int32).toInt = 0 := rfl
  omega
theorem cuO_01 {x : Int32} (h : cuO x) : x = nI 0 ∨ x = nI 1 := by
  obtain ⟨k, hk, rfl⟩ := h
  have e : k = 0 ∨ k = 1 := by omega
  rcases e with rfl | rfl
  · exact Or.inl rfl
  · exact Or.inr rfl
theorem cuO_0 : cuO (nI 0) := ⟨0, by omega, rfl⟩
theorem cuO_1 : cuO (nI 1) := ⟨1, by omega, rfl⟩
theorem dq_lt {N x y c : Nat} (hN : N ≤ 15) (hx : x < 2 ^ N) (hy : y < 2 ^ N) (hc : c < 2 ^ N * 2 ^ N) : dq N x y c < 2 ^ 40 := by
  obtain ⟨a, b⟩ := cl_of hc
  have := p2_15 hN
  have h1 := sqd_lt (a := x) (b := c / 2 ^ N) (by omega) (by omega)
  have h2 := sqd_lt (a := y) (b := c % 2 ^ N) (by omega) (by omega)
  unfold dq
  omega
/-- the least so far, in the order of the turn's keys -/
def nrI (L a b : Nat) (C : Nat → Nat) (q : Nat) (bb : Int32) (dd : Int64) : Prop :=
  (q = 0 ∧ bb = -1) ∨ ∃ j, j < q ∧ bb = nI (C j) ∧ dd = lN (dq L a b (C j)) ∧ ∀ k, k < q → dq L a b (C j) < dq L a b (C k) ∨ (dq L a b (C j) = dq L a b (C k) ∧ j ≤ k)
theorem nrI_new {L a b : Nat} {C : Nat → Nat} {q : Nat} {bb : Int32} {dd : Int64} (h : nrI L a b C q bb dd) (hb : ∀ j, j < q → C j < 2147483648) (he : bb = -1) : nrI L a b C (q + 1) (nI (C q)) (lN (dq L a b (C q))) := by
  rcases h with ⟨rfl, -⟩ | ⟨j, h1, h2, -⟩
  · exact Or.inr ⟨0, by omega, rfl, rfl, fun k hk => by obtain rfl : k = 0 := (by omega); exact Or.inr ⟨rfl, Nat.le_refl _⟩⟩
  · exact absurd (h2.symm.trans he) (nI_m1 (hb j h1))
theorem nrI_lt {L a b : Nat} {C : Nat → Nat} {q : Nat} {bb : Int32} {dd : Int64} (h : nrI L a b C q bb dd) (hd : ∀ j, j ≤ q → dq L a b (C j) < 2 ^ 40) (hne : ¬ bb = -1) (hlt : lN (dq L a b (C q)) < dd) : nrI L a b C (q + 1) (nI (C q)) (lN (dq L a b (C q))) := by
  rcases h with ⟨rfl, e⟩ | ⟨j, h1, h2, h3, h4⟩
  · exact absurd e hne
  · rw [h3, pk_lLT (by have := hd q (by omega); omega) (by have := hd j (by omega); omega)] at hlt
    refine Or.inr ⟨q, by omega, rfl, rfl, fun k hk => ?_⟩
    rcases Nat.lt_or_ge k q with g | g
    · rcases h4 k g with z | z <;> exact Or.inl (by omega)
    · obtain rfl : k = q := (by omega)
      exact Or.inr ⟨rfl, Nat.le_refl _⟩
theorem nrI_ge {L a b : Nat} {C : Nat → Nat} {q : Nat} {bb : Int32} {dd : Int64} (h : nrI L a b C q bb dd) (hd : ∀ j, j ≤ q → dq L a b (C j) < 2 ^ 40) (hne : ¬ bb = -1) (hge : dd ≤ lN (dq L a b (C q))) : nrI L a b C (q + 1) bb dd := by
  rcases h with ⟨rfl, e⟩ | ⟨j, h1, h2, h3, h4⟩
  · exact absurd e hne
  · rw [h3, pk_lLE (by have := hd j (by omega); omega) (by have := hd q (by omega); omega)] at hge
    refine Or.inr ⟨j, by omega, h2, h3, fun k hk => ?_⟩
    rcases Nat.lt_or_ge k q with g | g
    · exact h4 k g
    · obtain rfl : k = q := (by omega)
      rcases Nat.lt_or_ge (dq L a b (C j)) (dq L a b (C k)) with z | z
      · exact Or.inl z
      · exact Or.inr ⟨by omega, by omega⟩
theorem nrI_end {L a b n : Nat} {K C V : Nat → Nat} {bb : Int32} {dd : Int64} (hr : okr 1 L n K C V) (h : nrI L a b C n bb dd) : nearS L a b n C bb := by
  rcases h with ⟨rfl, e⟩ | ⟨j, h1, h2, h3, h4⟩
  · exact Or.inl ⟨rfl, e⟩
  · refine Or.inr ⟨j, h1, h2, fun k hk => ?_⟩
    rcases h4 k hk with z | ⟨z1, z2⟩
    · exact Or.inl z
    · refine Or.inr ⟨z1, ?_⟩
      rcases Nat.lt_or_ge j k with g | g
      · have := hr.2.2 j k g hk
        rw [(hr.2.1 j h1).2.1, (hr.2.1 k hk).2.1] at this
        omega
      · obtain rfl : j = k := (by omega)
        exact Nat.le_refl _
theorem lg_lt_of {x y : Int64} (h : ¬ 0 ≤ lg_cmp x y) : x < y := by
  rw [lg_cmp_ge] at h
  rcases lg_tri x y with g | g | g
  · exact g
  · exact absurd (by rw [g]; exact Int64.le_refl _) h
  · exact absurd (Int64.le_iff_toInt_le.mpr (by rw [Int64.lt_iff_toInt_lt] at g; omega)) h
end
section
/-! the class's public methods that only read (laid by gen/m5.py) -/
set_option maxHeartbeats 4000000 in
set_option maxRecDepth 100000 in
theorem c_CI_key (la : Launch) (G : gG) (o rw kw_ cw_ vw_ rt kt_ ct_ vt_ fr L nw nt x0 y0 x1 y1 : Nat) (Kw Cw Vw Kt Ct Vt : Nat → Nat) (cu x y : Int32) (hC : okC (L, (nw, Kw, Cw, Vw), (nt, Kt, Ct, Vt), (x0, y0, x1, y1))) : MetR la y_CI_key b_CI_key 4 .int 2 48 [.ref o, .int cu, .int x, .int y] G [(o, .inr (0, [.ref rw, .ref rt, .int (nI L), .ref fr])), (rw, .inr (1, [.ref kw_, .ref cw_, .ref vw_, .int (nI nw)])), (kw_, .inl (G.2.1, 500, .inl (fun zz => nI (Kw zz)))), (cw_, .inl (G.2.1, 500, .inl (fun zz => nI (Cw zz)))), (vw_, .inl (G.2.1, 500, .inl (fun zz => nI (Vw zz)))), (rt, .inr (1, [.ref kt_, .ref ct_, .ref vt_, .int (nI nt)])), (kt_, .inl (G.2.1, 500, .inl (fun zz => nI (Kt zz)))), (ct_, .inl (G.2.1, 500, .inl (fun zz => nI (Ct zz)))), (vt_, .inl (G.2.1, 500, .inl (fun zz => nI (Vt zz)))), (fr, .inr (2, [.int (nI x0), .int (nI y0), .int (nI x1), .int (nI y1)]))] (fun r => keyS L cu x y r) := by
  refine MetR.mk (by decide +kernel) (Nat.le_of_ble_eq_true rfl) ?_
  intro p e s m below meth c Q ls S hP hk hs hret hl
  have hx := S.1
  have hb := S.2.1
  obtain ⟨⟨hL1, hL⟩, hrw, hrt, ⟨hKw, hCw, hVw⟩, ⟨hKt, hCt, hVt⟩, hF, hsm⟩ := hC
  dsimp only at hL1 hL hrw hrt hKw hCw hVw hKt hCt hVt hF hsm
  have hFb := hF.b hL
  obtain ⟨hf1, hf2, hf3, hf4⟩ := hF
  dsimp only at hf1 hf2 hf3 hf4 hFb
  have hp2 := p2_15 hL
  have hp4 := p4_15 hL
  have hpp := Nat.two_pow_pos L
  have hnw := hrw.1
  have hnt := hrt.1
  have hl : lv_has ls 4 [(0, .ref o), (1, .int cu), (2, .int x), (3, .int y)] := hl
  refine lv_iload_n hx hb d_CI_key_0 rfl (lv_at hl 1 rfl) ?_
  refine vp_callSi (va_Run.run (run_S S v_CI_35 (c_CI_isCurve la G cu) ⟨rfl, rfl⟩ ⟨Nat.le_of_ble_eq_true rfl, Nat.le_of_ble_eq_true rfl⟩ (preR_S hP hk hs [] rfl) (rest := []) rfl hl.1 rfl (Nat.le_of_ble_eq_true rfl) d_CI_key_1 ⟨Nat.le_refl _, Nat.le_refl _⟩)) (fun r1 hr1 => ?_)
  rcases hr1 with ⟨rfl, k, hk', rfl⟩ | ⟨rfl, q1⟩
  · have hl : lv_has ls 4 [(0, .ref o), (1, .int (nI k)), (2, .int x), (3, .int y)] := hl
    refine lv_if_eq hx hb d_CI_key_4 (tgt := 26) (by decide) (fun h => absurd h (by decide)) (fun _ => ?_)
    refine lv_aload_n hx hb d_CI_key_7 rfl (lv_at hl 0 rfl) ?_
    refine lv_iload_n hx hb d_CI_key_8 rfl (lv_at hl 2 rfl) ?_
    refine lv_iload_n hx hb d_CI_key_9 rfl (lv_at hl 3 rfl) ?_
    refine vp_callSi (va_Run.run (run_V S v_CI_39 (c_CI_isCell la G o rw rt fr L x y hL) ⟨rfl, rfl⟩ ⟨Nat.le_of_ble_eq_true rfl, Nat.le_of_ble_eq_true rfl⟩ (preR_V hP hk hs [0] rfl 0 rfl rfl) (rest := []) rfl hl.1 rfl (Nat.le_of_ble_eq_true rfl) d_CI_key_10 ⟨Nat.le_refl _, Nat.le_refl _⟩)) (fun r2 hr2 => ?_)
    rcases hr2 with ⟨rfl, a, b, ha, hb', rfl, rfl⟩ | ⟨rfl, q2⟩
    · have hl : lv_has ls 4 [(0, .ref o), (1, .int (nI k)), (2, .int (nI a)), (3, .int (nI b))] := hl
      refine lv_if_eq hx hb d_CI_key_13 (tgt := 26) (by decide) (fun h => absurd h (by decide)) (fun _ => ?_)
      refine lv_aload_n hx hb d_CI_key_16 rfl (lv_at hl 0 rfl) ?_
      refine lv_iload_n hx hb d_CI_key_17 rfl (lv_at hl 1 rfl) ?_
      refine lv_iload_n hx hb d_CI_key_18 rfl (lv_at hl 2 rfl) ?_
      refine lv_iload_n hx hb d_CI_key_19 rfl (lv_at hl 3 rfl) ?_
      refine vp_callSi (va_Run.run (run_V S v_CI_43 (c_CI_keyOf la G o rw rt fr L k a b hL hL1 hk' ha hb') ⟨rfl, rfl⟩ ⟨Nat.le_of_ble_eq_true rfl, Nat.le_of_ble_eq_true rfl⟩ (preR_V hP hk hs [0] rfl 0 rfl rfl) (rest := []) rfl hl.1 rfl (Nat.le_of_ble_eq_true rfl) d_CI_key_20 ⟨Nat.le_refl _, Nat.le_refl _⟩)) (fun r3 hr3 => ?_)
      subst hr3
      refine lv_goto hx hb d_CI_key_23 (tgt := 27) (by decide) ?_
      exact hret _ _ _ rfl (Or.inl ⟨k, a, b, hk', ha, hb', rfl, rfl, rfl, rfl⟩) d_CI_key_27
    · refine lv_if_eq hx hb d_CI_key_13 (tgt := 26) (by decide) (fun _ => ?_) (fun h => absurd (by decide) h)
      refine lv_iconst (v := (-1)) hx hb d_CI_key_26 (by decide) ?_
      exact hret _ _ _ rfl (Or.inr ⟨by first | exact fun z => q1 z.1 | exact fun z => q2 z.2, rfl⟩) d_CI_key_27
  · refine lv_if_eq hx hb d_CI_key_4 (tgt := 26) (by decide) (fun _ => ?_) (fun h => absurd (by decide) h)
    refine lv_iconst (v := (-1)) hx hb d_CI_key_26 (by decide) ?_
    exact hret _ _ _ rfl (Or.inr ⟨by first | exact fun z => q1 z.1 | exact fun z => q2 z.2, rfl⟩) d_CI_key_27
set_option maxHeartbeats 4000000 in
set_option maxRecDepth 100000 in
theorem c_CI_cell (la : Launch) (G : gG) (o rw kw_ cw_ vw_ rt kt_ ct_ vt_ fr L nw nt x0 y0 x1 y1 : Nat) (Kw Cw Vw Kt Ct Vt : Nat → Nat) (cu x : Int32) (hC : okC (L, (nw, Kw, Cw, Vw), (nt, Kt, Ct, Vt), (x0, y0, x1, y1))) : MetR la y_CI_cell b_CI_cell 3 .int 2 50 [.ref o, .int cu, .int x] G [(o, .inr (0, [.ref rw, .ref rt, .int (nI L), .ref fr])), (rw, .inr (1, [.ref kw_, .ref cw_, .ref vw_, .int (nI nw)])), (kw_, .inl (G.2.1, 500, .inl (fun zz => nI (Kw zz)))), (cw_, .inl (G.2.1, 500, .inl (fun zz => nI (Cw zz)))), (vw_, .inl (G.2.1, 500, .inl (fun zz => nI (Vw zz)))), (rt, .inr (1, [.ref kt_, .ref ct_, .ref vt_, .int (nI nt)])), (kt_, .inl (G.2.1, 500, .inl (fun zz => nI (Kt zz)))), (ct_, .inl (G.2.1, 500, .inl (fun zz => nI (Ct zz)))), (vt_, .inl (G.2.1, 500, .inl (fun zz => nI (Vt zz)))), (fr, .inr (2, [.int (nI x0), .int (nI y0), .int (nI x1), .int (nI y1)]))] (fun r => cellS L cu x r) := by
  refine MetR.mk (by decide +kernel) (Nat.le_of_ble_eq_true rfl) ?_
  intro p e s m below meth c Q ls S hP hk hs hret hl
  have hx := S.1
  have hb := S.2.1
  obtain ⟨⟨hL1, hL⟩, hrw, hrt, ⟨hKw, hCw, hVw⟩, ⟨hKt, hCt, hVt⟩, hF, hsm⟩ := hC
  dsimp only at hL1 hL hrw hrt hKw hCw hVw hKt hCt hVt hF hsm
  have hFb := hF.b hL
  obtain ⟨hf1, hf2, hf3, hf4⟩ := hF
  dsimp only at hf1 hf2 hf3 hf4 hFb
  have hp2 := p2_15 hL
  have hp4 := p4_15 hL
  have hpp := Nat.two_pow_pos L
  have hnw := hrw.1
  have hnt := hrt.1
  have hl : lv_has ls 3 [(0, .ref o), (1, .int cu), (2, .int x)] := hl
  refine lv_iload_n hx hb d_CI_cell_0 rfl (lv_at hl 1 rfl) ?_
  refine vp_callSi (va_Run.run (run_S S v_CI_35 (c_CI_isCurve la G cu) ⟨rfl, rfl⟩ ⟨Nat.le_of_ble_eq_true rfl, Nat.le_of_ble_eq_true rfl⟩ (preR_S hP hk hs [] rfl) (rest := []) rfl hl.1 rfl (Nat.le_of_ble_eq_true rfl) d_CI_cell_1 ⟨Nat.le_refl _, Nat.le_refl _⟩)) (fun r1 hr1 => ?_)
  rcases hr1 with ⟨rfl, k, hk', rfl⟩ | ⟨rfl, q1⟩
  · have hl : lv_has ls 3 [(0, .ref o), (1, .int (nI k)), (2, .int x)] := hl
    refine lv_if_eq hx hb d_CI_cell_4 (tgt := 24) (by decide) (fun h => absurd h (by decide)) (fun _ => ?_)
    refine lv_aload_n hx hb d_CI_cell_7 rfl (lv_at hl 0 rfl) ?_
    refine lv_iload_n hx hb d_CI_cell_8 rfl (lv_at hl 2 rfl) ?_
    refine vp_callSi (va_Run.run (run_V S v_CI_47 (c_CI_isKey la G o rw rt fr L x hL) ⟨rfl, rfl⟩ ⟨Nat.le_of_ble_eq_true rfl, Nat.le_of_ble_eq_true rfl⟩ (preR_V hP hk hs [0] rfl 0 rfl rfl) (rest := []) rfl hl.1 rfl (Nat.le_of_ble_eq_true rfl) d_CI_cell_9 ⟨Nat.le_refl _, Nat.le_refl _⟩)) (fun r2 hr2 => ?_)
    rcases hr2 with ⟨rfl, j, hj', rfl⟩ | ⟨rfl, q2⟩
    · rw [p22] at hj'
      have hl : lv_has ls 3 [(0, .ref o), (1, .int (nI k)), (2, .int (nI j))] := hl
      refine lv_if_eq hx hb d_CI_cell_12 (tgt := 24) (by decide) (fun h => absurd h (by decide)) (fun _ => ?_)
      refine lv_aload_n hx hb d_CI_cell_15 rfl (lv_at hl 0 rfl) ?_
      refine lv_iload_n hx hb d_CI_cell_16 rfl (lv_at hl 1 rfl) ?_
      refine lv_iload_n hx hb d_CI_cell_17 rfl (lv_at hl 2 rfl) ?_
      refine vp_callSi (va_Run.run (run_V S v_CI_50 (c_CI_cellOf la G o rw rt fr L k j hL hL1 hk' hj') ⟨rfl, rfl⟩ ⟨Nat.le_of_ble_eq_true rfl, Nat.le_of_ble_eq_true rfl⟩ (preR_V hP hk hs [0] rfl 0 rfl rfl) (rest := []) rfl hl.1 rfl (Nat.le_of_ble_eq_true rfl) d_CI_cell_18 ⟨Nat.le_refl _, Nat.le_refl _⟩)) (fun r3 hr3 => ?_)
      subst hr3
      refine lv_goto hx hb d_CI_cell_21 (tgt := 25) (by decide) ?_
      exact hret _ _ _ rfl (Or.inl ⟨k, j, hk', hj', rfl, rfl, rfl⟩) d_CI_cell_25
    · refine lv_if_eq hx hb d_CI_cell_12 (tgt := 24) (by decide) (fun _ => ?_) (fun h => absurd (by decide) h)
      refine lv_iconst (v := (-1)) hx hb d_CI_cell_24 (by decide) ?_
      exact hret _ _ _ rfl (Or.inr ⟨by first | exact fun z => q1 z.1 | (rw [p22] at q2; exact fun z => q2 z.2), rfl⟩) d_CI_cell_25
  · refine lv_if_eq hx hb d_CI_cell_4 (tgt := 24) (by decide) (fun _ => ?_) (fun h => absurd (by decide) h)
    refine lv_iconst (v := (-1)) hx hb d_CI_cell_24 (by decide) ?_
    exact hret _ _ _ rfl (Or.inr ⟨by first | exact fun z => q1 z.1 | (rw [p22] at q2; exact fun z => q2 z.2), rfl⟩) d_CI_cell_25
set_option maxHeartbeats 4000000 in
set_option maxRecDepth 100000 in
theorem c_CI_at (la : Launch) (G : gG) (o rw kw_ cw_ vw_ rt kt_ ct_ vt_ fr L nw nt x0 y0 x1 y1 : Nat) (Kw Cw Vw Kt Ct Vt : Nat → Nat) (x y : Int32) (hC : okC (L, (nw, Kw, Cw, Vw), (nt, Kt, Ct, Vt), (x0, y0, x1, y1))) : MetR la y_CI_at b_CI_at 3 .int 2 48 [.ref o, .int x, .int y] G [(o, .inr (0, [.ref rw, .ref rt, .int (nI L), .ref fr])), (rw, .inr (1, [.ref kw_, .ref cw_, .ref vw_, .int (nI nw)])), (kw_, .inl (G.2.1, 500, .inl (fun zz => nI (Kw zz)))), (cw_, .inl (G.2.1, 500, .inl (fun zz => nI (Cw zz)))), (vw_, .inl (G.2.1, 500, .inl (fun zz => nI (Vw zz)))), (rt, .inr (1, [.ref kt_, .ref ct_, .ref vt_, .int (nI nt)])), (kt_, .inl (G.2.1, 500, .inl (fun zz => nI (Kt zz)))), (ct_, .inl (G.2.1, 500, .inl (fun zz => nI (Ct zz)))), (vt_, .inl (G.2.1, 500, .inl (fun zz => nI (Vt zz)))), (fr, .inr (2, [.int (nI x0), .int (nI y0), .int (nI x1), .int (nI y1)]))] (fun r => atS L nt Ct Vt x y r) := by
  refine MetR.mk (by decide +kernel) (Nat.le_of_ble_eq_true rfl) ?_
  intro p e s m below meth c Q ls S hP hk hs hret hl
  have hx := S.1
  have hb := S.2.1
  obtain ⟨⟨hL1, hL⟩, hrw, hrt, ⟨hKw, hCw, hVw⟩, ⟨hKt, hCt, hVt⟩, hF, hsm⟩ := hC
  dsimp only at hL1 hL hrw hrt hKw hCw hVw hKt hCt hVt hF hsm
  have hFb := hF.b hL
  obtain ⟨hf1, hf2, hf3, hf4⟩ := hF
  dsimp only at hf1 hf2 hf3 hf4 hFb
  have hp2 := p2_15 hL
  have hp4 := p4_15 hL
  have hpp := Nat.two_pow_pos L
  have hnw := hrw.1
  have hnt := hrt.1
  have hl : lv_has ls 3 [(0, .ref o), (1, .int x), (2, .int y)] := hl
  refine lv_aload_n hx hb d_CI_at_0 rfl (lv_at hl 0 rfl) ?_
  refine lv_iload_n hx hb d_CI_at_1 rfl (lv_at hl 1 rfl) ?_
  refine lv_iload_n hx hb d_CI_at_2 rfl (lv_at hl 2 rfl) ?_
  refine vp_callSi (va_Run.run (run_V S v_CI_39 (c_CI_isCell la G o rw rt fr L x y hL) ⟨rfl, rfl⟩ ⟨Nat.le_of_ble_eq_true rfl, Nat.le_of_ble_eq_true rfl⟩ (preR_V hP hk hs [0] rfl 0 rfl rfl) (rest := []) rfl hl.1 rfl (Nat.le_of_ble_eq_true rfl) d_CI_at_3 ⟨Nat.le_refl _, Nat.le_refl _⟩)) (fun r1 hr1 => ?_)
  rcases hr1 with ⟨rfl, a, b, ha, hb', rfl, rfl⟩ | ⟨rfl, q1⟩
  · have hl : lv_has ls 3 [(0, .ref o), (1, .int (nI a)), (2, .int (nI b))] := hl
    refine lv_if_eq hx hb d_CI_at_6 (tgt := 26) (by decide) (fun h => absurd h (by decide)) (fun _ => ?_)
    refine lv_aload_n hx hb d_CI_at_9 rfl (lv_at hl 0 rfl) ?_
    refine y_get S hk hP 0 rfl f_CI_16 rfl d_CI_at_10 ?_
    refine lv_aload_n hx hb d_CI_at_13 rfl (lv_at hl 0 rfl) ?_
    refine lv_iconst (v := nI 1) hx hb d_CI_at_14 (by decide) ?_
    refine lv_iload_n hx hb d_CI_at_15 rfl (lv_at hl 1 rfl) ?_
    refine lv_iload_n hx hb d_CI_at_16 rfl (lv_at hl 2 rfl) ?_
    refine vp_callSi (va_Run.run (run_V S v_CI_43 (c_CI_keyOf la G o rw rt fr L 1 a b hL hL1 (by omega) ha hb') ⟨rfl, rfl⟩ ⟨Nat.le_of_ble_eq_true rfl, Nat.le_of_ble_eq_true rfl⟩ (preR_V hP hk hs [0] rfl 0 rfl rfl) (rest := [.ref rt]) rfl hl.1 rfl (Nat.le_of_ble_eq_true rfl) d_CI_at_17 ⟨Nat.le_refl _, Nat.le_refl _⟩)) (fun r2 hr2 => ?_)
    subst hr2
    have hk1 := kk_lt (cu := 1) ha hb'
    have hcm := (cl_mk ha hb').1
    have hke := ke_mk (cu := 1) ha hb'
    refine vp_callSi (va_Run.run (run_VN S hk v_CI_54 (c_Row_weightOf la G rt kt_ ct_ vt_ nt Kt Vt (kk 1 L a b) hnt hKt (by omega)) ⟨rfl, rfl⟩ ⟨Nat.le_of_ble_eq_true rfl, Nat.le_of_ble_eq_true rfl⟩ (preR_V hP hk hs [5, 6, 8] rfl 5 rfl rfl) (rest := []) rfl hl.1 rfl (Nat.le_of_ble_eq_true rfl) d_CI_at_20 ⟨Nat.le_refl _, Nat.le_refl _⟩)) (fun r3 hr3 => ?_)
    obtain ⟨q, hat, hw⟩ := hr3
    refine lv_goto hx hb d_CI_at_23 (tgt := 27) (by decide) ?_
    exact hret _ _ _ rfl (Or.inl ⟨a, b, ha, hb', rfl, rfl, by rw [← hke] at hat hw; rcases hw with ⟨g1, g2, rfl⟩ | ⟨g1, rfl⟩; rw [hrt.wt1 hcm g1 g2]; rw [hrt.wt0 hat g1]⟩) d_CI_at_27
  · refine lv_if_eq hx hb d_CI_at_6 (tgt := 26) (by decide) (fun _ => ?_) (fun h => absurd (by decide) h)
    refine lv_iconst (v := (-1)) hx hb d_CI_at_26 (by decide) ?_
    exact hret _ _ _ rfl (Or.inr ⟨q1, rfl⟩) d_CI_at_27
set_option maxHeartbeats 4000000 in
set_option maxRecDepth 100000 in
theorem c_CI_many (la : Launch) (G : gG) (o rw kw_ cw_ vw_ rt kt_ ct_ vt_ fr L nw nt x0 y0 x1 y1 : Nat) (Kw Cw Vw Kt Ct Vt : Nat → Nat)  (hC : okC (L, (nw, Kw, Cw, Vw), (nt, Kt, Ct, Vt), (x0, y0, x1, y1))) : MetR la y_CI_many b_CI_many 1 .int 0 0 [.ref o] G [(o, .inr (0, [.ref rw, .ref rt, .int (nI L), .ref fr])), (rw, .inr (1, [.ref kw_, .ref cw_, .ref vw_, .int (nI nw)])), (kw_, .inl (G.2.1, 500, .inl (fun zz => nI (Kw zz)))), (cw_, .inl (G.2.1, 500, .inl (fun zz => nI (Cw zz)))), (vw_, .inl (G.2.1, 500, .inl (fun zz => nI (Vw zz)))), (rt, .inr (1, [.ref kt_, .ref ct_, .ref vt_, .int (nI nt)])), (kt_, .inl (G.2.1, 500, .inl (fun zz => nI (Kt zz)))), (ct_, .inl (G.2.1, 500, .inl (fun zz => nI (Ct zz)))), (vt_, .inl (G.2.1, 500, .inl (fun zz => nI (Vt zz)))), (fr, .inr (2, [.int (nI x0), .int (nI y0), .int (nI x1), .int (nI y1)]))] (fun r => r = nI nt) := by
  refine MetR.mk (by decide +kernel) (Nat.le_of_ble_eq_true rfl) ?_
  intro p e s m below meth c Q ls S hP hk hs hret hl
  have hx := S.1
  have hb := S.2.1
  obtain ⟨⟨hL1, hL⟩, hrw, hrt, ⟨hKw, hCw, hVw⟩, ⟨hKt, hCt, hVt⟩, hF, hsm⟩ := hC
  dsimp only at hL1 hL hrw hrt hKw hCw hVw hKt hCt hVt hF hsm
  have hFb := hF.b hL
  obtain ⟨hf1, hf2, hf3, hf4⟩ := hF
  dsimp only at hf1 hf2 hf3 hf4 hFb
  have hp2 := p2_15 hL
  have hp4 := p4_15 hL
  have hpp := Nat.two_pow_pos L
  have hnw := hrw.1
  have hnt := hrt.1
  have hl : lv_has ls 1 [(0, .ref o)] := hl
  refine lv_aload_n hx hb d_CI_many_0 rfl (lv_at hl 0 rfl) ?_
  refine y_get S hk hP 0 rfl f_CI_16 rfl d_CI_many_1 ?_
  refine y_getN S hk hP 5 rfl f_CI_73 rfl d_CI_many_4 ?_
  exact hret _ _ _ rfl (rfl) d_CI_many_7
set_option maxHeartbeats 4000000 in
set_option maxRecDepth 100000 in
theorem c_CI_inside (la : Launch) (G : gG) (o rw kw_ cw_ vw_ rt kt_ ct_ vt_ fr L nw nt x0 y0 x1 y1 : Nat) (Kw Cw Vw Kt Ct Vt : Nat → Nat)  (hC : okC (L, (nw, Kw, Cw, Vw), (nt, Kt, Ct, Vt), (x0, y0, x1, y1))) : MetR la y_CI_inside b_CI_inside 3 .int 2 43 [.ref o] G [(o, .inr (0, [.ref rw, .ref rt, .int (nI L), .ref fr])), (rw, .inr (1, [.ref kw_, .ref cw_, .ref vw_, .int (nI nw)])), (kw_, .inl (G.2.1, 500, .inl (fun zz => nI (Kw zz)))), (cw_, .inl (G.2.1, 500, .inl (fun zz => nI (Cw zz)))), (vw_, .inl (G.2.1, 500, .inl (fun zz => nI (Vw zz)))), (rt, .inr (1, [.ref kt_, .ref ct_, .ref vt_, .int (nI nt)])), (kt_, .inl (G.2.1, 500, .inl (fun zz => nI (Kt zz)))), (ct_, .inl (G.2.1, 500, .inl (fun zz => nI (Ct zz)))), (vt_, .inl (G.2.1, 500, .inl (fun zz => nI (Vt zz)))), (fr, .inr (2, [.int (nI x0), .int (nI y0), .int (nI x1), .int (nI y1)]))] (fun r => r = nI (ins L (x0, y0, x1, y1) nt Ct)) := by
  refine MetR.mk (by decide +kernel) (Nat.le_of_ble_eq_true rfl) ?_
  intro p e s m below meth c Q ls S hP hk hs hret hl
  have hx := S.1
  have hb := S.2.1
  obtain ⟨⟨hL1, hL⟩, hrw, hrt, ⟨hKw, hCw, hVw⟩, ⟨hKt, hCt, hVt⟩, hF, hsm⟩ := hC
  dsimp only at hL1 hL hrw hrt hKw hCw hVw hKt hCt hVt hF hsm
  have hFb := hF.b hL
  obtain ⟨hf1, hf2, hf3, hf4⟩ := hF
  dsimp only at hf1 hf2 hf3 hf4 hFb
  have hp2 := p2_15 hL
  have hp4 := p4_15 hL
  have hpp := Nat.two_pow_pos L
  have hnw := hrw.1
  have hnt := hrt.1
  have hl : lv_has ls 3 [(0, .ref o)] := hl
  refine lv_iconst (v := nI 0) hx hb d_CI_inside_0 (by decide) ?_
  refine lv_istore_n hx hb d_CI_inside_1 rfl hl (by decide) rfl (fun ls hl => ?_)
  have hl : lv_has ls 3 [(1, .int (nI 0)), (0, .ref o)] := hl
  refine lv_iconst (v := nI 0) hx hb d_CI_inside_2 (by decide) ?_
  refine lv_istore_n hx hb d_CI_inside_3 rfl hl (by decide) rfl (fun ls hl => ?_)
  have hl : lv_has ls 3 [(2, .int (nI 0)), (1, .int (nI 0)), (0, .ref o)] := hl
  refine (?_ : ∀ (d : Nat) (q : Nat) (g : Nat) (ls : Array Slot), nt - q < d → lv_has ls 3 [(2, .int (nI q)), (1, .int (nI g)), (0, .ref o)] → (q ≤ nt) → (g = ins L (x0, y0, x1, y1) q Ct) → W p la e _ s m _ below meth c s.heap [] 0 0 Q (F0 m 4 ls [])) (nt - 0 + 1) 0 0 ls (Nat.lt_succ_self _) hl (Nat.zero_le _) (rfl)
  intro d
  induction d with
  | zero => intro q g ls hd; exact absurd hd (Nat.not_lt_zero _)
  | succ d ih =>
    intro q g ls hd hl hq hg
    refine lv_iload_n hx hb d_CI_inside_4 rfl (lv_at hl 0 rfl) ?_
    refine lv_aload_n hx hb d_CI_inside_5 rfl (lv_at hl 2 rfl) ?_
    refine y_get S hk hP 0 rfl f_CI_16 rfl d_CI_inside_6 ?_
    refine y_getN S hk hP 5 rfl f_CI_73 rfl d_CI_inside_9 ?_
    refine x_icmp_ge hx hb d_CI_inside_12 (tgt := 40) (by decide) (by omega) (by omega) (fun h12 => ?_) (fun h12 => ?_)
    · refine lv_iload_n hx hb d_CI_inside_40 rfl (lv_at hl 1 rfl) ?_
      exact hret _ _ _ rfl (by rw [hg, show q = nt by omega]) d_CI_inside_41
    · refine lv_aload_n hx hb d_CI_inside_15 rfl (lv_at hl 2 rfl) ?_
      refine lv_aload_n hx hb d_CI_inside_16 rfl (lv_at hl 2 rfl) ?_
      refine y_get S hk hP 0 rfl f_CI_16 rfl d_CI_inside_17 ?_
      refine y_getN S hk hP 5 rfl f_CI_76 rfl d_CI_inside_20 ?_
      refine lv_iload_n hx hb d_CI_inside_23 rfl (lv_at hl 0 rfl) ?_
      refine y_ald hx hb hk hP 7 rfl (by omega) (by decide) d_CI_inside_24 ?_
      refine vp_callSi (va_Run.run (run_V S v_CI_80 (c_CI_isInFrame la G o rw rt fr L x0 y0 x1 y1 (Ct q) hL (by omega) (by omega) (by omega) (by omega) (hCt q)) ⟨rfl, rfl⟩ ⟨Nat.le_of_ble_eq_true rfl, Nat.le_of_ble_eq_true rfl⟩ (preR_V hP hk hs [0, 9] rfl 0 rfl rfl) (rest := []) rfl hl.1 rfl (Nat.le_of_ble_eq_true rfl) d_CI_inside_25 ⟨Nat.le_refl _, Nat.le_refl _⟩)) (fun r1 hr1 => ?_)
      rcases hr1 with ⟨rfl, q1⟩ | ⟨rfl, q1⟩
      · refine lv_if_eq hx hb d_CI_inside_28 (tgt := 34) (by decide) (fun h => absurd h (by decide)) (fun _ => ?_)
        refine lv_iinc (v := nI (g + 1)) hx hb d_CI_inside_31 hl (k := 1) rfl (ii_p _ 1) (by decide) rfl (fun ls hl => ?_)
        have hl : lv_has ls 3 [(1, .int (nI (g + 1))), (2, .int (nI q)), (0, .ref o)] := hl
        refine lv_iinc (v := nI (q + 1)) hx hb d_CI_inside_34 hl (k := 1) rfl (ii_p _ 1) (by decide) rfl (fun ls hl => ?_)
        have hl : lv_has ls 3 [(2, .int (nI (q + 1))), (1, .int (nI (g + 1))), (0, .ref o)] := hl
        refine lv_goto hx hb d_CI_inside_37 (tgt := 4) (by decide) ?_
        have hl := lv_sub hl [0, 1, 2] rfl
        exact ih (q + 1) _ _ (by omega) hl (by omega) (by first | rw [hg, ins_1 q1] | rw [hg, ins_0 q1])
      · refine lv_if_eq hx hb d_CI_inside_28 (tgt := 34) (by decide) (fun _ => ?_) (fun h => absurd (by decide) h)
        refine lv_iinc (v := nI (q + 1)) hx hb d_CI_inside_34 hl (k := 0) rfl (ii_p _ 1) (by decide) rfl (fun ls hl => ?_)
        have hl : lv_has ls 3 [(2, .int (nI (q + 1))), (1, .int (nI g)), (0, .ref o)] := hl
        refine lv_goto hx hb d_CI_inside_37 (tgt := 4) (by decide) ?_
        have hl := lv_sub hl [0, 1, 2] rfl
        exact ih (q + 1) _ _ (by omega) hl (by omega) (by first | rw [hg, ins_1 q1] | rw [hg, ins_0 q1])
set_option maxHeartbeats 4000000 in
set_option maxRecDepth 100000 in
theorem c_CI_sum (la : Launch) (G : gG) (o rw kw_ cw_ vw_ rt kt_ ct_ vt_ fr L nw nt x0 y0 x1 y1 : Nat) (Kw Cw Vw Kt Ct Vt : Nat → Nat)  (hC : okC (L, (nw, Kw, Cw, Vw), (nt, Kt, Ct, Vt), (x0, y0, x1, y1))) : MetR la y_CI_sum b_CI_sum 3 .int 2 43 [.ref o] G [(o, .inr (0, [.ref rw, .ref rt, .int (nI L), .ref fr])), (rw, .inr (1, [.ref kw_, .ref cw_, .ref vw_, .int (nI nw)])), (kw_, .inl (G.2.1, 500, .inl (fun zz => nI (Kw zz)))), (cw_, .inl (G.2.1, 500, .inl (fun zz => nI (Cw zz)))), (vw_, .inl (G.2.1, 500, .inl (fun zz => nI (Vw zz)))), (rt, .inr (1, [.ref kt_, .ref ct_, .ref vt_, .int (nI nt)])), (kt_, .inl (G.2.1, 500, .inl (fun zz => nI (Kt zz)))), (ct_, .inl (G.2.1, 500, .inl (fun zz => nI (Ct zz)))), (vt_, .inl (G.2.1, 500, .inl (fun zz => nI (Vt zz)))), (fr, .inr (2, [.int (nI x0), .int (nI y0), .int (nI x1), .int (nI y1)]))] (fun r => r = nI (sum L (x0, y0, x1, y1) nt Ct Vt)) := by
  refine MetR.mk (by decide +kernel) (Nat.le_of_ble_eq_true rfl) ?_
  intro p e s m below meth c Q ls S hP hk hs hret hl
  have hx := S.1
  have hb := S.2.1
  obtain ⟨⟨hL1, hL⟩, hrw, hrt, ⟨hKw, hCw, hVw⟩, ⟨hKt, hCt, hVt⟩, hF, hsm⟩ := hC
  dsimp only at hL1 hL hrw hrt hKw hCw hVw hKt hCt hVt hF hsm
  have hFb := hF.b hL
  obtain ⟨hf1, hf2, hf3, hf4⟩ := hF
  dsimp only at hf1 hf2 hf3 hf4 hFb
  have hp2 := p2_15 hL
  have hp4 := p4_15 hL
  have hpp := Nat.two_pow_pos L
  have hnw := hrw.1
  have hnt := hrt.1
  have hl : lv_has ls 3 [(0, .ref o)] := hl
  refine lv_iconst (v := nI 0) hx hb d_CI_sum_0 (by decide) ?_
  refine lv_istore_n hx hb d_CI_sum_1 rfl hl (by decide) rfl (fun ls hl => ?_)
  have hl : lv_has ls 3 [(1, .int (nI 0)), (0, .ref o)] := hl
  refine lv_iconst (v := nI 0) hx hb d_CI_sum_2 (by decide) ?_
  refine lv_istore_n hx hb d_CI_sum_3 rfl hl (by decide) rfl (fun ls hl => ?_)
  have hl : lv_has ls 3 [(2, .int (nI 0)), (1, .int (nI 0)), (0, .ref o)] := hl
  refine (?_ : ∀ (d : Nat) (q : Nat) (g : Nat) (ls : Array Slot), nt - q < d → lv_has ls 3 [(2, .int (nI q)), (1, .int (nI g)), (0, .ref o)] → (q ≤ nt) → (g = sum L (x0, y0, x1, y1) q Ct Vt) → W p la e _ s m _ below meth c s.heap [] 0 0 Q (F0 m 4 ls [])) (nt - 0 + 1) 0 0 ls (Nat.lt_succ_self _) hl (Nat.zero_le _) (rfl)
  intro d
  induction d with
  | zero => intro q g ls hd; exact absurd hd (Nat.not_lt_zero _)
  | succ d ih =>
    intro q g ls hd hl hq hg
    refine lv_iload_n hx hb d_CI_sum_4 rfl (lv_at hl 0 rfl) ?_
    refine lv_aload_n hx hb d_CI_sum_5 rfl (lv_at hl 2 rfl) ?_
    refine y_get S hk hP 0 rfl f_CI_16 rfl d_CI_sum_6 ?_
    refine y_getN S hk hP 5 rfl f_CI_73 rfl d_CI_sum_9 ?_
    refine x_icmp_ge hx hb d_CI_sum_12 (tgt := 49) (by decide) (by omega) (by omega) (fun h12 => ?_) (fun h12 => ?_)
    · refine lv_iload_n hx hb d_CI_sum_49 rfl (lv_at hl 1 rfl) ?_
      exact hret _ _ _ rfl (by rw [hg, show q = nt by omega]) d_CI_sum_50
    · refine lv_aload_n hx hb d_CI_sum_15 rfl (lv_at hl 2 rfl) ?_
      refine lv_aload_n hx hb d_CI_sum_16 rfl (lv_at hl 2 rfl) ?_
      refine y_get S hk hP 0 rfl f_CI_16 rfl d_CI_sum_17 ?_
      refine y_getN S hk hP 5 rfl f_CI_76 rfl d_CI_sum_20 ?_
      refine lv_iload_n hx hb d_CI_sum_23 rfl (lv_at hl 0 rfl) ?_
      refine y_ald hx hb hk hP 7 rfl (by omega) (by decide) d_CI_sum_24 ?_
      refine vp_callSi (va_Run.run (run_V S v_CI_80 (c_CI_isInFrame la G o rw rt fr L x0 y0 x1 y1 (Ct q) hL (by omega) (by omega) (by omega) (by omega) (hCt q)) ⟨rfl, rfl⟩ ⟨Nat.le_of_ble_eq_true rfl, Nat.le_of_ble_eq_true rfl⟩ (preR_V hP hk hs [0, 9] rfl 0 rfl rfl) (rest := []) rfl hl.1 rfl (Nat.le_of_ble_eq_true rfl) d_CI_sum_25 ⟨Nat.le_refl _, Nat.le_refl _⟩)) (fun r1 hr1 => ?_)
      rcases hr1 with ⟨rfl, q1⟩ | ⟨rfl, q1⟩
      · refine lv_if_eq hx hb d_CI_sum_28 (tgt := 43) (by decide) (fun h => absurd h (by decide)) (fun _ => ?_)
        refine lv_iload_n hx hb d_CI_sum_31 rfl (lv_at hl 1 rfl) ?_
        refine lv_aload_n hx hb d_CI_sum_32 rfl (lv_at hl 2 rfl) ?_
        refine y_get S hk hP 0 rfl f_CI_16 rfl d_CI_sum_33 ?_
        refine y_getN S hk hP 5 rfl f_CI_83 rfl d_CI_sum_36 ?_
        refine lv_iload_n hx hb d_CI_sum_39 rfl (lv_at hl 0 rfl) ?_
        refine y_ald hx hb hk hP 8 rfl (by omega) (by decide) d_CI_sum_40 ?_
        refine x_iadd hx hb d_CI_sum_41 ?_
        refine lv_istore_n hx hb d_CI_sum_42 rfl hl (by decide) rfl (fun ls hl => ?_)
        have hl : lv_has ls 3 [(1, .int (nI (g + (Vt q)))), (2, .int (nI q)), (0, .ref o)] := hl
        refine lv_iinc (v := nI (q + 1)) hx hb d_CI_sum_43 hl (k := 1) rfl (ii_p _ 1) (by decide) rfl (fun ls hl => ?_)
        have hl : lv_has ls 3 [(2, .int (nI (q + 1))), (1, .int (nI (g + (Vt q)))), (0, .ref o)] := hl
        refine lv_goto hx hb d_CI_sum_46 (tgt := 4) (by decide) ?_
        have hl := lv_sub hl [0, 1, 2] rfl
        exact ih (q + 1) _ _ (by omega) hl (by omega) (by first | rw [hg, sum_1 q1] | rw [hg, sum_0 q1])
      · refine lv_if_eq hx hb d_CI_sum_28 (tgt := 43) (by decide) (fun _ => ?_) (fun h => absurd (by decide) h)
        refine lv_iinc (v := nI (q + 1)) hx hb d_CI_sum_43 hl (k := 0) rfl (ii_p _ 1) (by decide) rfl (fun ls hl => ?_)
        have hl : lv_has ls 3 [(2, .int (nI (q + 1))), (1, .int (nI g)), (0, .ref o)] := hl
        refine lv_goto hx hb d_CI_sum_46 (tgt := 4) (by decide) ?_
        have hl := lv_sub hl [0, 1, 2] rfl
        exact ih (q + 1) _ _ (by omega) hl (by omega) (by first | rw [hg, sum_1 q1] | rw [hg, sum_0 q1])
set_option maxHeartbeats 4000000 in
set_option maxRecDepth 100000 in
theorem c_CI_nth (la : Launch) (G : gG) (o rw kw_ cw_ vw_ rt kt_ ct_ vt_ fr L nw nt x0 y0 x1 y1 : Nat) (Kw Cw Vw Kt Ct Vt : Nat → Nat) (cu i : Int32) (hC : okC (L, (nw, Kw, Cw, Vw), (nt, Kt, Ct, Vt), (x0, y0, x1, y1))) : MetR la y_CI_nth b_CI_nth 7 .int 2 43 [.ref o, .int cu, .int i] G [(o, .inr (0, [.ref rw, .ref rt, .int (nI L), .ref fr])), (rw, .inr (1, [.ref kw_, .ref cw_, .ref vw_, .int (nI nw)])), (kw_, .inl (G.2.1, 500, .inl (fun zz => nI (Kw zz)))), (cw_, .inl (G.2.1, 500, .inl (fun zz => nI (Cw zz)))), (vw_, .inl (G.2.1, 500, .inl (fun zz => nI (Vw zz)))), (rt, .inr (1, [.ref kt_, .ref ct_, .ref vt_, .int (nI nt)])), (kt_, .inl (G.2.1, 500, .inl (fun zz => nI (Kt zz)))), (ct_, .inl (G.2.1, 500, .inl (fun zz => nI (Ct zz)))), (vt_, .inl (G.2.1, 500, .inl (fun zz => nI (Vt zz)))), (fr, .inr (2, [.int (nI x0), .int (nI y0), .int (nI x1), .int (nI y1)]))] (fun r => nthQ L (x0, y0, x1, y1) nw Cw nt Ct cu i r) := by
  refine MetR.mk (by decide +kernel) (Nat.le_of_ble_eq_true rfl) ?_
  intro p e s m below meth c Q ls S hP hk hs hret hl
  have hx := S.1
  have hb := S.2.1
  obtain ⟨⟨hL1, hL⟩, hrw, hrt, ⟨hKw, hCw, hVw⟩, ⟨hKt, hCt, hVt⟩, hF, hsm⟩ := hC
  dsimp only at hL1 hL hrw hrt hKw hCw hVw hKt hCt hVt hF hsm
  have hFb := hF.b hL
  obtain ⟨hf1, hf2, hf3, hf4⟩ := hF
  dsimp only at hf1 hf2 hf3 hf4 hFb
  have hp2 := p2_15 hL
  have hp4 := p4_15 hL
  have hpp := Nat.two_pow_pos L
  have hnw := hrw.1
  have hnt := hrt.1
  have hl : lv_has ls 7 [(0, .ref o), (1, .int cu), (2, .int i)] := hl
  refine lv_iload_n hx hb d_CI_nth_0 rfl (lv_at hl 1 rfl) ?_
  refine vp_callSi (va_Run.run (run_S S v_CI_35 (c_CI_isCurve la G cu) ⟨rfl, rfl⟩ ⟨Nat.le_of_ble_eq_true rfl, Nat.le_of_ble_eq_true rfl⟩ (preR_S hP hk hs [] rfl) (rest := []) rfl hl.1 rfl (Nat.le_of_ble_eq_true rfl) d_CI_nth_1 ⟨Nat.le_refl _, Nat.le_refl _⟩)) (fun r1 hr1 => ?_)
  rcases hr1 with ⟨rfl, q1⟩ | ⟨rfl, q1⟩
  · rcases cuO_01 q1 with rfl | rfl
    · have hl : lv_has ls 7 [(0, .ref o), (1, .int (nI 0)), (2, .int i)] := hl
      refine lv_if_ne hx hb d_CI_nth_4 (tgt := 9) (by decide) (fun _ => ?_) (fun h => absurd h (by decide))
      refine lv_iload_n hx hb d_CI_nth_9 rfl (lv_at hl 1 rfl) ?_
      refine lv_if_ne hx hb d_CI_nth_10 (tgt := 20) (by decide) (fun h => absurd rfl h) (fun _ => ?_)
      refine lv_aload_n hx hb d_CI_nth_13 rfl (lv_at hl 0 rfl) ?_
      refine y_get S hk hP 0 rfl f_CI_10 rfl d_CI_nth_14 ?_
      refine lv_goto hx hb d_CI_nth_17 (tgt := 24) (by decide) ?_
      refine lv_astore_n hx hb d_CI_nth_24 rfl hl (by decide) rfl (fun ls hl => ?_)
      have hl : lv_has ls 7 [(3, .ref rw), (0, .ref o), (1, .int (nI 0)), (2, .int i)] := hl
      refine lv_iconst (v := nI 0) hx hb d_CI_nth_25 (by decide) ?_
      refine lv_istore hx hb d_CI_nth_26 hl (by decide) rfl (fun ls hl => ?_)
      have hl : lv_has ls 7 [(4, .int (nI 0)), (3, .ref rw), (0, .ref o), (1, .int (nI 0)), (2, .int i)] := hl
      refine lv_iconst (v := nI 0) hx hb d_CI_nth_28 (by decide) ?_
      refine lv_istore hx hb d_CI_nth_29 hl (by decide) rfl (fun ls hl => ?_)
      have hl : lv_has ls 7 [(5, .int (nI 0)), (4, .int (nI 0)), (3, .ref rw), (0, .ref o), (1, .int (nI 0)), (2, .int i)] := hl
      have hl := lv_sub hl [0, 1, 2, 5, 4, 3] rfl
      refine (?_ : ∀ (d : Nat) (q : Nat) (g : Nat) (ls : Array Slot), nw - q < d → lv_has ls 7 [(5, .int (nI q)), (4, .int (nI g)), (3, .ref rw), (2, .int i), (1, .int (nI 0)), (0, .ref o)] → (q ≤ nw) → (g = ins L (x0, y0, x1, y1) q Cw) → (∀ j, j < q → inc L (x0, y0, x1, y1) (Cw j) = true → nI (ins L (x0, y0, x1, y1) j Cw) ≠ i) → W p la e _ s m _ below meth c s.heap [] 0 0 Q (F0 m 31 ls [])) (nw - 0 + 1) 0 0 ls (Nat.lt_succ_self _) hl (Nat.zero_le _) (rfl) (fun j h => absurd h (Nat.not_lt_zero _))
      intro d
      induction d with
      | zero => intro q g ls hd; exact absurd hd (Nat.not_lt_zero _)
      | succ d ih =>
        intro q g ls hd hl hq hg hno
        refine lv_iload hx hb d_CI_nth_31 (lv_at hl 0 rfl) ?_
        refine lv_aload_n hx hb d_CI_nth_33 rfl (lv_at hl 2 rfl) ?_
        refine y_getN S hk hP 1 rfl f_CI_73 rfl d_CI_nth_34 ?_
        refine x_icmp_ge hx hb d_CI_nth_37 (tgt := 76) (by decide) (by omega) (by omega) (fun h37 => ?_) (fun h37 => ?_)
        · refine lv_iconst (v := (-1)) hx hb d_CI_nth_76 (by decide) ?_
          exact hret _ _ _ rfl (Or.inl ⟨rfl, Or.inr ⟨fun j hj hin => by rw [hrw.rkp (x0, y0, x1, y1) hj]; exact hno j (by omega) hin, rfl⟩⟩) d_CI_nth_77
        · refine lv_aload_n hx hb d_CI_nth_40 rfl (lv_at hl 2 rfl) ?_
          refine y_getN S hk hP 1 rfl f_CI_76 rfl d_CI_nth_41 ?_
          refine lv_iload hx hb d_CI_nth_44 (lv_at hl 0 rfl) ?_
          refine y_ald hx hb hk hP 3 rfl (by omega) (by decide) d_CI_nth_46 ?_
          refine lv_istore hx hb d_CI_nth_47 hl (by decide) rfl (fun ls hl => ?_)
          have hl : lv_has ls 7 [(6, .int (nI (Cw q))), (5, .int (nI q)), (4, .int (nI g)), (3, .ref rw), (2, .int i), (1, .int (nI 0)), (0, .ref o)] := hl
          refine lv_aload_n hx hb d_CI_nth_49 rfl (lv_at hl 6 rfl) ?_
          refine lv_iload hx hb d_CI_nth_50 (lv_at hl 0 rfl) ?_
          refine vp_callSi (va_Run.run (run_V S v_CI_80 (c_CI_isInFrame la G o rw rt fr L x0 y0 x1 y1 (Cw q) hL (by omega) (by omega) (by omega) (by omega) (hCw q)) ⟨rfl, rfl⟩ ⟨Nat.le_of_ble_eq_true rfl, Nat.le_of_ble_eq_true rfl⟩ (preR_V hP hk hs [0, 9] rfl 0 rfl rfl) (rest := []) rfl hl.1 rfl (Nat.le_of_ble_eq_true rfl) d_CI_nth_52 ⟨Nat.le_refl _, Nat.le_refl _⟩)) (fun r2 hr2 => ?_)
          rcases hr2 with ⟨rfl, q2⟩ | ⟨rfl, q2⟩
          · refine lv_if_eq hx hb d_CI_nth_55 (tgt := 70) (by decide) (fun h => absurd h (by decide)) (fun _ => ?_)
            refine lv_iload hx hb d_CI_nth_58 (lv_at hl 2 rfl) ?_
            refine lv_iload_n hx hb d_CI_nth_60 rfl (lv_at hl 4 rfl) ?_
            refine lv_icmp_ne hx hb d_CI_nth_61 (tgt := 67) (by decide) (fun h61 => ?_) (fun h61 => ?_)
            · refine lv_iinc (v := nI (g + 1)) hx hb d_CI_nth_67 hl (k := 2) rfl (ii_p _ 1) (by decide) rfl (fun ls hl => ?_)
              have hl : lv_has ls 7 [(4, .int (nI (g + 1))), (6, .int (nI (Cw q))), (5, .int (nI q)), (3, .ref rw), (2, .int i), (1, .int (nI 0)), (0, .ref o)] := hl
              refine lv_iinc (v := nI (q + 1)) hx hb d_CI_nth_70 hl (k := 2) rfl (ii_p _ 1) (by decide) rfl (fun ls hl => ?_)
              have hl : lv_has ls 7 [(5, .int (nI (q + 1))), (4, .int (nI (g + 1))), (6, .int (nI (Cw q))), (3, .ref rw), (2, .int i), (1, .int (nI 0)), (0, .ref o)] := hl
              refine lv_goto hx hb d_CI_nth_73 (tgt := 31) (by decide) ?_
              have hl := lv_sub hl [0, 1, 3, 4, 5, 6] rfl
              exact ih (q + 1) _ _ (by omega) hl (by omega) (by first | rw [hg, ins_1 q2] | rw [hg, ins_0 q2]) (fun j hj hin => by rcases Nat.lt_or_ge j q with z | z; exact hno j z hin; obtain rfl : j = q := (by omega); first | exact fun z => h61 (by rw [hg]; exact z) | exact absurd (hin.symm.trans q2) (by decide))
            · refine lv_iload hx hb d_CI_nth_64 (lv_at hl 0 rfl) ?_
              exact hret _ _ _ rfl (Or.inl ⟨rfl, Or.inl ⟨q, by omega, q2, by rw [hrw.rkp (x0, y0, x1, y1) (by omega), ← hg]; exact h61, rfl⟩⟩) d_CI_nth_66
          · refine lv_if_eq hx hb d_CI_nth_55 (tgt := 70) (by decide) (fun _ => ?_) (fun h => absurd (by decide) h)
            refine lv_iinc (v := nI (q + 1)) hx hb d_CI_nth_70 hl (k := 1) rfl (ii_p _ 1) (by decide) rfl (fun ls hl => ?_)
            have hl : lv_has ls 7 [(5, .int (nI (q + 1))), (6, .int (nI (Cw q))), (4, .int (nI g)), (3, .ref rw), (2, .int i), (1, .int (nI 0)), (0, .ref o)] := hl
            refine lv_goto hx hb d_CI_nth_73 (tgt := 31) (by decide) ?_
            have hl := lv_sub hl [0, 2, 3, 4, 5, 6] rfl
            exact ih (q + 1) _ _ (by omega) hl (by omega) (by first | rw [hg, ins_1 q2] | rw [hg, ins_0 q2]) (fun j hj hin => by rcases Nat.lt_or_ge j q with z | z; exact hno j z hin; obtain rfl : j = q := (by omega); first | exact fun z => h61 (by rw [hg]; exact z) | exact absurd (hin.symm.trans q2) (by decide))
    · have hl : lv_has ls 7 [(0, .ref o), (1, .int (nI 1)), (2, .int i)] := hl
      refine lv_if_ne hx hb d_CI_nth_4 (tgt := 9) (by decide) (fun _ => ?_) (fun h => absurd h (by decide))
      refine lv_iload_n hx hb d_CI_nth_9 rfl (lv_at hl 1 rfl) ?_
      refine lv_if_ne hx hb d_CI_nth_10 (tgt := 20) (by decide) (fun _ => ?_) (fun h => absurd h (by decide))
      refine lv_aload_n hx hb d_CI_nth_20 rfl (lv_at hl 0 rfl) ?_
      refine y_get S hk hP 0 rfl f_CI_16 rfl d_CI_nth_21 ?_
      refine lv_astore_n hx hb d_CI_nth_24 rfl hl (by decide) rfl (fun ls hl => ?_)
      have hl : lv_has ls 7 [(3, .ref rt), (0, .ref o), (1, .int (nI 1)), (2, .int i)] := hl
      refine lv_iconst (v := nI 0) hx hb d_CI_nth_25 (by decide) ?_
      refine lv_istore hx hb d_CI_nth_26 hl (by decide) rfl (fun ls hl => ?_)
      have hl : lv_has ls 7 [(4, .int (nI 0)), (3, .ref rt), (0, .ref o), (1, .int (nI 1)), (2, .int i)] := hl
      refine lv_iconst (v := nI 0) hx hb d_CI_nth_28 (by decide) ?_
      refine lv_istore hx hb d_CI_nth_29 hl (by decide) rfl (fun ls hl => ?_)
      have hl : lv_has ls 7 [(5, .int (nI 0)), (4, .int (nI 0)), (3, .ref rt), (0, .ref o), (1, .int (nI 1)), (2, .int i)] := hl
      have hl := lv_sub hl [0, 1, 2, 5, 4, 3] rfl
      refine (?_ : ∀ (d : Nat) (q : Nat) (g : Nat) (ls : Array Slot), nt - q < d → lv_has ls 7 [(5, .int (nI q)), (4, .int (nI g)), (3, .ref rt), (2, .int i), (1, .int (nI 1)), (0, .ref o)] → (q ≤ nt) → (g = ins L (x0, y0, x1, y1) q Ct) → (∀ j, j < q → inc L (x0, y0, x1, y1) (Ct j) = true → nI (ins L (x0, y0, x1, y1) j Ct) ≠ i) → W p la e _ s m _ below meth c s.heap [] 0 0 Q (F0 m 31 ls [])) (nt - 0 + 1) 0 0 ls (Nat.lt_succ_self _) hl (Nat.zero_le _) (rfl) (fun j h => absurd h (Nat.not_lt_zero _))
      intro d
      induction d with
      | zero => intro q g ls hd; exact absurd hd (Nat.not_lt_zero _)
      | succ d ih =>
        intro q g ls hd hl hq hg hno
        refine lv_iload hx hb d_CI_nth_31 (lv_at hl 0 rfl) ?_
        refine lv_aload_n hx hb d_CI_nth_33 rfl (lv_at hl 2 rfl) ?_
        refine y_getN S hk hP 5 rfl f_CI_73 rfl d_CI_nth_34 ?_
        refine x_icmp_ge hx hb d_CI_nth_37 (tgt := 76) (by decide) (by omega) (by omega) (fun h37 => ?_) (fun h37 => ?_)
        · refine lv_iconst (v := (-1)) hx hb d_CI_nth_76 (by decide) ?_
          exact hret _ _ _ rfl (Or.inr (Or.inl ⟨rfl, Or.inr ⟨fun j hj hin => by rw [hrt.rkp (x0, y0, x1, y1) hj]; exact hno j (by omega) hin, rfl⟩⟩)) d_CI_nth_77
        · refine lv_aload_n hx hb d_CI_nth_40 rfl (lv_at hl 2 rfl) ?_
          refine y_getN S hk hP 5 rfl f_CI_76 rfl d_CI_nth_41 ?_
          refine lv_iload hx hb d_CI_nth_44 (lv_at hl 0 rfl) ?_
          refine y_ald hx hb hk hP 7 rfl (by omega) (by decide) d_CI_nth_46 ?_
          refine lv_istore hx hb d_CI_nth_47 hl (by decide) rfl (fun ls hl => ?_)
          have hl : lv_has ls 7 [(6, .int (nI (Ct q))), (5, .int (nI q)), (4, .int (nI g)), (3, .ref rt), (2, .int i), (1, .int (nI 1)), (0, .ref o)] := hl
          refine lv_aload_n hx hb d_CI_nth_49 rfl (lv_at hl 6 rfl) ?_
          refine lv_iload hx hb d_CI_nth_50 (lv_at hl 0 rfl) ?_
          refine vp_callSi (va_Run.run (run_V S v_CI_80 (c_CI_isInFrame la G o rw rt fr L x0 y0 x1 y1 (Ct q) hL (by omega) (by omega) (by omega) (by omega) (hCt q)) ⟨rfl, rfl⟩ ⟨Nat.le_of_ble_eq_true rfl, Nat.le_of_ble_eq_true rfl⟩ (preR_V hP hk hs [0, 9] rfl 0 rfl rfl) (rest := []) rfl hl.1 rfl (Nat.le_of_ble_eq_true rfl) d_CI_nth_52 ⟨Nat.le_refl _, Nat.le_refl _⟩)) (fun r2 hr2 => ?_)
          rcases hr2 with ⟨rfl, q2⟩ | ⟨rfl, q2⟩
          · refine lv_if_eq hx hb d_CI_nth_55 (tgt := 70) (by decide) (fun h => absurd h (by decide)) (fun _ => ?_)
            refine lv_iload hx hb d_CI_nth_58 (lv_at hl 2 rfl) ?_
            refine lv_iload_n hx hb d_CI_nth_60 rfl (lv_at hl 4 rfl) ?_
            refine lv_icmp_ne hx hb d_CI_nth_61 (tgt := 67) (by decide) (fun h61 => ?_) (fun h61 => ?_)
            · refine lv_iinc (v := nI (g + 1)) hx hb d_CI_nth_67 hl (k := 2) rfl (ii_p _ 1) (by decide) rfl (fun ls hl => ?_)
              have hl : lv_has ls 7 [(4, .int (nI (g + 1))), (6, .int (nI (Ct q))), (5, .int (nI q)), (3, .ref rt), (2, .int i), (1, .int (nI 1)), (0, .ref o)] := hl
              refine lv_iinc (v := nI (q + 1)) hx hb d_CI_nth_70 hl (k := 2) rfl (ii_p _ 1) (by decide) rfl (fun ls hl => ?_)
              have hl : lv_has ls 7 [(5, .int (nI (q + 1))), (4, .int (nI (g + 1))), (6, .int (nI (Ct q))), (3, .ref rt), (2, .int i), (1, .int (nI 1)), (0, .ref o)] := hl
              refine lv_goto hx hb d_CI_nth_73 (tgt := 31) (by decide) ?_
              have hl := lv_sub hl [0, 1, 3, 4, 5, 6] rfl
              exact ih (q + 1) _ _ (by omega) hl (by omega) (by first | rw [hg, ins_1 q2] | rw [hg, ins_0 q2]) (fun j hj hin => by rcases Nat.lt_or_ge j q with z | z; exact hno j z hin; obtain rfl : j = q := (by omega); first | exact fun z => h61 (by rw [hg]; exact z) | exact absurd (hin.symm.trans q2) (by decide))
            · refine lv_iload hx hb d_CI_nth_64 (lv_at hl 0 rfl) ?_
              exact hret _ _ _ rfl (Or.inr (Or.inl ⟨rfl, Or.inl ⟨q, by omega, q2, by rw [hrt.rkp (x0, y0, x1, y1) (by omega), ← hg]; exact h61, rfl⟩⟩)) d_CI_nth_66
          · refine lv_if_eq hx hb d_CI_nth_55 (tgt := 70) (by decide) (fun _ => ?_) (fun h => absurd (by decide) h)
            refine lv_iinc (v := nI (q + 1)) hx hb d_CI_nth_70 hl (k := 1) rfl (ii_p _ 1) (by decide) rfl (fun ls hl => ?_)
            have hl : lv_has ls 7 [(5, .int (nI (q + 1))), (6, .int (nI (Ct q))), (4, .int (nI g)), (3, .ref rt), (2, .int i), (1, .int (nI 1)), (0, .ref o)] := hl
            refine lv_goto hx hb d_CI_nth_73 (tgt := 31) (by decide) ?_
            have hl := lv_sub hl [0, 2, 3, 4, 5, 6] rfl
            exact ih (q + 1) _ _ (by omega) hl (by omega) (by first | rw [hg, ins_1 q2] | rw [hg, ins_0 q2]) (fun j hj hin => by rcases Nat.lt_or_ge j q with z | z; exact hno j z hin; obtain rfl : j = q := (by omega); first | exact fun z => h61 (by rw [hg]; exact z) | exact absurd (hin.symm.trans q2) (by decide))
  · refine lv_if_ne hx hb d_CI_nth_4 (tgt := 9) (by decide) (fun h => absurd rfl h) (fun _ => ?_)
    refine lv_iconst (v := (-1)) hx hb d_CI_nth_7 (by decide) ?_
    exact hret _ _ _ rfl (Or.inr (Or.inr ⟨q1, rfl⟩)) d_CI_nth_8
set_option maxHeartbeats 4000000 in
set_option maxRecDepth 100000 in
theorem c_CI_nearest (la : Launch) (G : gG) (o rw kw_ cw_ vw_ rt kt_ ct_ vt_ fr L nw nt x0 y0 x1 y1 : Nat) (Kw Cw Vw Kt Ct Vt : Nat → Nat) (x y : Int32) (hC : okC (L, (nw, Kw, Cw, Vw), (nt, Kt, Ct, Vt), (x0, y0, x1, y1))) : MetR la y_CI_nearest b_CI_nearest 10 .int 2 48 [.ref o, .int x, .int y] G [(o, .inr (0, [.ref rw, .ref rt, .int (nI L), .ref fr])), (rw, .inr (1, [.ref kw_, .ref cw_, .ref vw_, .int (nI nw)])), (kw_, .inl (G.2.1, 500, .inl (fun zz => nI (Kw zz)))), (cw_, .inl (G.2.1, 500, .inl (fun zz => nI (Cw zz)))), (vw_, .inl (G.2.1, 500, .inl (fun zz => nI (Vw zz)))), (rt, .inr (1, [.ref kt_, .ref ct_, .ref vt_, .int (nI nt)])), (kt_, .inl (G.2.1, 500, .inl (fun zz => nI (Kt zz)))), (ct_, .inl (G.2.1, 500, .inl (fun zz => nI (Ct zz)))), (vt_, .inl (G.2.1, 500, .inl (fun zz => nI (Vt zz)))), (fr, .inr (2, [.int (nI x0), .int (nI y0), .int (nI x1), .int (nI y1)]))] (fun r => nearQ L nt Ct x y r) := by
  refine MetR.mk (by decide +kernel) (Nat.le_of_ble_eq_true rfl) ?_
  intro p e s m below meth c Q ls S hP hk hs hret hl
  have hx := S.1
  have hb := S.2.1
  obtain ⟨⟨hL1, hL⟩, hrw, hrt, ⟨hKw, hCw, hVw⟩, ⟨hKt, hCt, hVt⟩, hF, hsm⟩ := hC
  dsimp only at hL1 hL hrw hrt hKw hCw hVw hKt hCt hVt hF hsm
  have hFb := hF.b hL
  obtain ⟨hf1, hf2, hf3, hf4⟩ := hF
  dsimp only at hf1 hf2 hf3 hf4 hFb
  have hp2 := p2_15 hL
  have hp4 := p4_15 hL
  have hpp := Nat.two_pow_pos L
  have hnw := hrw.1
  have hnt := hrt.1
  have hl : lv_has ls 10 [(0, .ref o), (1, .int x), (2, .int y)] := hl
  refine lv_aload_n hx hb d_CI_nearest_0 rfl (lv_at hl 0 rfl) ?_
  refine lv_iload_n hx hb d_CI_nearest_1 rfl (lv_at hl 1 rfl) ?_
  refine lv_iload_n hx hb d_CI_nearest_2 rfl (lv_at hl 2 rfl) ?_
  refine vp_callSi (va_Run.run (run_V S v_CI_39 (c_CI_isCell la G o rw rt fr L x y hL) ⟨rfl, rfl⟩ ⟨Nat.le_of_ble_eq_true rfl, Nat.le_of_ble_eq_true rfl⟩ (preR_V hP hk hs [0] rfl 0 rfl rfl) (rest := []) rfl hl.1 rfl (Nat.le_of_ble_eq_true rfl) d_CI_nearest_3 ⟨Nat.le_refl _, Nat.le_refl _⟩)) (fun r1 hr1 => ?_)
  rcases hr1 with ⟨rfl, a, b, ha, hb', rfl, rfl⟩ | ⟨rfl, q1⟩
  · have hl : lv_has ls 10 [(0, .ref o), (1, .int (nI a)), (2, .int (nI b))] := hl
    refine lv_if_ne hx hb d_CI_nearest_6 (tgt := 11) (by decide) (fun _ => ?_) (fun h => absurd h (by decide))
    refine lv_iconst (v := (-1)) hx hb d_CI_nearest_11 (by decide) ?_
    refine lv_istore_n hx hb d_CI_nearest_12 rfl hl (by decide) rfl (fun ls hl => ?_)
    have hl : lv_has ls 10 [(3, .int (-1)), (0, .ref o), (1, .int (nI a)), (2, .int (nI b))] := hl
    refine lv_lconst (v := lN 0) hx hb d_CI_nearest_13 (by decide) ?_
    refine lv_lstore hx hb d_CI_nearest_14 hl (by decide) rfl (fun ls hl => ?_)
    have hl : lv_has ls 10 [(4, .long (lN 0)), (3, .int (-1)), (0, .ref o), (1, .int (nI a)), (2, .int (nI b))] := hl
    refine lv_iconst (v := nI 0) hx hb d_CI_nearest_16 (by decide) ?_
    refine lv_istore hx hb d_CI_nearest_17 hl (by decide) rfl (fun ls hl => ?_)
    have hl : lv_has ls 10 [(6, .int (nI 0)), (4, .long (lN 0)), (3, .int (-1)), (0, .ref o), (1, .int (nI a)), (2, .int (nI b))] := hl
    have hl := lv_sub hl [0, 1, 2, 4, 5, 3] rfl
    have hdq : ∀ j, j < nt → dq L a b (Ct j) < 2 ^ 40 := fun j hj => dq_lt hL ha hb' (hrt.2.1 j hj).1
    refine (?_ : ∀ (d : Nat) (q : Nat) (bb : Int32) (dd : Int64) (ls : Array Slot), nt - q < d → lv_has ls 10 [(6, .int (nI q)), (4, .long dd), (3, .int bb), (1, .int (nI a)), (2, .int (nI b)), (0, .ref o)] → (q ≤ nt) → (nrI L a b Ct q bb dd) → W p la e _ s m _ below meth c s.heap [] 0 0 Q (F0 m 19 ls [])) (nt - 0 + 1) 0 (-1) (lN 0) ls (Nat.lt_succ_self _) hl (Nat.zero_le _) (Or.inl ⟨rfl, rfl⟩)
    intro d
    induction d with
    | zero => intro q bb dd ls hd; exact absurd hd (Nat.not_lt_zero _)
    | succ d ih =>
      intro q bb dd ls hd hl hq hi
      refine lv_iload hx hb d_CI_nearest_19 (lv_at hl 0 rfl) ?_
      refine lv_aload_n hx hb d_CI_nearest_21 rfl (lv_at hl 5 rfl) ?_
      refine y_get S hk hP 0 rfl f_CI_16 rfl d_CI_nearest_22 ?_
      refine y_getN S hk hP 5 rfl f_CI_73 rfl d_CI_nearest_25 ?_
      refine x_icmp_ge hx hb d_CI_nearest_28 (tgt := 79) (by decide) (by omega) (by omega) (fun h28 => ?_) (fun h28 => ?_)
      · refine lv_iload_n hx hb d_CI_nearest_79 rfl (lv_at hl 2 rfl) ?_
        exact hret _ _ _ rfl (Or.inl ⟨a, b, ha, hb', rfl, rfl, nrI_end hrt (by rw [show nt = q by omega]; exact hi)⟩) d_CI_nearest_80
      · refine lv_aload_n hx hb d_CI_nearest_31 rfl (lv_at hl 5 rfl) ?_
        refine y_get S hk hP 0 rfl f_CI_16 rfl d_CI_nearest_32 ?_
        refine y_getN S hk hP 5 rfl f_CI_76 rfl d_CI_nearest_35 ?_
        refine lv_iload hx hb d_CI_nearest_38 (lv_at hl 0 rfl) ?_
        refine y_ald hx hb hk hP 7 rfl (by omega) (by decide) d_CI_nearest_40 ?_
        refine lv_istore hx hb d_CI_nearest_41 hl (by decide) rfl (fun ls hl => ?_)
        have hl : lv_has ls 10 [(7, .int (nI (Ct q))), (6, .int (nI q)), (4, .long dd), (3, .int bb), (1, .int (nI a)), (2, .int (nI b)), (0, .ref o)] := hl
        refine lv_aload_n hx hb d_CI_nearest_43 rfl (lv_at hl 6 rfl) ?_
        refine lv_iload_n hx hb d_CI_nearest_44 rfl (lv_at hl 4 rfl) ?_
        refine lv_iload_n hx hb d_CI_nearest_45 rfl (lv_at hl 5 rfl) ?_
        refine lv_iload hx hb d_CI_nearest_46 (lv_at hl 0 rfl) ?_
        refine vp_callSl (va_Run.run (run_V S v_CI_104 (c_CI_squaredDistance la G o rw rt fr L a b (Ct q) hL ha hb' (hrt.2.1 q (by omega)).1) ⟨rfl, rfl⟩ ⟨Nat.le_of_ble_eq_true rfl, Nat.le_of_ble_eq_true rfl⟩ (preR_V hP hk hs [0] rfl 0 rfl rfl) (rest := []) rfl hl.1 rfl (Nat.le_of_ble_eq_true rfl) d_CI_nearest_48 ⟨Nat.le_refl _, Nat.le_refl _⟩)) (fun r2 hr2 => ?_)
        subst hr2
        refine lv_lstore hx hb d_CI_nearest_51 hl (by decide) rfl (fun ls hl => ?_)
        have hl : lv_has ls 10 [(8, .long (lN (dq L a b (Ct q)))), (7, .int (nI (Ct q))), (6, .int (nI q)), (4, .long dd), (3, .int bb), (1, .int (nI a)), (2, .int (nI b)), (0, .ref o)] := hl
        refine lv_iload_n hx hb d_CI_nearest_53 rfl (lv_at hl 4 rfl) ?_
        refine lv_iconst (v := (-1)) hx hb d_CI_nearest_54 (by decide) ?_
        refine lv_icmp_eq hx hb d_CI_nearest_55 (tgt := 66) (by decide) (fun h55 => ?_) (fun h55 => ?_)
        · refine lv_iload hx hb d_CI_nearest_66 (lv_at hl 1 rfl) ?_
          refine lv_istore_n hx hb d_CI_nearest_68 rfl hl (by decide) rfl (fun ls hl => ?_)
          have hl : lv_has ls 10 [(3, .int (nI (Ct q))), (8, .long (lN (dq L a b (Ct q)))), (7, .int (nI (Ct q))), (6, .int (nI q)), (4, .long dd), (1, .int (nI a)), (2, .int (nI b)), (0, .ref o)] := hl
          refine lv_lload hx hb d_CI_nearest_69 (lv_at hl 1 rfl) ?_
          refine lv_lstore hx hb d_CI_nearest_71 hl (by decide) rfl (fun ls hl => ?_)
          have hl : lv_has ls 10 [(4, .long (lN (dq L a b (Ct q)))), (3, .int (nI (Ct q))), (8, .long (lN (dq L a b (Ct q)))), (7, .int (nI (Ct q))), (6, .int (nI q)), (1, .int (nI a)), (2, .int (nI b)), (0, .ref o)] := hl
          refine lv_iinc (v := nI (q + 1)) hx hb d_CI_nearest_73 hl (k := 4) rfl (ii_p _ 1) (by decide) rfl (fun ls hl => ?_)
          have hl : lv_has ls 10 [(6, .int (nI (q + 1))), (4, .long (lN (dq L a b (Ct q)))), (3, .int (nI (Ct q))), (8, .long (lN (dq L a b (Ct q)))), (7, .int (nI (Ct q))), (1, .int (nI a)), (2, .int (nI b)), (0, .ref o)] := hl
          refine lv_goto hx hb d_CI_nearest_76 (tgt := 19) (by decide) ?_
          have hl := lv_sub hl [0, 1, 2, 5, 6, 7] rfl
          exact ih (q + 1) _ _ _ (by omega) hl (by omega) (by first | exact nrI_new hi (fun j _ => hCt j) h55 | exact nrI_lt hi (fun j hj => hdq j (by omega)) h55 (lg_lt_of h63) | exact nrI_ge hi (fun j hj => hdq j (by omega)) h55 ((lg_cmp_ge _ _).1 h63))
        · refine lv_lload hx hb d_CI_nearest_58 (lv_at hl 0 rfl) ?_
          refine lv_lload hx hb d_CI_nearest_60 (lv_at hl 3 rfl) ?_
          refine W.lcmp hx hb d_CI_nearest_62 ?_
          refine lv_if_ge hx hb d_CI_nearest_63 (tgt := 73) (by decide) (fun h63 => ?_) (fun h63 => ?_)
          · refine lv_iinc (v := nI (q + 1)) hx hb d_CI_nearest_73 hl (k := 2) rfl (ii_p _ 1) (by decide) rfl (fun ls hl => ?_)
            have hl : lv_has ls 10 [(6, .int (nI (q + 1))), (8, .long (lN (dq L a b (Ct q)))), (7, .int (nI (Ct q))), (4, .long dd), (3, .int bb), (1, .int (nI a)), (2, .int (nI b)), (0, .ref o)] := hl
            refine lv_goto hx hb d_CI_nearest_76 (tgt := 19) (by decide) ?_
            have hl := lv_sub hl [0, 3, 4, 5, 6, 7] rfl
            exact ih (q + 1) _ _ _ (by omega) hl (by omega) (by first | exact nrI_new hi (fun j _ => hCt j) h55 | exact nrI_lt hi (fun j hj => hdq j (by omega)) h55 (lg_lt_of h63) | exact nrI_ge hi (fun j hj => hdq j (by omega)) h55 ((lg_cmp_ge _ _).1 h63))
          · refine lv_iload hx hb d_CI_nearest_66 (lv_at hl 1 rfl) ?_
            refine lv_istore_n hx hb d_CI_nearest_68 rfl hl (by decide) rfl (fun ls hl => ?_)
            have hl : lv_has ls 10 [(3, .int (nI (Ct q))), (8, .long (lN (dq L a b (Ct q)))), (7, .int (nI (Ct q))), (6, .int (nI q)), (4, .long dd), (1, .int (nI a)), (2, .int (nI b)), (0, .ref o)] := hl
            refine lv_lload hx hb d_CI_nearest_69 (lv_at hl 1 rfl) ?_
            refine lv_lstore hx hb d_CI_nearest_71 hl (by decide) rfl (fun ls hl => ?_)
            have hl : lv_has ls 10 [(4, .long (lN (dq L a b (Ct q)))), (3, .int (nI (Ct q))), (8, .long (lN (dq L a b (Ct q)))), (7, .int (nI (Ct q))), (6, .int (nI q)), (1, .int (nI a)), (2, .int (nI b)), (0, .ref o)] := hl
            refine lv_iinc (v := nI (q + 1)) hx hb d_CI_nearest_73 hl (k := 4) rfl (ii_p _ 1) (by decide) rfl (fun ls hl => ?_)
            have hl : lv_has ls 10 [(6, .int (nI (q + 1))), (4, .long (lN (dq L a b (Ct q)))), (3, .int (nI (Ct q))), (8, .long (lN (dq L a b (Ct q)))), (7, .int (nI (Ct q))), (1, .int (nI a)), (2, .int (nI b)), (0, .ref o)] := hl
            refine lv_goto hx hb d_CI_nearest_76 (tgt := 19) (by decide) ?_
            have hl := lv_sub hl [0, 1, 2, 5, 6, 7] rfl
            exact ih (q + 1) _ _ _ (by omega) hl (by omega) (by first | exact nrI_new hi (fun j _ => hCt j) h55 | exact nrI_lt hi (fun j hj => hdq j (by omega)) h55 (lg_lt_of h63) | exact nrI_ge hi (fun j hj => hdq j (by omega)) h55 ((lg_cmp_ge _ _).1 h63))
  · refine lv_if_ne hx hb d_CI_nearest_6 (tgt := 11) (by decide) (fun h => absurd rfl h) (fun _ => ?_)
    refine lv_iconst (v := (-1)) hx hb d_CI_nearest_9 (by decide) ?_
    exact hret _ _ _ rfl (Or.inr ⟨q1, rfl⟩) d_CI_nearest_10
end
section
/-! what put and take make of the class's state -/
theorem keep_bd {n : Nat} {K C V : Nat → Nat} {key c w : Nat} {u : rS} (h : bdr (n, K, C, V)) (hk : key < 2147483648) (hc : c < 2147483648) (hw : w < 2147483648) (hr : keepR n K C V key c w u) : bdr u := by
  obtain ⟨h1, h2, h3⟩ := h
  obtain ⟨p, ha, ⟨-, -, rfl⟩ | ⟨-, -, rfl⟩ | ⟨-, -, rfl⟩⟩ := hr
  · exact ⟨bd_up h1 hk, bd_up h2 hc, bd_up h3 hw⟩
  · exact ⟨bd_up (bd_cpy h1 h1) hk, bd_up (bd_cpy h2 h2) hc, bd_up (bd_cpy h3 h3) hw⟩
  · exact ⟨h1, h2, h3⟩
theorem drop_bd {n : Nat} {K C V : Nat → Nat} {key : Nat} {u : rS} (h : bdr (n, K, C, V)) (hr : dropR n K C V key u) : bdr u := by
  obtain ⟨h1, h2, h3⟩ := h
  obtain ⟨p, ha, ⟨-, -, rfl⟩ | ⟨-, rfl⟩⟩ := hr
  · exact ⟨bd_cpy h1 h1, bd_cpy h2 h2, bd_cpy h3 h3⟩
  · exact ⟨h1, h2, h3⟩
theorem put_all {L nw nt : Nat} {Kw Cw Vw Kt Ct Vt : Nat → Nat} {F : fQ} {a b k : Nat} {u1 u2 : rS} (h : okC (L, (nw, Kw, Cw, Vw), (nt, Kt, Ct, Vt), F)) (ha : a < 2 ^ L) (hb : b < 2 ^ L) (hk : 1 ≤ k ∧ k ≤ 999) (hf : wt nt Ct Vt (a * 2 ^ L + b) ≠ 0 ∨ nt < 500) (h1 : keepR nw Kw Cw Vw (kk 0 L a b) (a * 2 ^ L + b) k u1) (h2 : keepR nt Kt Ct Vt (kk 1 L a b) (a * 2 ^ L + b) k u2) : okC (L, u1, u2, F) ∧ putS nt Ct Vt (a * 2 ^ L + b) k u2.1 u2.2.2.1 u2.2.2.2 := by
  obtain ⟨hl, hw, ht, bw, bt, hF, hs⟩ := h
  dsimp only at hl hw ht bw bt hF hs
  have hc := (cl_mk ha hb).1
  have h4 := p4_15 hl.2
  have k0 := kk_lt (cu := 0) ha hb
  have k1 := kk_lt (cu := 1) ha hb
  have e0 := ke_mk (cu := 0) ha hb
  have e1 := ke_mk (cu := 1) ha hb
  have bd1 := keep_bd bw (by omega) (by omega) (by omega) h1
  have bd2 := keep_bd bt (by omega) (by omega) (by omega) h2
  rw [← e0] at h1
  rw [← e1] at h2
  have hf' : wt nw Cw Vw (a * 2 ^ L + b) ≠ 0 ∨ nw < 500 := by
    rw [hs.wt, hs.many]
    exact hf
  obtain ⟨g1, p1⟩ := keep_ok hw hc hk h1 hf'
  obtain ⟨g2, p2⟩ := keep_ok ht hc hk h2 hf
  exact ⟨⟨hl, g1, g2, bd1, bd2, hF, same.put hs p1 p2⟩, p2⟩
theorem take_all {L nw nt : Nat} {Kw Cw Vw Kt Ct Vt : Nat → Nat} {F : fQ} {a b : Nat} {u1 u2 : rS} (h : okC (L, (nw, Kw, Cw, Vw), (nt, Kt, Ct, Vt), F)) (ha : a < 2 ^ L) (hb : b < 2 ^ L) (h1 : dropR nw Kw Cw Vw (kk 0 L a b) u1) (h2 : dropR nt Kt Ct Vt (kk 1 L a b) u2) : okC (L, u1, u2, F) ∧ takS nt Ct Vt (a * 2 ^ L + b) u2.1 u2.2.2.1 u2.2.2.2 := by
  obtain ⟨hl, hw, ht, bw, bt, hF, hs⟩ := h
  dsimp only at hl hw ht bw bt hF hs
  have hc := (cl_mk ha hb).1
  have e0 := ke_mk (cu := 0) ha hb
  have e1 := ke_mk (cu := 1) ha hb
  have bd1 := drop_bd bw h1
  have bd2 := drop_bd bt h2
  rw [← e0] at h1
  rw [← e1] at h2
  obtain ⟨g1, p1⟩ := drop_ok hw hc h1
  obtain ⟨g2, p2⟩ := drop_ok ht hc h2
  exact ⟨⟨hl, g1, g2, bd1, bd2, hF, same.take hs p1 p2⟩, p2⟩
theorem okr_0 {cu N : Nat} {K C V : Nat → Nat} : okr cu N 0 K C V := ⟨by omega, fun i hi => absurd hi (Nat.not_lt_zero _), fun i j _ hj => absurd hj (Nat.not_lt_zero _)⟩
theorem okF_0 {L : Nat} : okF L (0, 0, 0, 0) := ⟨Nat.le_refl _, Nat.two_pow_pos L, Nat.le_refl _, Nat.two_pow_pos L⟩
/-- the weight is there: of a row by its key -/
theorem wt_of {L nt : Nat} {Kt Ct Vt : Nat → Nat} {a b q : Nat} {r : Int32} (hrt : okr 1 L nt Kt Ct Vt) (ha : a < 2 ^ L) (hb : b < 2 ^ L) (hat : atp nt Kt (kk 1 L a b) q) (hw : (q < nt ∧ Kt q = kk 1 L a b ∧ r = nI (Vt q)) ∨ (¬ (q < nt ∧ Kt q = kk 1 L a b) ∧ r = nI 0)) : r = nI (wt nt Ct Vt (a * 2 ^ L + b)) ∧ wt nt Ct Vt (a * 2 ^ L + b) ≤ 999 := by
  have hcm := (cl_mk ha hb).1
  have hke := ke_mk (cu := 1) ha hb
  rw [← hke] at hat hw
  rcases hw with ⟨g1, g2, rfl⟩ | ⟨g1, rfl⟩
  · rw [hrt.wt1 hcm g1 g2]
    exact ⟨rfl, (hrt.2.1 q g1).2.2.2⟩
  · rw [hrt.wt0 hat g1]
    exact ⟨rfl, by omega⟩
theorem winO_nI {L a b a' b' : Nat} (hL : L ≤ 15) (ha : a < 2 ^ L) (hb : b < 2 ^ L) (ha' : a' < 2 ^ L) (hb' : b' < 2 ^ L) (h : winO L (nI a) (nI b) (nI a') (nI b')) : a ≤ a' ∧ b ≤ b' := by
  obtain ⟨c, d, c', d', h1, h2, h3, h4, e1, e2, e3, e4⟩ := h
  have := p2_15 hL
  rw [nI_eq (by omega) (by omega)] at e1 e2 e3 e4
  omega
theorem winO_1 {L : Nat} {x0 y0 x1 y1 : Int32} (h : winO L x0 y0 x1 y1) : inC L x0 y0 ∧ inC L x1 y1 := by
  obtain ⟨c, d, c', d', h1, h2, h3, h4, rfl, rfl, rfl, rfl⟩ := h
  exact ⟨⟨c, d, by omega, by omega, rfl, rfl⟩, ⟨c', d', h2, h4, rfl, rfl⟩⟩
theorem begO_nI {j : Nat} (hj : j < 2147483648) (h : begO (nI j)) : 1 ≤ j ∧ j ≤ 15 := by
  obtain ⟨k, h1, h2, h3⟩ := h
  rw [nI_eq hj (by omega)] at h3
  omega
theorem begO_ng {x : Int32} (h : x < 0) : ¬ begO x := by
  rintro ⟨k, h1, h2, rfl⟩
  exact nI_pos (by omega) h
theorem putO_nI {L n : Nat} {C V : Nat → Nat} {a b k : Nat} (hL : L ≤ 15) (ha : a < 2 ^ L) (hb : b < 2 ^ L) (hk : k < 2147483648) (h : putO L n C V (nI a) (nI b) (nI k)) : 1 ≤ k ∧ k ≤ 999 ∧ (wt n C V (a * 2 ^ L + b) ≠ 0 ∨ n < 500) := by
  obtain ⟨a', b', k', h1, h2, h3, h4, e1, e2, e3, h5⟩ := h
  have := p2_15 hL
  rw [nI_eq (by omega) (by omega)] at e1 e2 e3
  subst e1 e2 e3
  exact ⟨h3, h4, h5⟩
theorem putO_c {L n : Nat} {C V : Nat → Nat} {x y w : Int32} (h : putO L n C V x y w) : inC L x y ∧ ¬ w < 0 := by
  obtain ⟨a', b', k', h1, h2, h3, h4, rfl, rfl, rfl, h5⟩ := h
  exact ⟨⟨a', b', h1, h2, rfl, rfl⟩, nI_pos (by omega)⟩
end
section
/-! the class's public methods that write (laid by gen/m6.py) -/
set_option maxHeartbeats 4000000 in
set_option maxRecDepth 100000 in
theorem c_CI_begin (la : Launch) (G : gG) (o rw kw_ cw_ vw_ rt kt_ ct_ vt_ fr L nw nt x0 y0 x1 y1 : Nat) (Kw Cw Vw Kt Ct Vt : Nat → Nat) (x : Int32) (hC : okC (L, (nw, Kw, Cw, Vw), (nt, Kt, Ct, Vt), (x0, y0, x1, y1))) : MetW la y_CI_begin b_CI_begin 2 .boolean 2 36 1 4 [.ref o, .int x] G [(o, .inr (0, [.ref rw, .ref rt, .int (nI L), .ref fr])), (rw, .inr (1, [.ref kw_, .ref cw_, .ref vw_, .int (nI nw)])), (kw_, .inl (G.2.1, 500, .inl (fun zz => nI (Kw zz)))), (cw_, .inl (G.2.1, 500, .inl (fun zz => nI (Cw zz)))), (vw_, .inl (G.2.1, 500, .inl (fun zz => nI (Vw zz)))), (rt, .inr (1, [.ref kt_, .ref ct_, .ref vt_, .int (nI nt)])), (kt_, .inl (G.2.1, 500, .inl (fun zz => nI (Kt zz)))), (ct_, .inl (G.2.1, 500, .inl (fun zz => nI (Ct zz)))), (vt_, .inl (G.2.1, 500, .inl (fun zz => nI (Vt zz)))), (fr, .inr (2, [.int (nI x0), .int (nI y0), .int (nI x1), .int (nI y1)]))] (S := cS × Nat) (fun r u => (∃ j, 1 ≤ j ∧ j ≤ 15 ∧ x = nI j ∧ r = 1 ∧ u.1 = (j, (0, Kw, Cw, Vw), (0, Kt, Ct, Vt), (0, 0, 0, 0))) ∨ (¬ begO x ∧ r = 0 ∧ u = ((L, (nw, Kw, Cw, Vw), (nt, Kt, Ct, Vt), (x0, y0, x1, y1)), fr))) (fun u => [(o, .inr (0, [.ref rw, .ref rt, .int (nI u.1.1), .ref u.2])), (rw, .inr (1, [.ref kw_, .ref cw_, .ref vw_, .int (nI u.1.2.1.1)])), (kw_, .inl (G.2.1, 500, .inl (fun zz => nI (u.1.2.1.2.1 zz)))), (cw_, .inl (G.2.1, 500, .inl (fun zz => nI (u.1.2.1.2.2.1 zz)))), (vw_, .inl (G.2.1, 500, .inl (fun zz => nI (u.1.2.1.2.2.2 zz)))), (rt, .inr (1, [.ref kt_, .ref ct_, .ref vt_, .int (nI u.1.2.2.1.1)])), (kt_, .inl (G.2.1, 500, .inl (fun zz => nI (u.1.2.2.1.2.1 zz)))), (ct_, .inl (G.2.1, 500, .inl (fun zz => nI (u.1.2.2.1.2.2.1 zz)))), (vt_, .inl (G.2.1, 500, .inl (fun zz => nI (u.1.2.2.1.2.2.2 zz)))), (u.2, .inr (2, [.int (nI u.1.2.2.2.1), .int (nI u.1.2.2.2.2.1), .int (nI u.1.2.2.2.2.2.1), .int (nI u.1.2.2.2.2.2.2)]))]) := by
  refine MetW.mk (by decide +kernel) (Nat.le_of_ble_eq_true rfl) ?_
  intro p e s m below meth c Q A ls S hP hD hA hS hk hs hret hl
  have hx := S.1
  have hb := S.2.1
  have hP : va_P G.1 cls [(o, .inr (0, [.ref rw, .ref rt, .int (nI L), .ref fr])), (rw, .inr (1, [.ref kw_, .ref cw_, .ref vw_, .int (nI nw)])), (kw_, .inl (G.2.1, 500, .inl (fun zz => nI (Kw zz)))), (cw_, .inl (G.2.1, 500, .inl (fun zz => nI (Cw zz)))), (vw_, .inl (G.2.1, 500, .inl (fun zz => nI (Vw zz)))), (rt, .inr (1, [.ref kt_, .ref ct_, .ref vt_, .int (nI nt)])), (kt_, .inl (G.2.1, 500, .inl (fun zz => nI (Kt zz)))), (ct_, .inl (G.2.1, 500, .inl (fun zz => nI (Ct zz)))), (vt_, .inl (G.2.1, 500, .inl (fun zz => nI (Vt zz)))), (fr, .inr (2, [.int (nI x0), .int (nI y0), .int (nI x1), .int (nI y1)]))] s.heap := hP
  have hD : va_D A [(o, .inr (0, [.ref rw, .ref rt, .int (nI L), .ref fr])), (rw, .inr (1, [.ref kw_, .ref cw_, .ref vw_, .int (nI nw)])), (kw_, .inl (G.2.1, 500, .inl (fun zz => nI (Kw zz)))), (cw_, .inl (G.2.1, 500, .inl (fun zz => nI (Cw zz)))), (vw_, .inl (G.2.1, 500, .inl (fun zz => nI (Vw zz)))), (rt, .inr (1, [.ref kt_, .ref ct_, .ref vt_, .int (nI nt)])), (kt_, .inl (G.2.1, 500, .inl (fun zz => nI (Kt zz)))), (ct_, .inl (G.2.1, 500, .inl (fun zz => nI (Ct zz)))), (vt_, .inl (G.2.1, 500, .inl (fun zz => nI (Vt zz)))), (fr, .inr (2, [.int (nI x0), .int (nI y0), .int (nI x1), .int (nI y1)]))] := hD
  obtain ⟨⟨hL1, hL⟩, hrw, hrt, ⟨hKw, hCw, hVw⟩, ⟨hKt, hCt, hVt⟩, hF, hsm⟩ := hC
  dsimp only at hL1 hL hrw hrt hKw hCw hVw hKt hCt hVt hF hsm
  have hFb := hF.b hL
  obtain ⟨hf1, hf2, hf3, hf4⟩ := hF
  dsimp only at hf1 hf2 hf3 hf4 hFb
  have hp2 := p2_15 hL
  have hp4 := p4_15 hL
  have hpp := Nat.two_pow_pos L
  have hnw := hrw.1
  have hnt := hrt.1
  rcases ng x with hx0 | ⟨a, ha, rfl⟩
  · have hl : lv_has ls 2 [(0, .ref o), (1, .int x)] := hl
    refine lv_iload_n hx hb d_CI_begin_0 rfl (lv_at hl 1 rfl) ?_
    refine lv_iconst (v := nI 1) hx hb d_CI_begin_1 (by decide) ?_
    refine lv_icmp_lt hx hb d_CI_begin_2 (tgt := 11) (by decide) (fun _ => ?_) (fun h => absurd (ng_lt hx0 (by omega)) h)
    refine lv_iconst (v := nI 0) hx hb d_CI_begin_11 (by decide) ?_
    have hP := hP.sub (ws' := [(o, .inr (0, [.ref rw, .ref rt, .int (nI L), .ref fr])), (rw, .inr (1, [.ref kw_, .ref cw_, .ref vw_, .int (nI nw)])), (kw_, .inl (G.2.1, 500, .inl (fun zz => nI (Kw zz)))), (cw_, .inl (G.2.1, 500, .inl (fun zz => nI (Cw zz)))), (vw_, .inl (G.2.1, 500, .inl (fun zz => nI (Vw zz)))), (rt, .inr (1, [.ref kt_, .ref ct_, .ref vt_, .int (nI nt)])), (kt_, .inl (G.2.1, 500, .inl (fun zz => nI (Kt zz)))), (ct_, .inl (G.2.1, 500, .inl (fun zz => nI (Ct zz)))), (vt_, .inl (G.2.1, 500, .inl (fun zz => nI (Vt zz)))), (fr, .inr (2, [.int (nI x0), .int (nI y0), .int (nI x1), .int (nI y1)]))]) [0, 1, 2, 3, 4, 5, 6, 7, 8, 9] rfl
    have hD := hD.sub (ws' := [(o, .inr (0, [.ref rw, .ref rt, .int (nI L), .ref fr])), (rw, .inr (1, [.ref kw_, .ref cw_, .ref vw_, .int (nI nw)])), (kw_, .inl (G.2.1, 500, .inl (fun zz => nI (Kw zz)))), (cw_, .inl (G.2.1, 500, .inl (fun zz => nI (Cw zz)))), (vw_, .inl (G.2.1, 500, .inl (fun zz => nI (Vw zz)))), (rt, .inr (1, [.ref kt_, .ref ct_, .ref vt_, .int (nI nt)])), (kt_, .inl (G.2.1, 500, .inl (fun zz => nI (Kt zz)))), (ct_, .inl (G.2.1, 500, .inl (fun zz => nI (Ct zz)))), (vt_, .inl (G.2.1, 500, .inl (fun zz => nI (Vt zz)))), (fr, .inr (2, [.int (nI x0), .int (nI y0), .int (nI x1), .int (nI y1)]))]) [0, 1, 2, 3, 4, 5, 6, 7, 8, 9] (by decide) rfl
    refine W.widen (k := 1) (n := 4) (Nat.le_of_ble_eq_true rfl) (Nat.le_of_ble_eq_true rfl) ?_
    exact hret _ _ _ ((L, (nw, Kw, Cw, Vw), (nt, Kt, Ct, Vt), (x0, y0, x1, y1)), fr) _ _ (by decide) (Or.inr ⟨by first | exact begO_ng hx0 | exact fun z => absurd (begO_nI ha z) (by omega), by decide, rfl⟩) hP hD hS d_CI_begin_12
  · have hl : lv_has ls 2 [(0, .ref o), (1, .int (nI a))] := hl
    refine lv_iload_n hx hb d_CI_begin_0 rfl (lv_at hl 1 rfl) ?_
    refine lv_iconst (v := nI 1) hx hb d_CI_begin_1 (by decide) ?_
    refine x_icmp_lt hx hb d_CI_begin_2 (tgt := 11) (by decide) (by omega) (by omega) (fun h2 => ?_) (fun h2 => ?_)
    · refine lv_iconst (v := nI 0) hx hb d_CI_begin_11 (by decide) ?_
      have hP := hP.sub (ws' := [(o, .inr (0, [.ref rw, .ref rt, .int (nI L), .ref fr])), (rw, .inr (1, [.ref kw_, .ref cw_, .ref vw_, .int (nI nw)])), (kw_, .inl (G.2.1, 500, .inl (fun zz => nI (Kw zz)))), (cw_, .inl (G.2.1, 500, .inl (fun zz => nI (Cw zz)))), (vw_, .inl (G.2.1, 500, .inl (fun zz => nI (Vw zz)))), (rt, .inr (1, [.ref kt_, .ref ct_, .ref vt_, .int (nI nt)])), (kt_, .inl (G.2.1, 500, .inl (fun zz => nI (Kt zz)))), (ct_, .inl (G.2.1, 500, .inl (fun zz => nI (Ct zz)))), (vt_, .inl (G.2.1, 500, .inl (fun zz => nI (Vt zz)))), (fr, .inr (2, [.int (nI x0), .int (nI y0), .int (nI x1), .int (nI y1)]))]) [0, 1, 2, 3, 4, 5, 6, 7, 8, 9] rfl
      have hD := hD.sub (ws' := [(o, .inr (0, [.ref rw, .ref rt, .int (nI L), .ref fr])), (rw, .inr (1, [.ref kw_, .ref cw_, .ref vw_, .int (nI nw)])), (kw_, .inl (G.2.1, 500, .inl (fun zz => nI (Kw zz)))), (cw_, .inl (G.2.1, 500, .inl (fun zz => nI (Cw zz)))), (vw_, .inl (G.2.1, 500, .inl (fun zz => nI (Vw zz)))), (rt, .inr (1, [.ref kt_, .ref ct_, .ref vt_, .int (nI nt)])), (kt_, .inl (G.2.1, 500, .inl (fun zz => nI (Kt zz)))), (ct_, .inl (G.2.1, 500, .inl (fun zz => nI (Ct zz)))), (vt_, .inl (G.2.1, 500, .inl (fun zz => nI (Vt zz)))), (fr, .inr (2, [.int (nI x0), .int (nI y0), .int (nI x1), .int (nI y1)]))]) [0, 1, 2, 3, 4, 5, 6, 7, 8, 9] (by decide) rfl
      refine W.widen (k := 1) (n := 4) (Nat.le_of_ble_eq_true rfl) (Nat.le_of_ble_eq_true rfl) ?_
      exact hret _ _ _ ((L, (nw, Kw, Cw, Vw), (nt, Kt, Ct, Vt), (x0, y0, x1, y1)), fr) _ _ (by decide) (Or.inr ⟨by first | exact begO_ng hx0 | exact fun z => absurd (begO_nI ha z) (by omega), by decide, rfl⟩) hP hD hS d_CI_begin_12
    · refine lv_iload_n hx hb d_CI_begin_5 rfl (lv_at hl 1 rfl) ?_
      refine lv_bipush (v := nI 15) hx hb d_CI_begin_6 (by decide) ?_
      refine x_icmp_le hx hb d_CI_begin_8 (tgt := 13) (by decide) (by omega) (by omega) (fun h8 => ?_) (fun h8 => ?_)
      · refine lv_aload_n hx hb d_CI_begin_13 rfl (lv_at hl 0 rfl) ?_
        refine lv_iload_n hx hb d_CI_begin_14 rfl (lv_at hl 1 rfl) ?_
        refine y_put S hk hP hD hS 0 rfl f_CI_19 T_0 M_0_2 rfl rfl (Nat.le_of_ble_eq_true rfl) d_CI_begin_15 (fun H locs hP hD hS => ?_)
        have hP : va_P G.1 cls [(o, .inr (0, [.ref rw, .ref rt, .int (nI a), .ref fr])), (rw, .inr (1, [.ref kw_, .ref cw_, .ref vw_, .int (nI nw)])), (kw_, .inl (G.2.1, 500, .inl (fun zz => nI (Kw zz)))), (cw_, .inl (G.2.1, 500, .inl (fun zz => nI (Cw zz)))), (vw_, .inl (G.2.1, 500, .inl (fun zz => nI (Vw zz)))), (rt, .inr (1, [.ref kt_, .ref ct_, .ref vt_, .int (nI nt)])), (kt_, .inl (G.2.1, 500, .inl (fun zz => nI (Kt zz)))), (ct_, .inl (G.2.1, 500, .inl (fun zz => nI (Ct zz)))), (vt_, .inl (G.2.1, 500, .inl (fun zz => nI (Vt zz)))), (fr, .inr (2, [.int (nI x0), .int (nI y0), .int (nI x1), .int (nI y1)]))] H := hP
        have hD : va_D A [(o, .inr (0, [.ref rw, .ref rt, .int (nI a), .ref fr])), (rw, .inr (1, [.ref kw_, .ref cw_, .ref vw_, .int (nI nw)])), (kw_, .inl (G.2.1, 500, .inl (fun zz => nI (Kw zz)))), (cw_, .inl (G.2.1, 500, .inl (fun zz => nI (Cw zz)))), (vw_, .inl (G.2.1, 500, .inl (fun zz => nI (Vw zz)))), (rt, .inr (1, [.ref kt_, .ref ct_, .ref vt_, .int (nI nt)])), (kt_, .inl (G.2.1, 500, .inl (fun zz => nI (Kt zz)))), (ct_, .inl (G.2.1, 500, .inl (fun zz => nI (Ct zz)))), (vt_, .inl (G.2.1, 500, .inl (fun zz => nI (Vt zz)))), (fr, .inr (2, [.int (nI x0), .int (nI y0), .int (nI x1), .int (nI y1)]))] := hD
        refine lv_aload_n hx hb d_CI_begin_18 rfl (lv_at hl 0 rfl) ?_
        refine y_get S hk hP 0 rfl f_CI_10 rfl d_CI_begin_19 ?_
        refine eff_V (wr := [(o, .inr (0, [.ref rw, .ref rt, .int (nI a), .ref fr])), (kw_, .inl (G.2.1, 500, .inl (fun zz => nI (Kw zz)))), (cw_, .inl (G.2.1, 500, .inl (fun zz => nI (Cw zz)))), (vw_, .inl (G.2.1, 500, .inl (fun zz => nI (Vw zz)))), (rt, .inr (1, [.ref kt_, .ref ct_, .ref vt_, .int (nI nt)])), (kt_, .inl (G.2.1, 500, .inl (fun zz => nI (Kt zz)))), (ct_, .inl (G.2.1, 500, .inl (fun zz => nI (Ct zz)))), (vt_, .inl (G.2.1, 500, .inl (fun zz => nI (Vt zz)))), (fr, .inr (2, [.int (nI x0), .int (nI y0), .int (nI x1), .int (nI y1)]))]) (run_VN S hk v_CI_32 (c_Row_clear la G rw kw_ cw_ vw_ nw _) ⟨rfl, rfl⟩ ⟨Nat.le_of_ble_eq_true rfl, Nat.le_of_ble_eq_true rfl⟩ (preW_V hP hD hA hS hk hs [1] (by decide) rfl 1 rfl rfl) (rest := []) rfl hl.1 rfl (Nat.le_of_ble_eq_true rfl) d_CI_begin_22 ⟨Nat.le_of_ble_eq_true rfl, Nat.le_of_ble_eq_true rfl⟩) hP hD hA hS [1] [0, 2, 3, 4, 5, 6, 7, 8, 9] rfl rfl (by decide) (by decide) (fun u H locs hu hP hD hS => ?_)
        have hP : va_P G.1 cls [(o, .inr (0, [.ref rw, .ref rt, .int (nI a), .ref fr])), (kw_, .inl (G.2.1, 500, .inl (fun zz => nI (Kw zz)))), (cw_, .inl (G.2.1, 500, .inl (fun zz => nI (Cw zz)))), (vw_, .inl (G.2.1, 500, .inl (fun zz => nI (Vw zz)))), (rt, .inr (1, [.ref kt_, .ref ct_, .ref vt_, .int (nI nt)])), (kt_, .inl (G.2.1, 500, .inl (fun zz => nI (Kt zz)))), (ct_, .inl (G.2.1, 500, .inl (fun zz => nI (Ct zz)))), (vt_, .inl (G.2.1, 500, .inl (fun zz => nI (Vt zz)))), (fr, .inr (2, [.int (nI x0), .int (nI y0), .int (nI x1), .int (nI y1)])), (rw, .inr (1, [.ref kw_, .ref cw_, .ref vw_, .int (nI 0)]))] H := hP
        have hD : va_D A [(o, .inr (0, [.ref rw, .ref rt, .int (nI a), .ref fr])), (kw_, .inl (G.2.1, 500, .inl (fun zz => nI (Kw zz)))), (cw_, .inl (G.2.1, 500, .inl (fun zz => nI (Cw zz)))), (vw_, .inl (G.2.1, 500, .inl (fun zz => nI (Vw zz)))), (rt, .inr (1, [.ref kt_, .ref ct_, .ref vt_, .int (nI nt)])), (kt_, .inl (G.2.1, 500, .inl (fun zz => nI (Kt zz)))), (ct_, .inl (G.2.1, 500, .inl (fun zz => nI (Ct zz)))), (vt_, .inl (G.2.1, 500, .inl (fun zz => nI (Vt zz)))), (fr, .inr (2, [.int (nI x0), .int (nI y0), .int (nI x1), .int (nI y1)])), (rw, .inr (1, [.ref kw_, .ref cw_, .ref vw_, .int (nI 0)]))] := hD
        refine lv_aload_n hx hb d_CI_begin_25 rfl (lv_at hl 0 rfl) ?_
        refine y_get S hk hP 0 rfl f_CI_16 rfl d_CI_begin_26 ?_
        refine eff_V (wr := [(o, .inr (0, [.ref rw, .ref rt, .int (nI a), .ref fr])), (kw_, .inl (G.2.1, 500, .inl (fun zz => nI (Kw zz)))), (cw_, .inl (G.2.1, 500, .inl (fun zz => nI (Cw zz)))), (vw_, .inl (G.2.1, 500, .inl (fun zz => nI (Vw zz)))), (kt_, .inl (G.2.1, 500, .inl (fun zz => nI (Kt zz)))), (ct_, .inl (G.2.1, 500, .inl (fun zz => nI (Ct zz)))), (vt_, .inl (G.2.1, 500, .inl (fun zz => nI (Vt zz)))), (fr, .inr (2, [.int (nI x0), .int (nI y0), .int (nI x1), .int (nI y1)])), (rw, .inr (1, [.ref kw_, .ref cw_, .ref vw_, .int (nI 0)]))]) (run_VN S hk v_CI_32 (c_Row_clear la G rt kt_ ct_ vt_ nt _) ⟨rfl, rfl⟩ ⟨Nat.le_of_ble_eq_true rfl, Nat.le_of_ble_eq_true rfl⟩ (preW_V hP hD hA hS hk hs [4] (by decide) rfl 4 rfl rfl) (rest := []) rfl hl.1 rfl (Nat.le_of_ble_eq_true rfl) d_CI_begin_29 ⟨Nat.le_of_ble_eq_true rfl, Nat.le_of_ble_eq_true rfl⟩) hP hD hA hS [4] [0, 1, 2, 3, 5, 6, 7, 8, 9] rfl rfl (by decide) (by decide) (fun u H locs hu hP hD hS => ?_)
        have hP : va_P G.1 cls [(o, .inr (0, [.ref rw, .ref rt, .int (nI a), .ref fr])), (kw_, .inl (G.2.1, 500, .inl (fun zz => nI (Kw zz)))), (cw_, .inl (G.2.1, 500, .inl (fun zz => nI (Cw zz)))), (vw_, .inl (G.2.1, 500, .inl (fun zz => nI (Vw zz)))), (kt_, .inl (G.2.1, 500, .inl (fun zz => nI (Kt zz)))), (ct_, .inl (G.2.1, 500, .inl (fun zz => nI (Ct zz)))), (vt_, .inl (G.2.1, 500, .inl (fun zz => nI (Vt zz)))), (fr, .inr (2, [.int (nI x0), .int (nI y0), .int (nI x1), .int (nI y1)])), (rw, .inr (1, [.ref kw_, .ref cw_, .ref vw_, .int (nI 0)])), (rt, .inr (1, [.ref kt_, .ref ct_, .ref vt_, .int (nI 0)]))] H := hP
        have hD : va_D A [(o, .inr (0, [.ref rw, .ref rt, .int (nI a), .ref fr])), (kw_, .inl (G.2.1, 500, .inl (fun zz => nI (Kw zz)))), (cw_, .inl (G.2.1, 500, .inl (fun zz => nI (Cw zz)))), (vw_, .inl (G.2.1, 500, .inl (fun zz => nI (Vw zz)))), (kt_, .inl (G.2.1, 500, .inl (fun zz => nI (Kt zz)))), (ct_, .inl (G.2.1, 500, .inl (fun zz => nI (Ct zz)))), (vt_, .inl (G.2.1, 500, .inl (fun zz => nI (Vt zz)))), (fr, .inr (2, [.int (nI x0), .int (nI y0), .int (nI x1), .int (nI y1)])), (rw, .inr (1, [.ref kw_, .ref cw_, .ref vw_, .int (nI 0)])), (rt, .inr (1, [.ref kt_, .ref ct_, .ref vt_, .int (nI 0)]))] := hD
        refine lv_aload_n hx hb d_CI_begin_32 rfl (lv_at hl 0 rfl) ?_
        refine y_new S hk hP hD hA hS (ci := 2) rfl in_Fr T_2 (wq 61 (by decide +kernel)) (wq 62 (by decide +kernel)) (wq 35 (by decide +kernel)) (fs := [.int (nI 0), .int (nI 0), .int (nI 0), .int (nI 0)]) (fun j hj => by rcases (show j = 0 ∨ j = 1 ∨ j = 2 ∨ j = 3 by omega) with rfl | rfl | rfl | rfl <;> rfl) (Nat.le_of_ble_eq_true rfl) (Nat.le_of_ble_eq_true rfl) d_CI_begin_33 (fun q33 H hP hD hS => ?_)
        have hP : va_P G.1 cls [(o, .inr (0, [.ref rw, .ref rt, .int (nI a), .ref fr])), (kw_, .inl (G.2.1, 500, .inl (fun zz => nI (Kw zz)))), (cw_, .inl (G.2.1, 500, .inl (fun zz => nI (Cw zz)))), (vw_, .inl (G.2.1, 500, .inl (fun zz => nI (Vw zz)))), (kt_, .inl (G.2.1, 500, .inl (fun zz => nI (Kt zz)))), (ct_, .inl (G.2.1, 500, .inl (fun zz => nI (Ct zz)))), (vt_, .inl (G.2.1, 500, .inl (fun zz => nI (Vt zz)))), (fr, .inr (2, [.int (nI x0), .int (nI y0), .int (nI x1), .int (nI y1)])), (rw, .inr (1, [.ref kw_, .ref cw_, .ref vw_, .int (nI 0)])), (rt, .inr (1, [.ref kt_, .ref ct_, .ref vt_, .int (nI 0)])), (q33, .inr (2, [.int (nI 0), .int (nI 0), .int (nI 0), .int (nI 0)]))] H := hP
        have hD : va_D A [(o, .inr (0, [.ref rw, .ref rt, .int (nI a), .ref fr])), (kw_, .inl (G.2.1, 500, .inl (fun zz => nI (Kw zz)))), (cw_, .inl (G.2.1, 500, .inl (fun zz => nI (Cw zz)))), (vw_, .inl (G.2.1, 500, .inl (fun zz => nI (Vw zz)))), (kt_, .inl (G.2.1, 500, .inl (fun zz => nI (Kt zz)))), (ct_, .inl (G.2.1, 500, .inl (fun zz => nI (Ct zz)))), (vt_, .inl (G.2.1, 500, .inl (fun zz => nI (Vt zz)))), (fr, .inr (2, [.int (nI x0), .int (nI y0), .int (nI x1), .int (nI y1)])), (rw, .inr (1, [.ref kw_, .ref cw_, .ref vw_, .int (nI 0)])), (rt, .inr (1, [.ref kt_, .ref ct_, .ref vt_, .int (nI 0)])), (q33, .inr (2, [.int (nI 0), .int (nI 0), .int (nI 0), .int (nI 0)]))] := hD
        refine lv_dup hx hb d_CI_begin_36 rfl ?_
        refine lv_iconst (v := nI 0) hx hb d_CI_begin_37 (by decide) ?_
        refine lv_iconst (v := nI 0) hx hb d_CI_begin_38 (by decide) ?_
        refine lv_iconst (v := nI 0) hx hb d_CI_begin_39 (by decide) ?_
        refine lv_iconst (v := nI 0) hx hb d_CI_begin_40 (by decide) ?_
        refine eff_V (wr := [(o, .inr (0, [.ref rw, .ref rt, .int (nI a), .ref fr])), (kw_, .inl (G.2.1, 500, .inl (fun zz => nI (Kw zz)))), (cw_, .inl (G.2.1, 500, .inl (fun zz => nI (Cw zz)))), (vw_, .inl (G.2.1, 500, .inl (fun zz => nI (Vw zz)))), (kt_, .inl (G.2.1, 500, .inl (fun zz => nI (Kt zz)))), (ct_, .inl (G.2.1, 500, .inl (fun zz => nI (Ct zz)))), (vt_, .inl (G.2.1, 500, .inl (fun zz => nI (Vt zz)))), (fr, .inr (2, [.int (nI x0), .int (nI y0), .int (nI x1), .int (nI y1)])), (rw, .inr (1, [.ref kw_, .ref cw_, .ref vw_, .int (nI 0)])), (rt, .inr (1, [.ref kt_, .ref ct_, .ref vt_, .int (nI 0)]))]) (run_IN S hk v_CI_25 (c_Fr_init la G q33 0 0 0 0 _) ⟨rfl, rfl⟩ ⟨Nat.le_of_ble_eq_true rfl, Nat.le_of_ble_eq_true rfl⟩ (preW_S hP hD hA hS hk hs [10] (by decide) rfl) (rest := [.ref q33, .ref o]) rfl hl.1 rfl (Nat.le_of_ble_eq_true rfl) d_CI_begin_41 ⟨Nat.le_of_ble_eq_true rfl, Nat.le_of_ble_eq_true rfl⟩) hP hD hA hS [10] [0, 1, 2, 3, 4, 5, 6, 7, 8, 9] rfl rfl (by decide) (by decide) (fun u H locs hu hP hD hS => ?_)
        have hP : va_P G.1 cls [(o, .inr (0, [.ref rw, .ref rt, .int (nI a), .ref fr])), (kw_, .inl (G.2.1, 500, .inl (fun zz => nI (Kw zz)))), (cw_, .inl (G.2.1, 500, .inl (fun zz => nI (Cw zz)))), (vw_, .inl (G.2.1, 500, .inl (fun zz => nI (Vw zz)))), (kt_, .inl (G.2.1, 500, .inl (fun zz => nI (Kt zz)))), (ct_, .inl (G.2.1, 500, .inl (fun zz => nI (Ct zz)))), (vt_, .inl (G.2.1, 500, .inl (fun zz => nI (Vt zz)))), (fr, .inr (2, [.int (nI x0), .int (nI y0), .int (nI x1), .int (nI y1)])), (rw, .inr (1, [.ref kw_, .ref cw_, .ref vw_, .int (nI 0)])), (rt, .inr (1, [.ref kt_, .ref ct_, .ref vt_, .int (nI 0)])), (q33, .inr (2, [.int (nI 0), .int (nI 0), .int (nI 0), .int (nI 0)]))] H := hP
        have hD : va_D A [(o, .inr (0, [.ref rw, .ref rt, .int (nI a), .ref fr])), (kw_, .inl (G.2.1, 500, .inl (fun zz => nI (Kw zz)))), (cw_, .inl (G.2.1, 500, .inl (fun zz => nI (Cw zz)))), (vw_, .inl (G.2.1, 500, .inl (fun zz => nI (Vw zz)))), (kt_, .inl (G.2.1, 500, .inl (fun zz => nI (Kt zz)))), (ct_, .inl (G.2.1, 500, .inl (fun zz => nI (Ct zz)))), (vt_, .inl (G.2.1, 500, .inl (fun zz => nI (Vt zz)))), (fr, .inr (2, [.int (nI x0), .int (nI y0), .int (nI x1), .int (nI y1)])), (rw, .inr (1, [.ref kw_, .ref cw_, .ref vw_, .int (nI 0)])), (rt, .inr (1, [.ref kt_, .ref ct_, .ref vt_, .int (nI 0)])), (q33, .inr (2, [.int (nI 0), .int (nI 0), .int (nI 0), .int (nI 0)]))] := hD
        refine y_put S hk hP hD hS 0 rfl f_CI_28 T_0 M_0_3 rfl rfl (Nat.le_of_ble_eq_true rfl) d_CI_begin_44 (fun H locs hP hD hS => ?_)
        have hP : va_P G.1 cls [(o, .inr (0, [.ref rw, .ref rt, .int (nI a), .ref q33])), (kw_, .inl (G.2.1, 500, .inl (fun zz => nI (Kw zz)))), (cw_, .inl (G.2.1, 500, .inl (fun zz => nI (Cw zz)))), (vw_, .inl (G.2.1, 500, .inl (fun zz => nI (Vw zz)))), (kt_, .inl (G.2.1, 500, .inl (fun zz => nI (Kt zz)))), (ct_, .inl (G.2.1, 500, .inl (fun zz => nI (Ct zz)))), (vt_, .inl (G.2.1, 500, .inl (fun zz => nI (Vt zz)))), (fr, .inr (2, [.int (nI x0), .int (nI y0), .int (nI x1), .int (nI y1)])), (rw, .inr (1, [.ref kw_, .ref cw_, .ref vw_, .int (nI 0)])), (rt, .inr (1, [.ref kt_, .ref ct_, .ref vt_, .int (nI 0)])), (q33, .inr (2, [.int (nI 0), .int (nI 0), .int (nI 0), .int (nI 0)]))] H := hP
        have hD : va_D A [(o, .inr (0, [.ref rw, .ref rt, .int (nI a), .ref q33])), (kw_, .inl (G.2.1, 500, .inl (fun zz => nI (Kw zz)))), (cw_, .inl (G.2.1, 500, .inl (fun zz => nI (Cw zz)))), (vw_, .inl (G.2.1, 500, .inl (fun zz => nI (Vw zz)))), (kt_, .inl (G.2.1, 500, .inl (fun zz => nI (Kt zz)))), (ct_, .inl (G.2.1, 500, .inl (fun zz => nI (Ct zz)))), (vt_, .inl (G.2.1, 500, .inl (fun zz => nI (Vt zz)))), (fr, .inr (2, [.int (nI x0), .int (nI y0), .int (nI x1), .int (nI y1)])), (rw, .inr (1, [.ref kw_, .ref cw_, .ref vw_, .int (nI 0)])), (rt, .inr (1, [.ref kt_, .ref ct_, .ref vt_, .int (nI 0)])), (q33, .inr (2, [.int (nI 0), .int (nI 0), .int (nI 0), .int (nI 0)]))] := hD
        refine lv_iconst (v := nI 1) hx hb d_CI_begin_47 (by decide) ?_
        have hP := hP.sub (ws' := [(o, .inr (0, [.ref rw, .ref rt, .int (nI a), .ref q33])), (rw, .inr (1, [.ref kw_, .ref cw_, .ref vw_, .int (nI 0)])), (kw_, .inl (G.2.1, 500, .inl (fun zz => nI (Kw zz)))), (cw_, .inl (G.2.1, 500, .inl (fun zz => nI (Cw zz)))), (vw_, .inl (G.2.1, 500, .inl (fun zz => nI (Vw zz)))), (rt, .inr (1, [.ref kt_, .ref ct_, .ref vt_, .int (nI 0)])), (kt_, .inl (G.2.1, 500, .inl (fun zz => nI (Kt zz)))), (ct_, .inl (G.2.1, 500, .inl (fun zz => nI (Ct zz)))), (vt_, .inl (G.2.1, 500, .inl (fun zz => nI (Vt zz)))), (q33, .inr (2, [.int (nI 0), .int (nI 0), .int (nI 0), .int (nI 0)]))]) [0, 8, 1, 2, 3, 9, 4, 5, 6, 10] rfl
        have hD := hD.sub (ws' := [(o, .inr (0, [.ref rw, .ref rt, .int (nI a), .ref q33])), (rw, .inr (1, [.ref kw_, .ref cw_, .ref vw_, .int (nI 0)])), (kw_, .inl (G.2.1, 500, .inl (fun zz => nI (Kw zz)))), (cw_, .inl (G.2.1, 500, .inl (fun zz => nI (Cw zz)))), (vw_, .inl (G.2.1, 500, .inl (fun zz => nI (Vw zz)))), (rt, .inr (1, [.ref kt_, .ref ct_, .ref vt_, .int (nI 0)])), (kt_, .inl (G.2.1, 500, .inl (fun zz => nI (Kt zz)))), (ct_, .inl (G.2.1, 500, .inl (fun zz => nI (Ct zz)))), (vt_, .inl (G.2.1, 500, .inl (fun zz => nI (Vt zz)))), (q33, .inr (2, [.int (nI 0), .int (nI 0), .int (nI 0), .int (nI 0)]))]) [0, 8, 1, 2, 3, 9, 4, 5, 6, 10] (by decide) rfl
        refine W.widen (k := 1) (n := 4) (Nat.le_of_ble_eq_true rfl) (Nat.le_of_ble_eq_true rfl) ?_
        exact hret _ _ _ ((a, (0, Kw, Cw, Vw), (0, Kt, Ct, Vt), (0, 0, 0, 0)), q33) _ _ (by decide) (Or.inl ⟨a, by omega, by omega, rfl, by decide, rfl⟩) hP hD hS d_CI_begin_48
      · refine lv_iconst (v := nI 0) hx hb d_CI_begin_11 (by decide) ?_
        have hP := hP.sub (ws' := [(o, .inr (0, [.ref rw, .ref rt, .int (nI L), .ref fr])), (rw, .inr (1, [.ref kw_, .ref cw_, .ref vw_, .int (nI nw)])), (kw_, .inl (G.2.1, 500, .inl (fun zz => nI (Kw zz)))), (cw_, .inl (G.2.1, 500, .inl (fun zz => nI (Cw zz)))), (vw_, .inl (G.2.1, 500, .inl (fun zz => nI (Vw zz)))), (rt, .inr (1, [.ref kt_, .ref ct_, .ref vt_, .int (nI nt)])), (kt_, .inl (G.2.1, 500, .inl (fun zz => nI (Kt zz)))), (ct_, .inl (G.2.1, 500, .inl (fun zz => nI (Ct zz)))), (vt_, .inl (G.2.1, 500, .inl (fun zz => nI (Vt zz)))), (fr, .inr (2, [.int (nI x0), .int (nI y0), .int (nI x1), .int (nI y1)]))]) [0, 1, 2, 3, 4, 5, 6, 7, 8, 9] rfl
        have hD := hD.sub (ws' := [(o, .inr (0, [.ref rw, .ref rt, .int (nI L), .ref fr])), (rw, .inr (1, [.ref kw_, .ref cw_, .ref vw_, .int (nI nw)])), (kw_, .inl (G.2.1, 500, .inl (fun zz => nI (Kw zz)))), (cw_, .inl (G.2.1, 500, .inl (fun zz => nI (Cw zz)))), (vw_, .inl (G.2.1, 500, .inl (fun zz => nI (Vw zz)))), (rt, .inr (1, [.ref kt_, .ref ct_, .ref vt_, .int (nI nt)])), (kt_, .inl (G.2.1, 500, .inl (fun zz => nI (Kt zz)))), (ct_, .inl (G.2.1, 500, .inl (fun zz => nI (Ct zz)))), (vt_, .inl (G.2.1, 500, .inl (fun zz => nI (Vt zz)))), (fr, .inr (2, [.int (nI x0), .int (nI y0), .int (nI x1), .int (nI y1)]))]) [0, 1, 2, 3, 4, 5, 6, 7, 8, 9] (by decide) rfl
        refine W.widen (k := 1) (n := 4) (Nat.le_of_ble_eq_true rfl) (Nat.le_of_ble_eq_true rfl) ?_
        exact hret _ _ _ ((L, (nw, Kw, Cw, Vw), (nt, Kt, Ct, Vt), (x0, y0, x1, y1)), fr) _ _ (by decide) (Or.inr ⟨by first | exact begO_ng hx0 | exact fun z => absurd (begO_nI ha z) (by omega), by decide, rfl⟩) hP hD hS d_CI_begin_12
set_option maxHeartbeats 4000000 in
set_option maxRecDepth 100000 in
theorem c_CI_window (la : Launch) (G : gG) (o rw kw_ cw_ vw_ rt kt_ ct_ vt_ fr L nw nt x0 y0 x1 y1 : Nat) (Kw Cw Vw Kt Ct Vt : Nat → Nat) (X0 Y0 X1 Y1 : Int32) (hC : okC (L, (nw, Kw, Cw, Vw), (nt, Kt, Ct, Vt), (x0, y0, x1, y1))) : MetW la y_CI_window b_CI_window 5 .boolean 2 36 1 4 [.ref o, .int X0, .int Y0, .int X1, .int Y1] G [(o, .inr (0, [.ref rw, .ref rt, .int (nI L), .ref fr])), (rw, .inr (1, [.ref kw_, .ref cw_, .ref vw_, .int (nI nw)])), (kw_, .inl (G.2.1, 500, .inl (fun zz => nI (Kw zz)))), (cw_, .inl (G.2.1, 500, .inl (fun zz => nI (Cw zz)))), (vw_, .inl (G.2.1, 500, .inl (fun zz => nI (Vw zz)))), (rt, .inr (1, [.ref kt_, .ref ct_, .ref vt_, .int (nI nt)])), (kt_, .inl (G.2.1, 500, .inl (fun zz => nI (Kt zz)))), (ct_, .inl (G.2.1, 500, .inl (fun zz => nI (Ct zz)))), (vt_, .inl (G.2.1, 500, .inl (fun zz => nI (Vt zz)))), (fr, .inr (2, [.int (nI x0), .int (nI y0), .int (nI x1), .int (nI y1)]))] (S := cS × Nat) (fun r u => (∃ a b a' b', a ≤ a' ∧ a' < 2 ^ L ∧ b ≤ b' ∧ b' < 2 ^ L ∧ X0 = nI a ∧ Y0 = nI b ∧ X1 = nI a' ∧ Y1 = nI b' ∧ r = 1 ∧ u.1 = (L, (nw, Kw, Cw, Vw), (nt, Kt, Ct, Vt), (a, b, a', b'))) ∨ (¬ winO L X0 Y0 X1 Y1 ∧ r = 0 ∧ u = ((L, (nw, Kw, Cw, Vw), (nt, Kt, Ct, Vt), (x0, y0, x1, y1)), fr))) (fun u => [(o, .inr (0, [.ref rw, .ref rt, .int (nI u.1.1), .ref u.2])), (rw, .inr (1, [.ref kw_, .ref cw_, .ref vw_, .int (nI u.1.2.1.1)])), (kw_, .inl (G.2.1, 500, .inl (fun zz => nI (u.1.2.1.2.1 zz)))), (cw_, .inl (G.2.1, 500, .inl (fun zz => nI (u.1.2.1.2.2.1 zz)))), (vw_, .inl (G.2.1, 500, .inl (fun zz => nI (u.1.2.1.2.2.2 zz)))), (rt, .inr (1, [.ref kt_, .ref ct_, .ref vt_, .int (nI u.1.2.2.1.1)])), (kt_, .inl (G.2.1, 500, .inl (fun zz => nI (u.1.2.2.1.2.1 zz)))), (ct_, .inl (G.2.1, 500, .inl (fun zz => nI (u.1.2.2.1.2.2.1 zz)))), (vt_, .inl (G.2.1, 500, .inl (fun zz => nI (u.1.2.2.1.2.2.2 zz)))), (u.2, .inr (2, [.int (nI u.1.2.2.2.1), .int (nI u.1.2.2.2.2.1), .int (nI u.1.2.2.2.2.2.1), .int (nI u.1.2.2.2.2.2.2)]))]) := by
  refine MetW.mk (by decide +kernel) (Nat.le_of_ble_eq_true rfl) ?_
  intro p e s m below meth c Q A ls S hP hD hA hS hk hs hret hl
  have hx := S.1
  have hb := S.2.1
  have hP : va_P G.1 cls [(o, .inr (0, [.ref rw, .ref rt, .int (nI L), .ref fr])), (rw, .inr (1, [.ref kw_, .ref cw_, .ref vw_, .int (nI nw)])), (kw_, .inl (G.2.1, 500, .inl (fun zz => nI (Kw zz)))), (cw_, .inl (G.2.1, 500, .inl (fun zz => nI (Cw zz)))), (vw_, .inl (G.2.1, 500, .inl (fun zz => nI (Vw zz)))), (rt, .inr (1, [.ref kt_, .ref ct_, .ref vt_, .int (nI nt)])), (kt_, .inl (G.2.1, 500, .inl (fun zz => nI (Kt zz)))), (ct_, .inl (G.2.1, 500, .inl (fun zz => nI (Ct zz)))), (vt_, .inl (G.2.1, 500, .inl (fun zz => nI (Vt zz)))), (fr, .inr (2, [.int (nI x0), .int (nI y0), .int (nI x1), .int (nI y1)]))] s.heap := hP
  have hD : va_D A [(o, .inr (0, [.ref rw, .ref rt, .int (nI L), .ref fr])), (rw, .inr (1, [.ref kw_, .ref cw_, .ref vw_, .int (nI nw)])), (kw_, .inl (G.2.1, 500, .inl (fun zz => nI (Kw zz)))), (cw_, .inl (G.2.1, 500, .inl (fun zz => nI (Cw zz)))), (vw_, .inl (G.2.1, 500, .inl (fun zz => nI (Vw zz)))), (rt, .inr (1, [.ref kt_, .ref ct_, .ref vt_, .int (nI nt)])), (kt_, .inl (G.2.1, 500, .inl (fun zz => nI (Kt zz)))), (ct_, .inl (G.2.1, 500, .inl (fun zz => nI (Ct zz)))), (vt_, .inl (G.2.1, 500, .inl (fun zz => nI (Vt zz)))), (fr, .inr (2, [.int (nI x0), .int (nI y0), .int (nI x1), .int (nI y1)]))] := hD
  obtain ⟨⟨hL1, hL⟩, hrw, hrt, ⟨hKw, hCw, hVw⟩, ⟨hKt, hCt, hVt⟩, hF, hsm⟩ := hC
  dsimp only at hL1 hL hrw hrt hKw hCw hVw hKt hCt hVt hF hsm
  have hFb := hF.b hL
  obtain ⟨hf1, hf2, hf3, hf4⟩ := hF
  dsimp only at hf1 hf2 hf3 hf4 hFb
  have hp2 := p2_15 hL
  have hp4 := p4_15 hL
  have hpp := Nat.two_pow_pos L
  have hnw := hrw.1
  have hnt := hrt.1
  have hl : lv_has ls 5 [(0, .ref o), (1, .int X0), (2, .int Y0), (3, .int X1), (4, .int Y1)] := hl
  refine lv_aload_n hx hb d_CI_window_0 rfl (lv_at hl 0 rfl) ?_
  refine lv_iload_n hx hb d_CI_window_1 rfl (lv_at hl 1 rfl) ?_
  refine lv_iload_n hx hb d_CI_window_2 rfl (lv_at hl 2 rfl) ?_
  refine vp_callSi (va_Run.run (run_V S v_CI_39 (c_CI_isCell la G o rw rt fr L X0 Y0 hL) ⟨rfl, rfl⟩ ⟨Nat.le_of_ble_eq_true rfl, Nat.le_of_ble_eq_true rfl⟩ (preR_V hP hk (hs.kept (fun a h1 h2 => hS.2.1 a h1 h2)) [0] rfl 0 rfl rfl) (rest := []) rfl hl.1 rfl (Nat.le_of_ble_eq_true rfl) d_CI_window_3 ⟨Nat.le_of_ble_eq_true rfl, Nat.le_of_ble_eq_true rfl⟩)) (fun r1 hr1 => ?_)
  rcases hr1 with ⟨rfl, a, b, ha, hb', rfl, rfl⟩ | ⟨rfl, q1⟩
  · have hl : lv_has ls 5 [(0, .ref o), (1, .int (nI a)), (2, .int (nI b)), (3, .int X1), (4, .int Y1)] := hl
    refine lv_if_eq hx hb d_CI_window_6 (tgt := 30) (by decide) (fun h => absurd h (by decide)) (fun _ => ?_)
    refine lv_aload_n hx hb d_CI_window_9 rfl (lv_at hl 0 rfl) ?_
    refine lv_iload_n hx hb d_CI_window_10 rfl (lv_at hl 3 rfl) ?_
    refine lv_iload hx hb d_CI_window_11 (lv_at hl 4 rfl) ?_
    refine vp_callSi (va_Run.run (run_V S v_CI_39 (c_CI_isCell la G o rw rt fr L X1 Y1 hL) ⟨rfl, rfl⟩ ⟨Nat.le_of_ble_eq_true rfl, Nat.le_of_ble_eq_true rfl⟩ (preR_V hP hk (hs.kept (fun a h1 h2 => hS.2.1 a h1 h2)) [0] rfl 0 rfl rfl) (rest := []) rfl hl.1 rfl (Nat.le_of_ble_eq_true rfl) d_CI_window_13 ⟨Nat.le_of_ble_eq_true rfl, Nat.le_of_ble_eq_true rfl⟩)) (fun r2 hr2 => ?_)
    rcases hr2 with ⟨rfl, a', b', ha2, hb2, rfl, rfl⟩ | ⟨rfl, q2⟩
    · have hl : lv_has ls 5 [(0, .ref o), (1, .int (nI a)), (2, .int (nI b)), (3, .int (nI a')), (4, .int (nI b'))] := hl
      refine lv_if_eq hx hb d_CI_window_16 (tgt := 30) (by decide) (fun h => absurd h (by decide)) (fun _ => ?_)
      refine lv_iload_n hx hb d_CI_window_19 rfl (lv_at hl 3 rfl) ?_
      refine lv_iload_n hx hb d_CI_window_20 rfl (lv_at hl 1 rfl) ?_
      refine x_icmp_lt hx hb d_CI_window_21 (tgt := 30) (by decide) (by omega) (by omega) (fun h21 => ?_) (fun h21 => ?_)
      · refine lv_iconst (v := nI 0) hx hb d_CI_window_30 (by decide) ?_
        have hP := hP.sub (ws' := [(o, .inr (0, [.ref rw, .ref rt, .int (nI L), .ref fr])), (rw, .inr (1, [.ref kw_, .ref cw_, .ref vw_, .int (nI nw)])), (kw_, .inl (G.2.1, 500, .inl (fun zz => nI (Kw zz)))), (cw_, .inl (G.2.1, 500, .inl (fun zz => nI (Cw zz)))), (vw_, .inl (G.2.1, 500, .inl (fun zz => nI (Vw zz)))), (rt, .inr (1, [.ref kt_, .ref ct_, .ref vt_, .int (nI nt)])), (kt_, .inl (G.2.1, 500, .inl (fun zz => nI (Kt zz)))), (ct_, .inl (G.2.1, 500, .inl (fun zz => nI (Ct zz)))), (vt_, .inl (G.2.1, 500, .inl (fun zz => nI (Vt zz)))), (fr, .inr (2, [.int (nI x0), .int (nI y0), .int (nI x1), .int (nI y1)]))]) [0, 1, 2, 3, 4, 5, 6, 7, 8, 9] rfl
        have hD := hD.sub (ws' := [(o, .inr (0, [.ref rw, .ref rt, .int (nI L), .ref fr])), (rw, .inr (1, [.ref kw_, .ref cw_, .ref vw_, .int (nI nw)])), (kw_, .inl (G.2.1, 500, .inl (fun zz => nI (Kw zz)))), (cw_, .inl (G.2.1, 500, .inl (fun zz => nI (Cw zz)))), (vw_, .inl (G.2.1, 500, .inl (fun zz => nI (Vw zz)))), (rt, .inr (1, [.ref kt_, .ref ct_, .ref vt_, .int (nI nt)])), (kt_, .inl (G.2.1, 500, .inl (fun zz => nI (Kt zz)))), (ct_, .inl (G.2.1, 500, .inl (fun zz => nI (Ct zz)))), (vt_, .inl (G.2.1, 500, .inl (fun zz => nI (Vt zz)))), (fr, .inr (2, [.int (nI x0), .int (nI y0), .int (nI x1), .int (nI y1)]))]) [0, 1, 2, 3, 4, 5, 6, 7, 8, 9] (by decide) rfl
        refine W.widen (k := 1) (n := 4) (Nat.le_of_ble_eq_true rfl) (Nat.le_of_ble_eq_true rfl) ?_
        exact hret _ _ _ ((L, (nw, Kw, Cw, Vw), (nt, Kt, Ct, Vt), (x0, y0, x1, y1)), fr) _ _ (by decide) (Or.inr ⟨by first | exact fun z => q1 (winO_1 z).1 | exact fun z => q2 (winO_1 z).2 | exact fun z => absurd (winO_nI hL ha hb' ha2 hb2 z) (by omega), by decide, rfl⟩) hP hD hS d_CI_window_31
      · refine lv_iload hx hb d_CI_window_24 (lv_at hl 4 rfl) ?_
        refine lv_iload_n hx hb d_CI_window_26 rfl (lv_at hl 2 rfl) ?_
        refine x_icmp_ge hx hb d_CI_window_27 (tgt := 32) (by decide) (by omega) (by omega) (fun h27 => ?_) (fun h27 => ?_)
        · refine lv_aload_n hx hb d_CI_window_32 rfl (lv_at hl 0 rfl) ?_
          refine y_new S hk hP hD hA hS (ci := 2) rfl in_Fr T_2 (wq 61 (by decide +kernel)) (wq 62 (by decide +kernel)) (wq 35 (by decide +kernel)) (fs := [.int (nI 0), .int (nI 0), .int (nI 0), .int (nI 0)]) (fun j hj => by rcases (show j = 0 ∨ j = 1 ∨ j = 2 ∨ j = 3 by omega) with rfl | rfl | rfl | rfl <;> rfl) (Nat.le_of_ble_eq_true rfl) (Nat.le_of_ble_eq_true rfl) d_CI_window_33 (fun q33 H hP hD hS => ?_)
          have hP : va_P G.1 cls [(o, .inr (0, [.ref rw, .ref rt, .int (nI L), .ref fr])), (rw, .inr (1, [.ref kw_, .ref cw_, .ref vw_, .int (nI nw)])), (kw_, .inl (G.2.1, 500, .inl (fun zz => nI (Kw zz)))), (cw_, .inl (G.2.1, 500, .inl (fun zz => nI (Cw zz)))), (vw_, .inl (G.2.1, 500, .inl (fun zz => nI (Vw zz)))), (rt, .inr (1, [.ref kt_, .ref ct_, .ref vt_, .int (nI nt)])), (kt_, .inl (G.2.1, 500, .inl (fun zz => nI (Kt zz)))), (ct_, .inl (G.2.1, 500, .inl (fun zz => nI (Ct zz)))), (vt_, .inl (G.2.1, 500, .inl (fun zz => nI (Vt zz)))), (fr, .inr (2, [.int (nI x0), .int (nI y0), .int (nI x1), .int (nI y1)])), (q33, .inr (2, [.int (nI 0), .int (nI 0), .int (nI 0), .int (nI 0)]))] H := hP
          have hD : va_D A [(o, .inr (0, [.ref rw, .ref rt, .int (nI L), .ref fr])), (rw, .inr (1, [.ref kw_, .ref cw_, .ref vw_, .int (nI nw)])), (kw_, .inl (G.2.1, 500, .inl (fun zz => nI (Kw zz)))), (cw_, .inl (G.2.1, 500, .inl (fun zz => nI (Cw zz)))), (vw_, .inl (G.2.1, 500, .inl (fun zz => nI (Vw zz)))), (rt, .inr (1, [.ref kt_, .ref ct_, .ref vt_, .int (nI nt)])), (kt_, .inl (G.2.1, 500, .inl (fun zz => nI (Kt zz)))), (ct_, .inl (G.2.1, 500, .inl (fun zz => nI (Ct zz)))), (vt_, .inl (G.2.1, 500, .inl (fun zz => nI (Vt zz)))), (fr, .inr (2, [.int (nI x0), .int (nI y0), .int (nI x1), .int (nI y1)])), (q33, .inr (2, [.int (nI 0), .int (nI 0), .int (nI 0), .int (nI 0)]))] := hD
          refine lv_dup hx hb d_CI_window_36 rfl ?_
          refine lv_iload_n hx hb d_CI_window_37 rfl (lv_at hl 1 rfl) ?_
          refine lv_iload_n hx hb d_CI_window_38 rfl (lv_at hl 2 rfl) ?_
          refine lv_iload_n hx hb d_CI_window_39 rfl (lv_at hl 3 rfl) ?_
          refine lv_iload hx hb d_CI_window_40 (lv_at hl 4 rfl) ?_
          refine eff_V (wr := [(o, .inr (0, [.ref rw, .ref rt, .int (nI L), .ref fr])), (rw, .inr (1, [.ref kw_, .ref cw_, .ref vw_, .int (nI nw)])), (kw_, .inl (G.2.1, 500, .inl (fun zz => nI (Kw zz)))), (cw_, .inl (G.2.1, 500, .inl (fun zz => nI (Cw zz)))), (vw_, .inl (G.2.1, 500, .inl (fun zz => nI (Vw zz)))), (rt, .inr (1, [.ref kt_, .ref ct_, .ref vt_, .int (nI nt)])), (kt_, .inl (G.2.1, 500, .inl (fun zz => nI (Kt zz)))), (ct_, .inl (G.2.1, 500, .inl (fun zz => nI (Ct zz)))), (vt_, .inl (G.2.1, 500, .inl (fun zz => nI (Vt zz)))), (fr, .inr (2, [.int (nI x0), .int (nI y0), .int (nI x1), .int (nI y1)]))]) (run_IN S hk v_CI_25 (c_Fr_init la G q33 a b a' b' _) ⟨rfl, rfl⟩ ⟨Nat.le_of_ble_eq_true rfl, Nat.le_of_ble_eq_true rfl⟩ (preW_S hP hD hA hS hk hs [10] (by decide) rfl) (rest := [.ref q33, .ref o]) rfl hl.1 rfl (Nat.le_of_ble_eq_true rfl) d_CI_window_42 ⟨Nat.le_of_ble_eq_true rfl, Nat.le_of_ble_eq_true rfl⟩) hP hD hA hS [10] [0, 1, 2, 3, 4, 5, 6, 7, 8, 9] rfl rfl (by decide) (by decide) (fun u H locs hu hP hD hS => ?_)
          have hP : va_P G.1 cls [(o, .inr (0, [.ref rw, .ref rt, .int (nI L), .ref fr])), (rw, .inr (1, [.ref kw_, .ref cw_, .ref vw_, .int (nI nw)])), (kw_, .inl (G.2.1, 500, .inl (fun zz => nI (Kw zz)))), (cw_, .inl (G.2.1, 500, .inl (fun zz => nI (Cw zz)))), (vw_, .inl (G.2.1, 500, .inl (fun zz => nI (Vw zz)))), (rt, .inr (1, [.ref kt_, .ref ct_, .ref vt_, .int (nI nt)])), (kt_, .inl (G.2.1, 500, .inl (fun zz => nI (Kt zz)))), (ct_, .inl (G.2.1, 500, .inl (fun zz => nI (Ct zz)))), (vt_, .inl (G.2.1, 500, .inl (fun zz => nI (Vt zz)))), (fr, .inr (2, [.int (nI x0), .int (nI y0), .int (nI x1), .int (nI y1)])), (q33, .inr (2, [.int (nI a), .int (nI b), .int (nI a'), .int (nI b')]))] H := hP
          have hD : va_D A [(o, .inr (0, [.ref rw, .ref rt, .int (nI L), .ref fr])), (rw, .inr (1, [.ref kw_, .ref cw_, .ref vw_, .int (nI nw)])), (kw_, .inl (G.2.1, 500, .inl (fun zz => nI (Kw zz)))), (cw_, .inl (G.2.1, 500, .inl (fun zz => nI (Cw zz)))), (vw_, .inl (G.2.1, 500, .inl (fun zz => nI (Vw zz)))), (rt, .inr (1, [.ref kt_, .ref ct_, .ref vt_, .int (nI nt)])), (kt_, .inl (G.2.1, 500, .inl (fun zz => nI (Kt zz)))), (ct_, .inl (G.2.1, 500, .inl (fun zz => nI (Ct zz)))), (vt_, .inl (G.2.1, 500, .inl (fun zz => nI (Vt zz)))), (fr, .inr (2, [.int (nI x0), .int (nI y0), .int (nI x1), .int (nI y1)])), (q33, .inr (2, [.int (nI a), .int (nI b), .int (nI a'), .int (nI b')]))] := hD
          refine y_put S hk hP hD hS 0 rfl f_CI_28 T_0 M_0_3 rfl rfl (Nat.le_of_ble_eq_true rfl) d_CI_window_45 (fun H locs hP hD hS => ?_)
          have hP : va_P G.1 cls [(o, .inr (0, [.ref rw, .ref rt, .int (nI L), .ref q33])), (rw, .inr (1, [.ref kw_, .ref cw_, .ref vw_, .int (nI nw)])), (kw_, .inl (G.2.1, 500, .inl (fun zz => nI (Kw zz)))), (cw_, .inl (G.2.1, 500, .inl (fun zz => nI (Cw zz)))), (vw_, .inl (G.2.1, 500, .inl (fun zz => nI (Vw zz)))), (rt, .inr (1, [.ref kt_, .ref ct_, .ref vt_, .int (nI nt)])), (kt_, .inl (G.2.1, 500, .inl (fun zz => nI (Kt zz)))), (ct_, .inl (G.2.1, 500, .inl (fun zz => nI (Ct zz)))), (vt_, .inl (G.2.1, 500, .inl (fun zz => nI (Vt zz)))), (fr, .inr (2, [.int (nI x0), .int (nI y0), .int (nI x1), .int (nI y1)])), (q33, .inr (2, [.int (nI a), .int (nI b), .int (nI a'), .int (nI b')]))] H := hP
          have hD : va_D A [(o, .inr (0, [.ref rw, .ref rt, .int (nI L), .ref q33])), (rw, .inr (1, [.ref kw_, .ref cw_, .ref vw_, .int (nI nw)])), (kw_, .inl (G.2.1, 500, .inl (fun zz => nI (Kw zz)))), (cw_, .inl (G.2.1, 500, .inl (fun zz => nI (Cw zz)))), (vw_, .inl (G.2.1, 500, .inl (fun zz => nI (Vw zz)))), (rt, .inr (1, [.ref kt_, .ref ct_, .ref vt_, .int (nI nt)])), (kt_, .inl (G.2.1, 500, .inl (fun zz => nI (Kt zz)))), (ct_, .inl (G.2.1, 500, .inl (fun zz => nI (Ct zz)))), (vt_, .inl (G.2.1, 500, .inl (fun zz => nI (Vt zz)))), (fr, .inr (2, [.int (nI x0), .int (nI y0), .int (nI x1), .int (nI y1)])), (q33, .inr (2, [.int (nI a), .int (nI b), .int (nI a'), .int (nI b')]))] := hD
          refine lv_iconst (v := nI 1) hx hb d_CI_window_48 (by decide) ?_
          have hP := hP.sub (ws' := [(o, .inr (0, [.ref rw, .ref rt, .int (nI L), .ref q33])), (rw, .inr (1, [.ref kw_, .ref cw_, .ref vw_, .int (nI nw)])), (kw_, .inl (G.2.1, 500, .inl (fun zz => nI (Kw zz)))), (cw_, .inl (G.2.1, 500, .inl (fun zz => nI (Cw zz)))), (vw_, .inl (G.2.1, 500, .inl (fun zz => nI (Vw zz)))), (rt, .inr (1, [.ref kt_, .ref ct_, .ref vt_, .int (nI nt)])), (kt_, .inl (G.2.1, 500, .inl (fun zz => nI (Kt zz)))), (ct_, .inl (G.2.1, 500, .inl (fun zz => nI (Ct zz)))), (vt_, .inl (G.2.1, 500, .inl (fun zz => nI (Vt zz)))), (q33, .inr (2, [.int (nI a), .int (nI b), .int (nI a'), .int (nI b')]))]) [0, 1, 2, 3, 4, 5, 6, 7, 8, 10] rfl
          have hD := hD.sub (ws' := [(o, .inr (0, [.ref rw, .ref rt, .int (nI L), .ref q33])), (rw, .inr (1, [.ref kw_, .ref cw_, .ref vw_, .int (nI nw)])), (kw_, .inl (G.2.1, 500, .inl (fun zz => nI (Kw zz)))), (cw_, .inl (G.2.1, 500, .inl (fun zz => nI (Cw zz)))), (vw_, .inl (G.2.1, 500, .inl (fun zz => nI (Vw zz)))), (rt, .inr (1, [.ref kt_, .ref ct_, .ref vt_, .int (nI nt)])), (kt_, .inl (G.2.1, 500, .inl (fun zz => nI (Kt zz)))), (ct_, .inl (G.2.1, 500, .inl (fun zz => nI (Ct zz)))), (vt_, .inl (G.2.1, 500, .inl (fun zz => nI (Vt zz)))), (q33, .inr (2, [.int (nI a), .int (nI b), .int (nI a'), .int (nI b')]))]) [0, 1, 2, 3, 4, 5, 6, 7, 8, 10] (by decide) rfl
          refine W.widen (k := 1) (n := 4) (Nat.le_of_ble_eq_true rfl) (Nat.le_of_ble_eq_true rfl) ?_
          exact hret _ _ _ ((L, (nw, Kw, Cw, Vw), (nt, Kt, Ct, Vt), (a, b, a', b')), q33) _ _ (by decide) (Or.inl ⟨a, b, a', b', by omega, ha2, by omega, hb2, rfl, rfl, rfl, rfl, by decide, rfl⟩) hP hD hS d_CI_window_49
        · refine lv_iconst (v := nI 0) hx hb d_CI_window_30 (by decide) ?_
          have hP := hP.sub (ws' := [(o, .inr (0, [.ref rw, .ref rt, .int (nI L), .ref fr])), (rw, .inr (1, [.ref kw_, .ref cw_, .ref vw_, .int (nI nw)])), (kw_, .inl (G.2.1, 500, .inl (fun zz => nI (Kw zz)))), (cw_, .inl (G.2.1, 500, .inl (fun zz => nI (Cw zz)))), (vw_, .inl (G.2.1, 500, .inl (fun zz => nI (Vw zz)))), (rt, .inr (1, [.ref kt_, .ref ct_, .ref vt_, .int (nI nt)])), (kt_, .inl (G.2.1, 500, .inl (fun zz => nI (Kt zz)))), (ct_, .inl (G.2.1, 500, .inl (fun zz => nI (Ct zz)))), (vt_, .inl (G.2.1, 500, .inl (fun zz => nI (Vt zz)))), (fr, .inr (2, [.int (nI x0), .int (nI y0), .int (nI x1), .int (nI y1)]))]) [0, 1, 2, 3, 4, 5, 6, 7, 8, 9] rfl
          have hD := hD.sub (ws' := [(o, .inr (0, [.ref rw, .ref rt, .int (nI L), .ref fr])), (rw, .inr (1, [.ref kw_, .ref cw_, .ref vw_, .int (nI nw)])), (kw_, .inl (G.2.1, 500, .inl (fun zz => nI (Kw zz)))), (cw_, .inl (G.2.1, 500, .inl (fun zz => nI (Cw zz)))), (vw_, .inl (G.2.1, 500, .inl (fun zz => nI (Vw zz)))), (rt, .inr (1, [.ref kt_, .ref ct_, .ref vt_, .int (nI nt)])), (kt_, .inl (G.2.1, 500, .inl (fun zz => nI (Kt zz)))), (ct_, .inl (G.2.1, 500, .inl (fun zz => nI (Ct zz)))), (vt_, .inl (G.2.1, 500, .inl (fun zz => nI (Vt zz)))), (fr, .inr (2, [.int (nI x0), .int (nI y0), .int (nI x1), .int (nI y1)]))]) [0, 1, 2, 3, 4, 5, 6, 7, 8, 9] (by decide) rfl
          refine W.widen (k := 1) (n := 4) (Nat.le_of_ble_eq_true rfl) (Nat.le_of_ble_eq_true rfl) ?_
          exact hret _ _ _ ((L, (nw, Kw, Cw, Vw), (nt, Kt, Ct, Vt), (x0, y0, x1, y1)), fr) _ _ (by decide) (Or.inr ⟨by first | exact fun z => q1 (winO_1 z).1 | exact fun z => q2 (winO_1 z).2 | exact fun z => absurd (winO_nI hL ha hb' ha2 hb2 z) (by omega), by decide, rfl⟩) hP hD hS d_CI_window_31
    · refine lv_if_eq hx hb d_CI_window_16 (tgt := 30) (by decide) (fun _ => ?_) (fun h => absurd (by decide) h)
      refine lv_iconst (v := nI 0) hx hb d_CI_window_30 (by decide) ?_
      have hP := hP.sub (ws' := [(o, .inr (0, [.ref rw, .ref rt, .int (nI L), .ref fr])), (rw, .inr (1, [.ref kw_, .ref cw_, .ref vw_, .int (nI nw)])), (kw_, .inl (G.2.1, 500, .inl (fun zz => nI (Kw zz)))), (cw_, .inl (G.2.1, 500, .inl (fun zz => nI (Cw zz)))), (vw_, .inl (G.2.1, 500, .inl (fun zz => nI (Vw zz)))), (rt, .inr (1, [.ref kt_, .ref ct_, .ref vt_, .int (nI nt)])), (kt_, .inl (G.2.1, 500, .inl (fun zz => nI (Kt zz)))), (ct_, .inl (G.2.1, 500, .inl (fun zz => nI (Ct zz)))), (vt_, .inl (G.2.1, 500, .inl (fun zz => nI (Vt zz)))), (fr, .inr (2, [.int (nI x0), .int (nI y0), .int (nI x1), .int (nI y1)]))]) [0, 1, 2, 3, 4, 5, 6, 7, 8, 9] rfl
      have hD := hD.sub (ws' := [(o, .inr (0, [.ref rw, .ref rt, .int (nI L), .ref fr])), (rw, .inr (1, [.ref kw_, .ref cw_, .ref vw_, .int (nI nw)])), (kw_, .inl (G.2.1, 500, .inl (fun zz => nI (Kw zz)))), (cw_, .inl (G.2.1, 500, .inl (fun zz => nI (Cw zz)))), (vw_, .inl (G.2.1, 500, .inl (fun zz => nI (Vw zz)))), (rt, .inr (1, [.ref kt_, .ref ct_, .ref vt_, .int (nI nt)])), (kt_, .inl (G.2.1, 500, .inl (fun zz => nI (Kt zz)))), (ct_, .inl (G.2.1, 500, .inl (fun zz => nI (Ct zz)))), (vt_, .inl (G.2.1, 500, .inl (fun zz => nI (Vt zz)))), (fr, .inr (2, [.int (nI x0), .int (nI y0), .int (nI x1), .int (nI y1)]))]) [0, 1, 2, 3, 4, 5, 6, 7, 8, 9] (by decide) rfl
      refine W.widen (k := 1) (n := 4) (Nat.le_of_ble_eq_true rfl) (Nat.le_of_ble_eq_true rfl) ?_
      exact hret _ _ _ ((L, (nw, Kw, Cw, Vw), (nt, Kt, Ct, Vt), (x0, y0, x1, y1)), fr) _ _ (by decide) (Or.inr ⟨by first | exact fun z => q1 (winO_1 z).1 | exact fun z => q2 (winO_1 z).2 | exact fun z => absurd (winO_nI hL ha hb' ha2 hb2 z) (by omega), by decide, rfl⟩) hP hD hS d_CI_window_31
  · refine lv_if_eq hx hb d_CI_window_6 (tgt := 30) (by decide) (fun _ => ?_) (fun h => absurd (by decide) h)
    refine lv_iconst (v := nI 0) hx hb d_CI_window_30 (by decide) ?_
    have hP := hP.sub (ws' := [(o, .inr (0, [.ref rw, .ref rt, .int (nI L), .ref fr])), (rw, .inr (1, [.ref kw_, .ref cw_, .ref vw_, .int (nI nw)])), (kw_, .inl (G.2.1, 500, .inl (fun zz => nI (Kw zz)))), (cw_, .inl (G.2.1, 500, .inl (fun zz => nI (Cw zz)))), (vw_, .inl (G.2.1, 500, .inl (fun zz => nI (Vw zz)))), (rt, .inr (1, [.ref kt_, .ref ct_, .ref vt_, .int (nI nt)])), (kt_, .inl (G.2.1, 500, .inl (fun zz => nI (Kt zz)))), (ct_, .inl (G.2.1, 500, .inl (fun zz => nI (Ct zz)))), (vt_, .inl (G.2.1, 500, .inl (fun zz => nI (Vt zz)))), (fr, .inr (2, [.int (nI x0), .int (nI y0), .int (nI x1), .int (nI y1)]))]) [0, 1, 2, 3, 4, 5, 6, 7, 8, 9] rfl
    have hD := hD.sub (ws' := [(o, .inr (0, [.ref rw, .ref rt, .int (nI L), .ref fr])), (rw, .inr (1, [.ref kw_, .ref cw_, .ref vw_, .int (nI nw)])), (kw_, .inl (G.2.1, 500, .inl (fun zz => nI (Kw zz)))), (cw_, .inl (G.2.1, 500, .inl (fun zz => nI (Cw zz)))), (vw_, .inl (G.2.1, 500, .inl (fun zz => nI (Vw zz)))), (rt, .inr (1, [.ref kt_, .ref ct_, .ref vt_, .int (nI nt)])), (kt_, .inl (G.2.1, 500, .inl (fun zz => nI (Kt zz)))), (ct_, .inl (G.2.1, 500, .inl (fun zz => nI (Ct zz)))), (vt_, .inl (G.2.1, 500, .inl (fun zz => nI (Vt zz)))), (fr, .inr (2, [.int (nI x0), .int (nI y0), .int (nI x1), .int (nI y1)]))]) [0, 1, 2, 3, 4, 5, 6, 7, 8, 9] (by decide) rfl
    refine W.widen (k := 1) (n := 4) (Nat.le_of_ble_eq_true rfl) (Nat.le_of_ble_eq_true rfl) ?_
    exact hret _ _ _ ((L, (nw, Kw, Cw, Vw), (nt, Kt, Ct, Vt), (x0, y0, x1, y1)), fr) _ _ (by decide) (Or.inr ⟨by first | exact fun z => q1 (winO_1 z).1 | exact fun z => q2 (winO_1 z).2 | exact fun z => absurd (winO_nI hL ha hb' ha2 hb2 z) (by omega), by decide, rfl⟩) hP hD hS d_CI_window_31
set_option maxHeartbeats 4000000 in
set_option maxRecDepth 100000 in
theorem c_CI_put (la : Launch) (G : gG) (o rw kw_ cw_ vw_ rt kt_ ct_ vt_ fr L nw nt x0 y0 x1 y1 : Nat) (Kw Cw Vw Kt Ct Vt : Nat → Nat) (x y w : Int32) (hC : okC (L, (nw, Kw, Cw, Vw), (nt, Kt, Ct, Vt), (x0, y0, x1, y1))) : MetW la y_CI_put b_CI_put 7 .int 3 107 0 0 [.ref o, .int x, .int y, .int w] G [(o, .inr (0, [.ref rw, .ref rt, .int (nI L), .ref fr])), (rw, .inr (1, [.ref kw_, .ref cw_, .ref vw_, .int (nI nw)])), (kw_, .inl (G.2.1, 500, .inl (fun zz => nI (Kw zz)))), (cw_, .inl (G.2.1, 500, .inl (fun zz => nI (Cw zz)))), (vw_, .inl (G.2.1, 500, .inl (fun zz => nI (Vw zz)))), (rt, .inr (1, [.ref kt_, .ref ct_, .ref vt_, .int (nI nt)])), (kt_, .inl (G.2.1, 500, .inl (fun zz => nI (Kt zz)))), (ct_, .inl (G.2.1, 500, .inl (fun zz => nI (Ct zz)))), (vt_, .inl (G.2.1, 500, .inl (fun zz => nI (Vt zz)))), (fr, .inr (2, [.int (nI x0), .int (nI y0), .int (nI x1), .int (nI y1)]))] (S := cS × Nat) (fun r u => (∃ a b k, a < 2 ^ L ∧ b < 2 ^ L ∧ 1 ≤ k ∧ k ≤ 999 ∧ x = nI a ∧ y = nI b ∧ w = nI k ∧ (wt nt Ct Vt (a * 2 ^ L + b) ≠ 0 ∨ nt < 500) ∧ r = nI (wt nt Ct Vt (a * 2 ^ L + b)) ∧ putS nt Ct Vt (a * 2 ^ L + b) k u.1.2.2.1.1 u.1.2.2.1.2.2.1 u.1.2.2.1.2.2.2 ∧ okC u.1 ∧ u.1.1 = L ∧ u.1.2.2.2 = (x0, y0, x1, y1) ∧ u.2 = fr) ∨ (¬ putO L nt Ct Vt x y w ∧ r = -1 ∧ u = ((L, (nw, Kw, Cw, Vw), (nt, Kt, Ct, Vt), (x0, y0, x1, y1)), fr))) (fun u => [(o, .inr (0, [.ref rw, .ref rt, .int (nI u.1.1), .ref u.2])), (rw, .inr (1, [.ref kw_, .ref cw_, .ref vw_, .int (nI u.1.2.1.1)])), (kw_, .inl (G.2.1, 500, .inl (fun zz => nI (u.1.2.1.2.1 zz)))), (cw_, .inl (G.2.1, 500, .inl (fun zz => nI (u.1.2.1.2.2.1 zz)))), (vw_, .inl (G.2.1, 500, .inl (fun zz => nI (u.1.2.1.2.2.2 zz)))), (rt, .inr (1, [.ref kt_, .ref ct_, .ref vt_, .int (nI u.1.2.2.1.1)])), (kt_, .inl (G.2.1, 500, .inl (fun zz => nI (u.1.2.2.1.2.1 zz)))), (ct_, .inl (G.2.1, 500, .inl (fun zz => nI (u.1.2.2.1.2.2.1 zz)))), (vt_, .inl (G.2.1, 500, .inl (fun zz => nI (u.1.2.2.1.2.2.2 zz)))), (u.2, .inr (2, [.int (nI u.1.2.2.2.1), .int (nI u.1.2.2.2.2.1), .int (nI u.1.2.2.2.2.2.1), .int (nI u.1.2.2.2.2.2.2)]))]) := by
  refine MetW.mk (by decide +kernel) (Nat.le_of_ble_eq_true rfl) ?_
  intro p e s m below meth c Q A ls S hP hD hA hS hk hs hret hl
  have hx := S.1
  have hb := S.2.1
  have hP : va_P G.1 cls [(o, .inr (0, [.ref rw, .ref rt, .int (nI L), .ref fr])), (rw, .inr (1, [.ref kw_, .ref cw_, .ref vw_, .int (nI nw)])), (kw_, .inl (G.2.1, 500, .inl (fun zz => nI (Kw zz)))), (cw_, .inl (G.2.1, 500, .inl (fun zz => nI (Cw zz)))), (vw_, .inl (G.2.1, 500, .inl (fun zz => nI (Vw zz)))), (rt, .inr (1, [.ref kt_, .ref ct_, .ref vt_, .int (nI nt)])), (kt_, .inl (G.2.1, 500, .inl (fun zz => nI (Kt zz)))), (ct_, .inl (G.2.1, 500, .inl (fun zz => nI (Ct zz)))), (vt_, .inl (G.2.1, 500, .inl (fun zz => nI (Vt zz)))), (fr, .inr (2, [.int (nI x0), .int (nI y0), .int (nI x1), .int (nI y1)]))] s.heap := hP
  have hD : va_D A [(o, .inr (0, [.ref rw, .ref rt, .int (nI L), .ref fr])), (rw, .inr (1, [.ref kw_, .ref cw_, .ref vw_, .int (nI nw)])), (kw_, .inl (G.2.1, 500, .inl (fun zz => nI (Kw zz)))), (cw_, .inl (G.2.1, 500, .inl (fun zz => nI (Cw zz)))), (vw_, .inl (G.2.1, 500, .inl (fun zz => nI (Vw zz)))), (rt, .inr (1, [.ref kt_, .ref ct_, .ref vt_, .int (nI nt)])), (kt_, .inl (G.2.1, 500, .inl (fun zz => nI (Kt zz)))), (ct_, .inl (G.2.1, 500, .inl (fun zz => nI (Ct zz)))), (vt_, .inl (G.2.1, 500, .inl (fun zz => nI (Vt zz)))), (fr, .inr (2, [.int (nI x0), .int (nI y0), .int (nI x1), .int (nI y1)]))] := hD
  have hC' := hC
  obtain ⟨⟨hL1, hL⟩, hrw, hrt, ⟨hKw, hCw, hVw⟩, ⟨hKt, hCt, hVt⟩, hF, hsm⟩ := hC
  dsimp only at hL1 hL hrw hrt hKw hCw hVw hKt hCt hVt hF hsm
  have hFb := hF.b hL
  obtain ⟨hf1, hf2, hf3, hf4⟩ := hF
  dsimp only at hf1 hf2 hf3 hf4 hFb
  have hp2 := p2_15 hL
  have hp4 := p4_15 hL
  have hpp := Nat.two_pow_pos L
  have hnw := hrw.1
  have hnt := hrt.1
  rcases ng w with hw0 | ⟨k, hk', rfl⟩
  · have hl : lv_has ls 7 [(0, .ref o), (1, .int x), (2, .int y), (3, .int w)] := hl
    refine lv_aload_n hx hb d_CI_put_0 rfl (lv_at hl 0 rfl) ?_
    refine lv_iload_n hx hb d_CI_put_1 rfl (lv_at hl 1 rfl) ?_
    refine lv_iload_n hx hb d_CI_put_2 rfl (lv_at hl 2 rfl) ?_
    refine vp_callSi (va_Run.run (run_V S v_CI_39 (c_CI_isCell la G o rw rt fr L x y hL) ⟨rfl, rfl⟩ ⟨Nat.le_of_ble_eq_true rfl, Nat.le_of_ble_eq_true rfl⟩ (preR_V hP hk (hs.kept (fun a h1 h2 => hS.2.1 a h1 h2)) [0] rfl 0 rfl rfl) (rest := []) rfl hl.1 rfl (Nat.le_of_ble_eq_true rfl) d_CI_put_3 ⟨Nat.le_of_ble_eq_true rfl, Nat.le_of_ble_eq_true rfl⟩)) (fun r1 hr1 => ?_)
    rcases hr1 with ⟨rfl, a, b, ha, hb', rfl, rfl⟩ | ⟨rfl, q1⟩
    · have hl : lv_has ls 7 [(0, .ref o), (1, .int (nI a)), (2, .int (nI b)), (3, .int w)] := hl
      refine lv_if_eq hx hb d_CI_put_6 (tgt := 21) (by decide) (fun h => absurd h (by decide)) (fun _ => ?_)
      refine lv_iload_n hx hb d_CI_put_9 rfl (lv_at hl 3 rfl) ?_
      refine lv_iconst (v := nI 1) hx hb d_CI_put_10 (by decide) ?_
      refine lv_icmp_lt hx hb d_CI_put_11 (tgt := 21) (by decide) (fun _ => ?_) (fun h => absurd (ng_lt hw0 (by omega)) h)
      refine lv_iconst (v := (-1)) hx hb d_CI_put_21 (by decide) ?_
      have hP := hP.sub (ws' := [(o, .inr (0, [.ref rw, .ref rt, .int (nI L), .ref fr])), (rw, .inr (1, [.ref kw_, .ref cw_, .ref vw_, .int (nI nw)])), (kw_, .inl (G.2.1, 500, .inl (fun zz => nI (Kw zz)))), (cw_, .inl (G.2.1, 500, .inl (fun zz => nI (Cw zz)))), (vw_, .inl (G.2.1, 500, .inl (fun zz => nI (Vw zz)))), (rt, .inr (1, [.ref kt_, .ref ct_, .ref vt_, .int (nI nt)])), (kt_, .inl (G.2.1, 500, .inl (fun zz => nI (Kt zz)))), (ct_, .inl (G.2.1, 500, .inl (fun zz => nI (Ct zz)))), (vt_, .inl (G.2.1, 500, .inl (fun zz => nI (Vt zz)))), (fr, .inr (2, [.int (nI x0), .int (nI y0), .int (nI x1), .int (nI y1)]))]) [0, 1, 2, 3, 4, 5, 6, 7, 8, 9] rfl
      have hD := hD.sub (ws' := [(o, .inr (0, [.ref rw, .ref rt, .int (nI L), .ref fr])), (rw, .inr (1, [.ref kw_, .ref cw_, .ref vw_, .int (nI nw)])), (kw_, .inl (G.2.1, 500, .inl (fun zz => nI (Kw zz)))), (cw_, .inl (G.2.1, 500, .inl (fun zz => nI (Cw zz)))), (vw_, .inl (G.2.1, 500, .inl (fun zz => nI (Vw zz)))), (rt, .inr (1, [.ref kt_, .ref ct_, .ref vt_, .int (nI nt)])), (kt_, .inl (G.2.1, 500, .inl (fun zz => nI (Kt zz)))), (ct_, .inl (G.2.1, 500, .inl (fun zz => nI (Ct zz)))), (vt_, .inl (G.2.1, 500, .inl (fun zz => nI (Vt zz)))), (fr, .inr (2, [.int (nI x0), .int (nI y0), .int (nI x1), .int (nI y1)]))]) [0, 1, 2, 3, 4, 5, 6, 7, 8, 9] (by decide) rfl
      refine W.widen (k := 0) (n := 0) (Nat.le_of_ble_eq_true rfl) (Nat.le_of_ble_eq_true rfl) ?_
      exact hret _ _ _ ((L, (nw, Kw, Cw, Vw), (nt, Kt, Ct, Vt), (x0, y0, x1, y1)), fr) _ _ rfl (Or.inr ⟨by first | exact fun z => q1 (putO_c z).1 | exact fun z => absurd hw0 (putO_c z).2 | exact fun z => absurd (putO_nI hL ha hb' hk' z) (by omega), rfl, rfl⟩) hP hD hS d_CI_put_22
    · refine lv_if_eq hx hb d_CI_put_6 (tgt := 21) (by decide) (fun _ => ?_) (fun h => absurd (by decide) h)
      refine lv_iconst (v := (-1)) hx hb d_CI_put_21 (by decide) ?_
      have hP := hP.sub (ws' := [(o, .inr (0, [.ref rw, .ref rt, .int (nI L), .ref fr])), (rw, .inr (1, [.ref kw_, .ref cw_, .ref vw_, .int (nI nw)])), (kw_, .inl (G.2.1, 500, .inl (fun zz => nI (Kw zz)))), (cw_, .inl (G.2.1, 500, .inl (fun zz => nI (Cw zz)))), (vw_, .inl (G.2.1, 500, .inl (fun zz => nI (Vw zz)))), (rt, .inr (1, [.ref kt_, .ref ct_, .ref vt_, .int (nI nt)])), (kt_, .inl (G.2.1, 500, .inl (fun zz => nI (Kt zz)))), (ct_, .inl (G.2.1, 500, .inl (fun zz => nI (Ct zz)))), (vt_, .inl (G.2.1, 500, .inl (fun zz => nI (Vt zz)))), (fr, .inr (2, [.int (nI x0), .int (nI y0), .int (nI x1), .int (nI y1)]))]) [0, 1, 2, 3, 4, 5, 6, 7, 8, 9] rfl
      have hD := hD.sub (ws' := [(o, .inr (0, [.ref rw, .ref rt, .int (nI L), .ref fr])), (rw, .inr (1, [.ref kw_, .ref cw_, .ref vw_, .int (nI nw)])), (kw_, .inl (G.2.1, 500, .inl (fun zz => nI (Kw zz)))), (cw_, .inl (G.2.1, 500, .inl (fun zz => nI (Cw zz)))), (vw_, .inl (G.2.1, 500, .inl (fun zz => nI (Vw zz)))), (rt, .inr (1, [.ref kt_, .ref ct_, .ref vt_, .int (nI nt)])), (kt_, .inl (G.2.1, 500, .inl (fun zz => nI (Kt zz)))), (ct_, .inl (G.2.1, 500, .inl (fun zz => nI (Ct zz)))), (vt_, .inl (G.2.1, 500, .inl (fun zz => nI (Vt zz)))), (fr, .inr (2, [.int (nI x0), .int (nI y0), .int (nI x1), .int (nI y1)]))]) [0, 1, 2, 3, 4, 5, 6, 7, 8, 9] (by decide) rfl
      refine W.widen (k := 0) (n := 0) (Nat.le_of_ble_eq_true rfl) (Nat.le_of_ble_eq_true rfl) ?_
      exact hret _ _ _ ((L, (nw, Kw, Cw, Vw), (nt, Kt, Ct, Vt), (x0, y0, x1, y1)), fr) _ _ rfl (Or.inr ⟨by first | exact fun z => q1 (putO_c z).1 | exact fun z => absurd hw0 (putO_c z).2 | exact fun z => absurd (putO_nI hL ha hb' hk' z) (by omega), rfl, rfl⟩) hP hD hS d_CI_put_22
  · have hl : lv_has ls 7 [(0, .ref o), (1, .int x), (2, .int y), (3, .int (nI k))] := hl
    refine lv_aload_n hx hb d_CI_put_0 rfl (lv_at hl 0 rfl) ?_
    refine lv_iload_n hx hb d_CI_put_1 rfl (lv_at hl 1 rfl) ?_
    refine lv_iload_n hx hb d_CI_put_2 rfl (lv_at hl 2 rfl) ?_
    refine vp_callSi (va_Run.run (run_V S v_CI_39 (c_CI_isCell la G o rw rt fr L x y hL) ⟨rfl, rfl⟩ ⟨Nat.le_of_ble_eq_true rfl, Nat.le_of_ble_eq_true rfl⟩ (preR_V hP hk (hs.kept (fun a h1 h2 => hS.2.1 a h1 h2)) [0] rfl 0 rfl rfl) (rest := []) rfl hl.1 rfl (Nat.le_of_ble_eq_true rfl) d_CI_put_3 ⟨Nat.le_of_ble_eq_true rfl, Nat.le_of_ble_eq_true rfl⟩)) (fun r1 hr1 => ?_)
    rcases hr1 with ⟨rfl, a, b, ha, hb', rfl, rfl⟩ | ⟨rfl, q1⟩
    · have hl : lv_has ls 7 [(0, .ref o), (1, .int (nI a)), (2, .int (nI b)), (3, .int (nI k))] := hl
      refine lv_if_eq hx hb d_CI_put_6 (tgt := 21) (by decide) (fun h => absurd h (by decide)) (fun _ => ?_)
      refine lv_iload_n hx hb d_CI_put_9 rfl (lv_at hl 3 rfl) ?_
      refine lv_iconst (v := nI 1) hx hb d_CI_put_10 (by decide) ?_
      refine x_icmp_lt hx hb d_CI_put_11 (tgt := 21) (by decide) (by omega) (by omega) (fun h11 => ?_) (fun h11 => ?_)
      · refine lv_iconst (v := (-1)) hx hb d_CI_put_21 (by decide) ?_
        have hP := hP.sub (ws' := [(o, .inr (0, [.ref rw, .ref rt, .int (nI L), .ref fr])), (rw, .inr (1, [.ref kw_, .ref cw_, .ref vw_, .int (nI nw)])), (kw_, .inl (G.2.1, 500, .inl (fun zz => nI (Kw zz)))), (cw_, .inl (G.2.1, 500, .inl (fun zz => nI (Cw zz)))), (vw_, .inl (G.2.1, 500, .inl (fun zz => nI (Vw zz)))), (rt, .inr (1, [.ref kt_, .ref ct_, .ref vt_, .int (nI nt)])), (kt_, .inl (G.2.1, 500, .inl (fun zz => nI (Kt zz)))), (ct_, .inl (G.2.1, 500, .inl (fun zz => nI (Ct zz)))), (vt_, .inl (G.2.1, 500, .inl (fun zz => nI (Vt zz)))), (fr, .inr (2, [.int (nI x0), .int (nI y0), .int (nI x1), .int (nI y1)]))]) [0, 1, 2, 3, 4, 5, 6, 7, 8, 9] rfl
        have hD := hD.sub (ws' := [(o, .inr (0, [.ref rw, .ref rt, .int (nI L), .ref fr])), (rw, .inr (1, [.ref kw_, .ref cw_, .ref vw_, .int (nI nw)])), (kw_, .inl (G.2.1, 500, .inl (fun zz => nI (Kw zz)))), (cw_, .inl (G.2.1, 500, .inl (fun zz => nI (Cw zz)))), (vw_, .inl (G.2.1, 500, .inl (fun zz => nI (Vw zz)))), (rt, .inr (1, [.ref kt_, .ref ct_, .ref vt_, .int (nI nt)])), (kt_, .inl (G.2.1, 500, .inl (fun zz => nI (Kt zz)))), (ct_, .inl (G.2.1, 500, .inl (fun zz => nI (Ct zz)))), (vt_, .inl (G.2.1, 500, .inl (fun zz => nI (Vt zz)))), (fr, .inr (2, [.int (nI x0), .int (nI y0), .int (nI x1), .int (nI y1)]))]) [0, 1, 2, 3, 4, 5, 6, 7, 8, 9] (by decide) rfl
        refine W.widen (k := 0) (n := 0) (Nat.le_of_ble_eq_true rfl) (Nat.le_of_ble_eq_true rfl) ?_
        exact hret _ _ _ ((L, (nw, Kw, Cw, Vw), (nt, Kt, Ct, Vt), (x0, y0, x1, y1)), fr) _ _ rfl (Or.inr ⟨by first | exact fun z => q1 (putO_c z).1 | exact fun z => absurd hw0 (putO_c z).2 | exact fun z => absurd (putO_nI hL ha hb' hk' z) (by omega), rfl, rfl⟩) hP hD hS d_CI_put_22
      · refine lv_iload_n hx hb d_CI_put_14 rfl (lv_at hl 3 rfl) ?_
        refine lv_sipush (v := nI 999) hx hb d_CI_put_15 (by decide) ?_
        refine x_icmp_le hx hb d_CI_put_18 (tgt := 23) (by decide) (by omega) (by omega) (fun h18 => ?_) (fun h18 => ?_)
        · refine lv_aload_n hx hb d_CI_put_23 rfl (lv_at hl 0 rfl) ?_
          refine lv_iconst (v := nI 1) hx hb d_CI_put_24 (by decide) ?_
          refine lv_iload_n hx hb d_CI_put_25 rfl (lv_at hl 1 rfl) ?_
          refine lv_iload_n hx hb d_CI_put_26 rfl (lv_at hl 2 rfl) ?_
          refine vp_callSi (va_Run.run (run_V S v_CI_43 (c_CI_keyOf la G o rw rt fr L 1 a b hL hL1 (by omega) ha hb') ⟨rfl, rfl⟩ ⟨Nat.le_of_ble_eq_true rfl, Nat.le_of_ble_eq_true rfl⟩ (preR_V hP hk (hs.kept (fun a h1 h2 => hS.2.1 a h1 h2)) [0] rfl 0 rfl rfl) (rest := []) rfl hl.1 rfl (Nat.le_of_ble_eq_true rfl) d_CI_put_27 ⟨Nat.le_of_ble_eq_true rfl, Nat.le_of_ble_eq_true rfl⟩)) (fun r2 hr2 => ?_)
          subst hr2
          have hk1 := kk_lt (cu := 1) ha hb'
          have hk0 := kk_lt (cu := 0) ha hb'
          have hcm := (cl_mk ha hb').1
          refine lv_istore hx hb d_CI_put_30 hl (by decide) rfl (fun ls hl => ?_)
          have hl : lv_has ls 7 [(4, .int (nI (kk 1 L a b))), (0, .ref o), (1, .int (nI a)), (2, .int (nI b)), (3, .int (nI k))] := hl
          refine lv_aload_n hx hb d_CI_put_32 rfl (lv_at hl 1 rfl) ?_
          refine y_get S hk hP 0 rfl f_CI_16 rfl d_CI_put_33 ?_
          refine lv_iload hx hb d_CI_put_36 (lv_at hl 0 rfl) ?_
          refine vp_callSi (va_Run.run (run_VN S hk v_CI_54 (c_Row_weightOf la G rt kt_ ct_ vt_ nt Kt Vt (kk 1 L a b) hnt hKt (by omega)) ⟨rfl, rfl⟩ ⟨Nat.le_of_ble_eq_true rfl, Nat.le_of_ble_eq_true rfl⟩ (preR_V hP hk (hs.kept (fun a h1 h2 => hS.2.1 a h1 h2)) [5, 6, 8] rfl 5 rfl rfl) (rest := []) rfl hl.1 rfl (Nat.le_of_ble_eq_true rfl) d_CI_put_38 ⟨Nat.le_of_ble_eq_true rfl, Nat.le_of_ble_eq_true rfl⟩)) (fun r3 hr3 => ?_)
          obtain ⟨q, hat, hw⟩ := hr3
          obtain ⟨e3, hw9⟩ := wt_of hrt ha hb' hat hw
          subst e3
          refine lv_istore hx hb d_CI_put_41 hl (by decide) rfl (fun ls hl => ?_)
          have hl : lv_has ls 7 [(5, .int (nI (wt nt Ct Vt (a * 2 ^ L + b)))), (4, .int (nI (kk 1 L a b))), (0, .ref o), (1, .int (nI a)), (2, .int (nI b)), (3, .int (nI k))] := hl
          refine lv_iload hx hb d_CI_put_43 (lv_at hl 0 rfl) ?_
          refine x_if_ne hx hb d_CI_put_45 (tgt := 60) (by decide) (by omega) (fun h45 => ?_) (fun h45 => ?_)
          · refine lv_aload_n hx hb d_CI_put_60 rfl (lv_at hl 2 rfl) ?_
            refine lv_iload_n hx hb d_CI_put_61 rfl (lv_at hl 3 rfl) ?_
            refine lv_iload_n hx hb d_CI_put_62 rfl (lv_at hl 4 rfl) ?_
            refine vp_callSi (va_Run.run (run_V S v_CI_62 (c_CI_cellNumber la G o rw rt fr L a b hL ha) ⟨rfl, rfl⟩ ⟨Nat.le_of_ble_eq_true rfl, Nat.le_of_ble_eq_true rfl⟩ (preR_V hP hk (hs.kept (fun a h1 h2 => hS.2.1 a h1 h2)) [0] rfl 0 rfl rfl) (rest := []) rfl hl.1 rfl (Nat.le_of_ble_eq_true rfl) d_CI_put_63 ⟨Nat.le_of_ble_eq_true rfl, Nat.le_of_ble_eq_true rfl⟩)) (fun r5 hr5 => ?_)
            subst hr5
            refine lv_istore hx hb d_CI_put_66 hl (by decide) rfl (fun ls hl => ?_)
            have hl : lv_has ls 7 [(6, .int (nI (a * 2 ^ L + b))), (5, .int (nI (wt nt Ct Vt (a * 2 ^ L + b)))), (4, .int (nI (kk 1 L a b))), (0, .ref o), (1, .int (nI a)), (2, .int (nI b)), (3, .int (nI k))] := hl
            refine lv_aload_n hx hb d_CI_put_68 rfl (lv_at hl 3 rfl) ?_
            refine y_get S hk hP 0 rfl f_CI_10 rfl d_CI_put_69 ?_
            refine lv_aload_n hx hb d_CI_put_72 rfl (lv_at hl 3 rfl) ?_
            refine lv_iconst (v := nI 0) hx hb d_CI_put_73 (by decide) ?_
            refine lv_iload_n hx hb d_CI_put_74 rfl (lv_at hl 4 rfl) ?_
            refine lv_iload_n hx hb d_CI_put_75 rfl (lv_at hl 5 rfl) ?_
            refine vp_callSi (va_Run.run (run_V S v_CI_43 (c_CI_keyOf la G o rw rt fr L 0 a b hL hL1 (by omega) ha hb') ⟨rfl, rfl⟩ ⟨Nat.le_of_ble_eq_true rfl, Nat.le_of_ble_eq_true rfl⟩ (preR_V hP hk (hs.kept (fun a h1 h2 => hS.2.1 a h1 h2)) [0] rfl 0 rfl rfl) (rest := [.ref rw]) rfl hl.1 rfl (Nat.le_of_ble_eq_true rfl) d_CI_put_76 ⟨Nat.le_of_ble_eq_true rfl, Nat.le_of_ble_eq_true rfl⟩)) (fun r6 hr6 => ?_)
            subst hr6
            refine lv_iload hx hb d_CI_put_79 (lv_at hl 0 rfl) ?_
            refine lv_iload_n hx hb d_CI_put_81 rfl (lv_at hl 6 rfl) ?_
            refine eff_V (wr := [(o, .inr (0, [.ref rw, .ref rt, .int (nI L), .ref fr])), (rt, .inr (1, [.ref kt_, .ref ct_, .ref vt_, .int (nI nt)])), (kt_, .inl (G.2.1, 500, .inl (fun zz => nI (Kt zz)))), (ct_, .inl (G.2.1, 500, .inl (fun zz => nI (Ct zz)))), (vt_, .inl (G.2.1, 500, .inl (fun zz => nI (Vt zz)))), (fr, .inr (2, [.int (nI x0), .int (nI y0), .int (nI x1), .int (nI y1)]))]) (run_VN S hk v_CI_65 (c_Row_keep la G rw kw_ cw_ vw_ nw Kw Cw Vw (kk 0 L a b) (a * 2 ^ L + b) k hnw hKw (by omega) _) ⟨rfl, rfl⟩ ⟨Nat.le_of_ble_eq_true rfl, Nat.le_of_ble_eq_true rfl⟩ (preW_V hP hD hA hS hk hs [1, 2, 3, 4] (by decide) rfl 1 rfl rfl) (rest := []) rfl hl.1 rfl (Nat.le_of_ble_eq_true rfl) d_CI_put_82 ⟨Nat.le_of_ble_eq_true rfl, Nat.le_of_ble_eq_true rfl⟩) hP hD hA hS [1, 2, 3, 4] [0, 5, 6, 7, 8, 9] rfl rfl (by decide) (by decide) (fun u1 H locs hu1 hP hD hS => ?_)
            have hP : va_P G.1 cls [(o, .inr (0, [.ref rw, .ref rt, .int (nI L), .ref fr])), (rt, .inr (1, [.ref kt_, .ref ct_, .ref vt_, .int (nI nt)])), (kt_, .inl (G.2.1, 500, .inl (fun zz => nI (Kt zz)))), (ct_, .inl (G.2.1, 500, .inl (fun zz => nI (Ct zz)))), (vt_, .inl (G.2.1, 500, .inl (fun zz => nI (Vt zz)))), (fr, .inr (2, [.int (nI x0), .int (nI y0), .int (nI x1), .int (nI y1)])), (rw, .inr (1, [.ref kw_, .ref cw_, .ref vw_, .int (nI u1.1)])), (kw_, .inl (G.2.1, 500, .inl (fun zz => nI (u1.2.1 zz)))), (cw_, .inl (G.2.1, 500, .inl (fun zz => nI (u1.2.2.1 zz)))), (vw_, .inl (G.2.1, 500, .inl (fun zz => nI (u1.2.2.2 zz))))] H := hP
            have hD : va_D A [(o, .inr (0, [.ref rw, .ref rt, .int (nI L), .ref fr])), (rt, .inr (1, [.ref kt_, .ref ct_, .ref vt_, .int (nI nt)])), (kt_, .inl (G.2.1, 500, .inl (fun zz => nI (Kt zz)))), (ct_, .inl (G.2.1, 500, .inl (fun zz => nI (Ct zz)))), (vt_, .inl (G.2.1, 500, .inl (fun zz => nI (Vt zz)))), (fr, .inr (2, [.int (nI x0), .int (nI y0), .int (nI x1), .int (nI y1)])), (rw, .inr (1, [.ref kw_, .ref cw_, .ref vw_, .int (nI u1.1)])), (kw_, .inl (G.2.1, 500, .inl (fun zz => nI (u1.2.1 zz)))), (cw_, .inl (G.2.1, 500, .inl (fun zz => nI (u1.2.2.1 zz)))), (vw_, .inl (G.2.1, 500, .inl (fun zz => nI (u1.2.2.2 zz))))] := hD
            refine lv_aload_n hx hb d_CI_put_85 rfl (lv_at hl 3 rfl) ?_
            refine y_get S hk hP 0 rfl f_CI_16 rfl d_CI_put_86 ?_
            refine lv_iload hx hb d_CI_put_89 (lv_at hl 2 rfl) ?_
            refine lv_iload hx hb d_CI_put_91 (lv_at hl 0 rfl) ?_
            refine lv_iload_n hx hb d_CI_put_93 rfl (lv_at hl 6 rfl) ?_
            refine eff_V (wr := [(o, .inr (0, [.ref rw, .ref rt, .int (nI L), .ref fr])), (fr, .inr (2, [.int (nI x0), .int (nI y0), .int (nI x1), .int (nI y1)])), (rw, .inr (1, [.ref kw_, .ref cw_, .ref vw_, .int (nI u1.1)])), (kw_, .inl (G.2.1, 500, .inl (fun zz => nI (u1.2.1 zz)))), (cw_, .inl (G.2.1, 500, .inl (fun zz => nI (u1.2.2.1 zz)))), (vw_, .inl (G.2.1, 500, .inl (fun zz => nI (u1.2.2.2 zz))))]) (run_VN S hk v_CI_65 (c_Row_keep la G rt kt_ ct_ vt_ nt Kt Ct Vt (kk 1 L a b) (a * 2 ^ L + b) k hnt hKt (by omega) _) ⟨rfl, rfl⟩ ⟨Nat.le_of_ble_eq_true rfl, Nat.le_of_ble_eq_true rfl⟩ (preW_V hP hD hA hS hk hs [1, 2, 3, 4] (by decide) rfl 1 rfl rfl) (rest := []) rfl hl.1 rfl (Nat.le_of_ble_eq_true rfl) d_CI_put_94 ⟨Nat.le_of_ble_eq_true rfl, Nat.le_of_ble_eq_true rfl⟩) hP hD hA hS [1, 2, 3, 4] [0, 5, 6, 7, 8, 9] rfl rfl (by decide) (by decide) (fun u2 H locs hu2 hP hD hS => ?_)
            have hP : va_P G.1 cls [(o, .inr (0, [.ref rw, .ref rt, .int (nI L), .ref fr])), (fr, .inr (2, [.int (nI x0), .int (nI y0), .int (nI x1), .int (nI y1)])), (rw, .inr (1, [.ref kw_, .ref cw_, .ref vw_, .int (nI u1.1)])), (kw_, .inl (G.2.1, 500, .inl (fun zz => nI (u1.2.1 zz)))), (cw_, .inl (G.2.1, 500, .inl (fun zz => nI (u1.2.2.1 zz)))), (vw_, .inl (G.2.1, 500, .inl (fun zz => nI (u1.2.2.2 zz)))), (rt, .inr (1, [.ref kt_, .ref ct_, .ref vt_, .int (nI u2.1)])), (kt_, .inl (G.2.1, 500, .inl (fun zz => nI (u2.2.1 zz)))), (ct_, .inl (G.2.1, 500, .inl (fun zz => nI (u2.2.2.1 zz)))), (vt_, .inl (G.2.1, 500, .inl (fun zz => nI (u2.2.2.2 zz))))] H := hP
            have hD : va_D A [(o, .inr (0, [.ref rw, .ref rt, .int (nI L), .ref fr])), (fr, .inr (2, [.int (nI x0), .int (nI y0), .int (nI x1), .int (nI y1)])), (rw, .inr (1, [.ref kw_, .ref cw_, .ref vw_, .int (nI u1.1)])), (kw_, .inl (G.2.1, 500, .inl (fun zz => nI (u1.2.1 zz)))), (cw_, .inl (G.2.1, 500, .inl (fun zz => nI (u1.2.2.1 zz)))), (vw_, .inl (G.2.1, 500, .inl (fun zz => nI (u1.2.2.2 zz)))), (rt, .inr (1, [.ref kt_, .ref ct_, .ref vt_, .int (nI u2.1)])), (kt_, .inl (G.2.1, 500, .inl (fun zz => nI (u2.2.1 zz)))), (ct_, .inl (G.2.1, 500, .inl (fun zz => nI (u2.2.2.1 zz)))), (vt_, .inl (G.2.1, 500, .inl (fun zz => nI (u2.2.2.2 zz))))] := hD
            refine lv_iload hx hb d_CI_put_97 (lv_at hl 1 rfl) ?_
            have hP := hP.sub (ws' := [(o, .inr (0, [.ref rw, .ref rt, .int (nI L), .ref fr])), (rw, .inr (1, [.ref kw_, .ref cw_, .ref vw_, .int (nI u1.1)])), (kw_, .inl (G.2.1, 500, .inl (fun zz => nI (u1.2.1 zz)))), (cw_, .inl (G.2.1, 500, .inl (fun zz => nI (u1.2.2.1 zz)))), (vw_, .inl (G.2.1, 500, .inl (fun zz => nI (u1.2.2.2 zz)))), (rt, .inr (1, [.ref kt_, .ref ct_, .ref vt_, .int (nI u2.1)])), (kt_, .inl (G.2.1, 500, .inl (fun zz => nI (u2.2.1 zz)))), (ct_, .inl (G.2.1, 500, .inl (fun zz => nI (u2.2.2.1 zz)))), (vt_, .inl (G.2.1, 500, .inl (fun zz => nI (u2.2.2.2 zz)))), (fr, .inr (2, [.int (nI x0), .int (nI y0), .int (nI x1), .int (nI y1)]))]) [0, 2, 3, 4, 5, 6, 7, 8, 9, 1] rfl
            have hD := hD.sub (ws' := [(o, .inr (0, [.ref rw, .ref rt, .int (nI L), .ref fr])), (rw, .inr (1, [.ref kw_, .ref cw_, .ref vw_, .int (nI u1.1)])), (kw_, .inl (G.2.1, 500, .inl (fun zz => nI (u1.2.1 zz)))), (cw_, .inl (G.2.1, 500, .inl (fun zz => nI (u1.2.2.1 zz)))), (vw_, .inl (G.2.1, 500, .inl (fun zz => nI (u1.2.2.2 zz)))), (rt, .inr (1, [.ref kt_, .ref ct_, .ref vt_, .int (nI u2.1)])), (kt_, .inl (G.2.1, 500, .inl (fun zz => nI (u2.2.1 zz)))), (ct_, .inl (G.2.1, 500, .inl (fun zz => nI (u2.2.2.1 zz)))), (vt_, .inl (G.2.1, 500, .inl (fun zz => nI (u2.2.2.2 zz)))), (fr, .inr (2, [.int (nI x0), .int (nI y0), .int (nI x1), .int (nI y1)]))]) [0, 2, 3, 4, 5, 6, 7, 8, 9, 1] (by decide) rfl
            refine W.widen (k := 0) (n := 0) (Nat.le_of_ble_eq_true rfl) (Nat.le_of_ble_eq_true rfl) ?_
            exact hret _ _ _ ((L, u1, u2, (x0, y0, x1, y1)), fr) _ _ rfl (by obtain ⟨g1, g2⟩ := put_all hC' ha hb' ⟨by omega, by omega⟩ (by omega) hu1 hu2; exact Or.inl ⟨a, b, k, ha, hb', by omega, by omega, rfl, rfl, rfl, by omega, rfl, g2, g1, rfl, rfl, rfl⟩) hP hD hS d_CI_put_99
          · refine lv_aload_n hx hb d_CI_put_48 rfl (lv_at hl 2 rfl) ?_
            refine y_get S hk hP 0 rfl f_CI_16 rfl d_CI_put_49 ?_
            refine vp_callSi (va_Run.run (run_VN S hk v_CI_58 (c_Row_isFull la G rt kt_ ct_ vt_ nt hnt) ⟨rfl, rfl⟩ ⟨Nat.le_of_ble_eq_true rfl, Nat.le_of_ble_eq_true rfl⟩ (preR_V hP hk (hs.kept (fun a h1 h2 => hS.2.1 a h1 h2)) [5] rfl 5 rfl rfl) (rest := []) rfl hl.1 rfl (Nat.le_of_ble_eq_true rfl) d_CI_put_52 ⟨Nat.le_of_ble_eq_true rfl, Nat.le_of_ble_eq_true rfl⟩)) (fun r4 hr4 => ?_)
            rcases hr4 with ⟨rfl, q4⟩ | ⟨rfl, q4⟩
            · refine lv_if_eq hx hb d_CI_put_55 (tgt := 60) (by decide) (fun h => absurd h (by decide)) (fun _ => ?_)
              refine lv_iconst (v := (-1)) hx hb d_CI_put_58 (by decide) ?_
              have hP := hP.sub (ws' := [(o, .inr (0, [.ref rw, .ref rt, .int (nI L), .ref fr])), (rw, .inr (1, [.ref kw_, .ref cw_, .ref vw_, .int (nI nw)])), (kw_, .inl (G.2.1, 500, .inl (fun zz => nI (Kw zz)))), (cw_, .inl (G.2.1, 500, .inl (fun zz => nI (Cw zz)))), (vw_, .inl (G.2.1, 500, .inl (fun zz => nI (Vw zz)))), (rt, .inr (1, [.ref kt_, .ref ct_, .ref vt_, .int (nI nt)])), (kt_, .inl (G.2.1, 500, .inl (fun zz => nI (Kt zz)))), (ct_, .inl (G.2.1, 500, .inl (fun zz => nI (Ct zz)))), (vt_, .inl (G.2.1, 500, .inl (fun zz => nI (Vt zz)))), (fr, .inr (2, [.int (nI x0), .int (nI y0), .int (nI x1), .int (nI y1)]))]) [0, 1, 2, 3, 4, 5, 6, 7, 8, 9] rfl
              have hD := hD.sub (ws' := [(o, .inr (0, [.ref rw, .ref rt, .int (nI L), .ref fr])), (rw, .inr (1, [.ref kw_, .ref cw_, .ref vw_, .int (nI nw)])), (kw_, .inl (G.2.1, 500, .inl (fun zz => nI (Kw zz)))), (cw_, .inl (G.2.1, 500, .inl (fun zz => nI (Cw zz)))), (vw_, .inl (G.2.1, 500, .inl (fun zz => nI (Vw zz)))), (rt, .inr (1, [.ref kt_, .ref ct_, .ref vt_, .int (nI nt)])), (kt_, .inl (G.2.1, 500, .inl (fun zz => nI (Kt zz)))), (ct_, .inl (G.2.1, 500, .inl (fun zz => nI (Ct zz)))), (vt_, .inl (G.2.1, 500, .inl (fun zz => nI (Vt zz)))), (fr, .inr (2, [.int (nI x0), .int (nI y0), .int (nI x1), .int (nI y1)]))]) [0, 1, 2, 3, 4, 5, 6, 7, 8, 9] (by decide) rfl
              refine W.widen (k := 0) (n := 0) (Nat.le_of_ble_eq_true rfl) (Nat.le_of_ble_eq_true rfl) ?_
              exact hret _ _ _ ((L, (nw, Kw, Cw, Vw), (nt, Kt, Ct, Vt), (x0, y0, x1, y1)), fr) _ _ rfl (Or.inr ⟨by first | exact fun z => q1 (putO_c z).1 | exact fun z => absurd hw0 (putO_c z).2 | exact fun z => absurd (putO_nI hL ha hb' hk' z) (by omega), rfl, rfl⟩) hP hD hS d_CI_put_59
            · refine lv_if_eq hx hb d_CI_put_55 (tgt := 60) (by decide) (fun _ => ?_) (fun h => absurd (by decide) h)
              refine lv_aload_n hx hb d_CI_put_60 rfl (lv_at hl 2 rfl) ?_
              refine lv_iload_n hx hb d_CI_put_61 rfl (lv_at hl 3 rfl) ?_
              refine lv_iload_n hx hb d_CI_put_62 rfl (lv_at hl 4 rfl) ?_
              refine vp_callSi (va_Run.run (run_V S v_CI_62 (c_CI_cellNumber la G o rw rt fr L a b hL ha) ⟨rfl, rfl⟩ ⟨Nat.le_of_ble_eq_true rfl, Nat.le_of_ble_eq_true rfl⟩ (preR_V hP hk (hs.kept (fun a h1 h2 => hS.2.1 a h1 h2)) [0] rfl 0 rfl rfl) (rest := []) rfl hl.1 rfl (Nat.le_of_ble_eq_true rfl) d_CI_put_63 ⟨Nat.le_of_ble_eq_true rfl, Nat.le_of_ble_eq_true rfl⟩)) (fun r5 hr5 => ?_)
              subst hr5
              refine lv_istore hx hb d_CI_put_66 hl (by decide) rfl (fun ls hl => ?_)
              have hl : lv_has ls 7 [(6, .int (nI (a * 2 ^ L + b))), (5, .int (nI (wt nt Ct Vt (a * 2 ^ L + b)))), (4, .int (nI (kk 1 L a b))), (0, .ref o), (1, .int (nI a)), (2, .int (nI b)), (3, .int (nI k))] := hl
              refine lv_aload_n hx hb d_CI_put_68 rfl (lv_at hl 3 rfl) ?_
              refine y_get S hk hP 0 rfl f_CI_10 rfl d_CI_put_69 ?_
              refine lv_aload_n hx hb d_CI_put_72 rfl (lv_at hl 3 rfl) ?_
              refine lv_iconst (v := nI 0) hx hb d_CI_put_73 (by decide) ?_
              refine lv_iload_n hx hb d_CI_put_74 rfl (lv_at hl 4 rfl) ?_
              refine lv_iload_n hx hb d_CI_put_75 rfl (lv_at hl 5 rfl) ?_
              refine vp_callSi (va_Run.run (run_V S v_CI_43 (c_CI_keyOf la G o rw rt fr L 0 a b hL hL1 (by omega) ha hb') ⟨rfl, rfl⟩ ⟨Nat.le_of_ble_eq_true rfl, Nat.le_of_ble_eq_true rfl⟩ (preR_V hP hk (hs.kept (fun a h1 h2 => hS.2.1 a h1 h2)) [0] rfl 0 rfl rfl) (rest := [.ref rw]) rfl hl.1 rfl (Nat.le_of_ble_eq_true rfl) d_CI_put_76 ⟨Nat.le_of_ble_eq_true rfl, Nat.le_of_ble_eq_true rfl⟩)) (fun r6 hr6 => ?_)
              subst hr6
              refine lv_iload hx hb d_CI_put_79 (lv_at hl 0 rfl) ?_
              refine lv_iload_n hx hb d_CI_put_81 rfl (lv_at hl 6 rfl) ?_
              refine eff_V (wr := [(o, .inr (0, [.ref rw, .ref rt, .int (nI L), .ref fr])), (rt, .inr (1, [.ref kt_, .ref ct_, .ref vt_, .int (nI nt)])), (kt_, .inl (G.2.1, 500, .inl (fun zz => nI (Kt zz)))), (ct_, .inl (G.2.1, 500, .inl (fun zz => nI (Ct zz)))), (vt_, .inl (G.2.1, 500, .inl (fun zz => nI (Vt zz)))), (fr, .inr (2, [.int (nI x0), .int (nI y0), .int (nI x1), .int (nI y1)]))]) (run_VN S hk v_CI_65 (c_Row_keep la G rw kw_ cw_ vw_ nw Kw Cw Vw (kk 0 L a b) (a * 2 ^ L + b) k hnw hKw (by omega) _) ⟨rfl, rfl⟩ ⟨Nat.le_of_ble_eq_true rfl, Nat.le_of_ble_eq_true rfl⟩ (preW_V hP hD hA hS hk hs [1, 2, 3, 4] (by decide) rfl 1 rfl rfl) (rest := []) rfl hl.1 rfl (Nat.le_of_ble_eq_true rfl) d_CI_put_82 ⟨Nat.le_of_ble_eq_true rfl, Nat.le_of_ble_eq_true rfl⟩) hP hD hA hS [1, 2, 3, 4] [0, 5, 6, 7, 8, 9] rfl rfl (by decide) (by decide) (fun u1 H locs hu1 hP hD hS => ?_)
              have hP : va_P G.1 cls [(o, .inr (0, [.ref rw, .ref rt, .int (nI L), .ref fr])), (rt, .inr (1, [.ref kt_, .ref ct_, .ref vt_, .int (nI nt)])), (kt_, .inl (G.2.1, 500, .inl (fun zz => nI (Kt zz)))), (ct_, .inl (G.2.1, 500, .inl (fun zz => nI (Ct zz)))), (vt_, .inl (G.2.1, 500, .inl (fun zz => nI (Vt zz)))), (fr, .inr (2, [.int (nI x0), .int (nI y0), .int (nI x1), .int (nI y1)])), (rw, .inr (1, [.ref kw_, .ref cw_, .ref vw_, .int (nI u1.1)])), (kw_, .inl (G.2.1, 500, .inl (fun zz => nI (u1.2.1 zz)))), (cw_, .inl (G.2.1, 500, .inl (fun zz => nI (u1.2.2.1 zz)))), (vw_, .inl (G.2.1, 500, .inl (fun zz => nI (u1.2.2.2 zz))))] H := hP
              have hD : va_D A [(o, .inr (0, [.ref rw, .ref rt, .int (nI L), .ref fr])), (rt, .inr (1, [.ref kt_, .ref ct_, .ref vt_, .int (nI nt)])), (kt_, .inl (G.2.1, 500, .inl (fun zz => nI (Kt zz)))), (ct_, .inl (G.2.1, 500, .inl (fun zz => nI (Ct zz)))), (vt_, .inl (G.2.1, 500, .inl (fun zz => nI (Vt zz)))), (fr, .inr (2, [.int (nI x0), .int (nI y0), .int (nI x1), .int (nI y1)])), (rw, .inr (1, [.ref kw_, .ref cw_, .ref vw_, .int (nI u1.1)])), (kw_, .inl (G.2.1, 500, .inl (fun zz => nI (u1.2.1 zz)))), (cw_, .inl (G.2.1, 500, .inl (fun zz => nI (u1.2.2.1 zz)))), (vw_, .inl (G.2.1, 500, .inl (fun zz => nI (u1.2.2.2 zz))))] := hD
              refine lv_aload_n hx hb d_CI_put_85 rfl (lv_at hl 3 rfl) ?_
              refine y_get S hk hP 0 rfl f_CI_16 rfl d_CI_put_86 ?_
              refine lv_iload hx hb d_CI_put_89 (lv_at hl 2 rfl) ?_
              refine lv_iload hx hb d_CI_put_91 (lv_at hl 0 rfl) ?_
              refine lv_iload_n hx hb d_CI_put_93 rfl (lv_at hl 6 rfl) ?_
              refine eff_V (wr := [(o, .inr (0, [.ref rw, .ref rt, .int (nI L), .ref fr])), (fr, .inr (2, [.int (nI x0), .int (nI y0), .int (nI x1), .int (nI y1)])), (rw, .inr (1, [.ref kw_, .ref cw_, .ref vw_, .int (nI u1.1)])), (kw_, .inl (G.2.1, 500, .inl (fun zz => nI (u1.2.1 zz)))), (cw_, .inl (G.2.1, 500, .inl (fun zz => nI (u1.2.2.1 zz)))), (vw_, .inl (G.2.1, 500, .inl (fun zz => nI (u1.2.2.2 zz))))]) (run_VN S hk v_CI_65 (c_Row_keep la G rt kt_ ct_ vt_ nt Kt Ct Vt (kk 1 L a b) (a * 2 ^ L + b) k hnt hKt (by omega) _) ⟨rfl, rfl⟩ ⟨Nat.le_of_ble_eq_true rfl, Nat.le_of_ble_eq_true rfl⟩ (preW_V hP hD hA hS hk hs [1, 2, 3, 4] (by decide) rfl 1 rfl rfl) (rest := []) rfl hl.1 rfl (Nat.le_of_ble_eq_true rfl) d_CI_put_94 ⟨Nat.le_of_ble_eq_true rfl, Nat.le_of_ble_eq_true rfl⟩) hP hD hA hS [1, 2, 3, 4] [0, 5, 6, 7, 8, 9] rfl rfl (by decide) (by decide) (fun u2 H locs hu2 hP hD hS => ?_)
              have hP : va_P G.1 cls [(o, .inr (0, [.ref rw, .ref rt, .int (nI L), .ref fr])), (fr, .inr (2, [.int (nI x0), .int (nI y0), .int (nI x1), .int (nI y1)])), (rw, .inr (1, [.ref kw_, .ref cw_, .ref vw_, .int (nI u1.1)])), (kw_, .inl (G.2.1, 500, .inl (fun zz => nI (u1.2.1 zz)))), (cw_, .inl (G.2.1, 500, .inl (fun zz => nI (u1.2.2.1 zz)))), (vw_, .inl (G.2.1, 500, .inl (fun zz => nI (u1.2.2.2 zz)))), (rt, .inr (1, [.ref kt_, .ref ct_, .ref vt_, .int (nI u2.1)])), (kt_, .inl (G.2.1, 500, .inl (fun zz => nI (u2.2.1 zz)))), (ct_, .inl (G.2.1, 500, .inl (fun zz => nI (u2.2.2.1 zz)))), (vt_, .inl (G.2.1, 500, .inl (fun zz => nI (u2.2.2.2 zz))))] H := hP
              have hD : va_D A [(o, .inr (0, [.ref rw, .ref rt, .int (nI L), .ref fr])), (fr, .inr (2, [.int (nI x0), .int (nI y0), .int (nI x1), .int (nI y1)])), (rw, .inr (1, [.ref kw_, .ref cw_, .ref vw_, .int (nI u1.1)])), (kw_, .inl (G.2.1, 500, .inl (fun zz => nI (u1.2.1 zz)))), (cw_, .inl (G.2.1, 500, .inl (fun zz => nI (u1.2.2.1 zz)))), (vw_, .inl (G.2.1, 500, .inl (fun zz => nI (u1.2.2.2 zz)))), (rt, .inr (1, [.ref kt_, .ref ct_, .ref vt_, .int (nI u2.1)])), (kt_, .inl (G.2.1, 500, .inl (fun zz => nI (u2.2.1 zz)))), (ct_, .inl (G.2.1, 500, .inl (fun zz => nI (u2.2.2.1 zz)))), (vt_, .inl (G.2.1, 500, .inl (fun zz => nI (u2.2.2.2 zz))))] := hD
              refine lv_iload hx hb d_CI_put_97 (lv_at hl 1 rfl) ?_
              have hP := hP.sub (ws' := [(o, .inr (0, [.ref rw, .ref rt, .int (nI L), .ref fr])), (rw, .inr (1, [.ref kw_, .ref cw_, .ref vw_, .int (nI u1.1)])), (kw_, .inl (G.2.1, 500, .inl (fun zz => nI (u1.2.1 zz)))), (cw_, .inl (G.2.1, 500, .inl (fun zz => nI (u1.2.2.1 zz)))), (vw_, .inl (G.2.1, 500, .inl (fun zz => nI (u1.2.2.2 zz)))), (rt, .inr (1, [.ref kt_, .ref ct_, .ref vt_, .int (nI u2.1)])), (kt_, .inl (G.2.1, 500, .inl (fun zz => nI (u2.2.1 zz)))), (ct_, .inl (G.2.1, 500, .inl (fun zz => nI (u2.2.2.1 zz)))), (vt_, .inl (G.2.1, 500, .inl (fun zz => nI (u2.2.2.2 zz)))), (fr, .inr (2, [.int (nI x0), .int (nI y0), .int (nI x1), .int (nI y1)]))]) [0, 2, 3, 4, 5, 6, 7, 8, 9, 1] rfl
              have hD := hD.sub (ws' := [(o, .inr (0, [.ref rw, .ref rt, .int (nI L), .ref fr])), (rw, .inr (1, [.ref kw_, .ref cw_, .ref vw_, .int (nI u1.1)])), (kw_, .inl (G.2.1, 500, .inl (fun zz => nI (u1.2.1 zz)))), (cw_, .inl (G.2.1, 500, .inl (fun zz => nI (u1.2.2.1 zz)))), (vw_, .inl (G.2.1, 500, .inl (fun zz => nI (u1.2.2.2 zz)))), (rt, .inr (1, [.ref kt_, .ref ct_, .ref vt_, .int (nI u2.1)])), (kt_, .inl (G.2.1, 500, .inl (fun zz => nI (u2.2.1 zz)))), (ct_, .inl (G.2.1, 500, .inl (fun zz => nI (u2.2.2.1 zz)))), (vt_, .inl (G.2.1, 500, .inl (fun zz => nI (u2.2.2.2 zz)))), (fr, .inr (2, [.int (nI x0), .int (nI y0), .int (nI x1), .int (nI y1)]))]) [0, 2, 3, 4, 5, 6, 7, 8, 9, 1] (by decide) rfl
              refine W.widen (k := 0) (n := 0) (Nat.le_of_ble_eq_true rfl) (Nat.le_of_ble_eq_true rfl) ?_
              exact hret _ _ _ ((L, u1, u2, (x0, y0, x1, y1)), fr) _ _ rfl (by obtain ⟨g1, g2⟩ := put_all hC' ha hb' ⟨by omega, by omega⟩ (by omega) hu1 hu2; exact Or.inl ⟨a, b, k, ha, hb', by omega, by omega, rfl, rfl, rfl, by omega, rfl, g2, g1, rfl, rfl, rfl⟩) hP hD hS d_CI_put_99
        · refine lv_iconst (v := (-1)) hx hb d_CI_put_21 (by decide) ?_
          have hP := hP.sub (ws' := [(o, .inr (0, [.ref rw, .ref rt, .int (nI L), .ref fr])), (rw, .inr (1, [.ref kw_, .ref cw_, .ref vw_, .int (nI nw)])), (kw_, .inl (G.2.1, 500, .inl (fun zz => nI (Kw zz)))), (cw_, .inl (G.2.1, 500, .inl (fun zz => nI (Cw zz)))), (vw_, .inl (G.2.1, 500, .inl (fun zz => nI (Vw zz)))), (rt, .inr (1, [.ref kt_, .ref ct_, .ref vt_, .int (nI nt)])), (kt_, .inl (G.2.1, 500, .inl (fun zz => nI (Kt zz)))), (ct_, .inl (G.2.1, 500, .inl (fun zz => nI (Ct zz)))), (vt_, .inl (G.2.1, 500, .inl (fun zz => nI (Vt zz)))), (fr, .inr (2, [.int (nI x0), .int (nI y0), .int (nI x1), .int (nI y1)]))]) [0, 1, 2, 3, 4, 5, 6, 7, 8, 9] rfl
          have hD := hD.sub (ws' := [(o, .inr (0, [.ref rw, .ref rt, .int (nI L), .ref fr])), (rw, .inr (1, [.ref kw_, .ref cw_, .ref vw_, .int (nI nw)])), (kw_, .inl (G.2.1, 500, .inl (fun zz => nI (Kw zz)))), (cw_, .inl (G.2.1, 500, .inl (fun zz => nI (Cw zz)))), (vw_, .inl (G.2.1, 500, .inl (fun zz => nI (Vw zz)))), (rt, .inr (1, [.ref kt_, .ref ct_, .ref vt_, .int (nI nt)])), (kt_, .inl (G.2.1, 500, .inl (fun zz => nI (Kt zz)))), (ct_, .inl (G.2.1, 500, .inl (fun zz => nI (Ct zz)))), (vt_, .inl (G.2.1, 500, .inl (fun zz => nI (Vt zz)))), (fr, .inr (2, [.int (nI x0), .int (nI y0), .int (nI x1), .int (nI y1)]))]) [0, 1, 2, 3, 4, 5, 6, 7, 8, 9] (by decide) rfl
          refine W.widen (k := 0) (n := 0) (Nat.le_of_ble_eq_true rfl) (Nat.le_of_ble_eq_true rfl) ?_
          exact hret _ _ _ ((L, (nw, Kw, Cw, Vw), (nt, Kt, Ct, Vt), (x0, y0, x1, y1)), fr) _ _ rfl (Or.inr ⟨by first | exact fun z => q1 (putO_c z).1 | exact fun z => absurd hw0 (putO_c z).2 | exact fun z => absurd (putO_nI hL ha hb' hk' z) (by omega), rfl, rfl⟩) hP hD hS d_CI_put_22
    · refine lv_if_eq hx hb d_CI_put_6 (tgt := 21) (by decide) (fun _ => ?_) (fun h => absurd (by decide) h)
      refine lv_iconst (v := (-1)) hx hb d_CI_put_21 (by decide) ?_
      have hP := hP.sub (ws' := [(o, .inr (0, [.ref rw, .ref rt, .int (nI L), .ref fr])), (rw, .inr (1, [.ref kw_, .ref cw_, .ref vw_, .int (nI nw)])), (kw_, .inl (G.2.1, 500, .inl (fun zz => nI (Kw zz)))), (cw_, .inl (G.2.1, 500, .inl (fun zz => nI (Cw zz)))), (vw_, .inl (G.2.1, 500, .inl (fun zz => nI (Vw zz)))), (rt, .inr (1, [.ref kt_, .ref ct_, .ref vt_, .int (nI nt)])), (kt_, .inl (G.2.1, 500, .inl (fun zz => nI (Kt zz)))), (ct_, .inl (G.2.1, 500, .inl (fun zz => nI (Ct zz)))), (vt_, .inl (G.2.1, 500, .inl (fun zz => nI (Vt zz)))), (fr, .inr (2, [.int (nI x0), .int (nI y0), .int (nI x1), .int (nI y1)]))]) [0, 1, 2, 3, 4, 5, 6, 7, 8, 9] rfl
      have hD := hD.sub (ws' := [(o, .inr (0, [.ref rw, .ref rt, .int (nI L), .ref fr])), (rw, .inr (1, [.ref kw_, .ref cw_, .ref vw_, .int (nI nw)])), (kw_, .inl (G.2.1, 500, .inl (fun zz => nI (Kw zz)))), (cw_, .inl (G.2.1, 500, .inl (fun zz => nI (Cw zz)))), (vw_, .inl (G.2.1, 500, .inl (fun zz => nI (Vw zz)))), (rt, .inr (1, [.ref kt_, .ref ct_, .ref vt_, .int (nI nt)])), (kt_, .inl (G.2.1, 500, .inl (fun zz => nI (Kt zz)))), (ct_, .inl (G.2.1, 500, .inl (fun zz => nI (Ct zz)))), (vt_, .inl (G.2.1, 500, .inl (fun zz => nI (Vt zz)))), (fr, .inr (2, [.int (nI x0), .int (nI y0), .int (nI x1), .int (nI y1)]))]) [0, 1, 2, 3, 4, 5, 6, 7, 8, 9] (by decide) rfl
      refine W.widen (k := 0) (n := 0) (Nat.le_of_ble_eq_true rfl) (Nat.le_of_ble_eq_true rfl) ?_
      exact hret _ _ _ ((L, (nw, Kw, Cw, Vw), (nt, Kt, Ct, Vt), (x0, y0, x1, y1)), fr) _ _ rfl (Or.inr ⟨by first | exact fun z => q1 (putO_c z).1 | exact fun z => absurd hw0 (putO_c z).2 | exact fun z => absurd (putO_nI hL ha hb' hk' z) (by omega), rfl, rfl⟩) hP hD hS d_CI_put_22
set_option maxHeartbeats 4000000 in
set_option maxRecDepth 100000 in
theorem c_CI_take (la : Launch) (G : gG) (o rw kw_ cw_ vw_ rt kt_ ct_ vt_ fr L nw nt x0 y0 x1 y1 : Nat) (Kw Cw Vw Kt Ct Vt : Nat → Nat) (x y : Int32) (hC : okC (L, (nw, Kw, Cw, Vw), (nt, Kt, Ct, Vt), (x0, y0, x1, y1))) : MetW la y_CI_take b_CI_take 5 .int 3 105 0 0 [.ref o, .int x, .int y] G [(o, .inr (0, [.ref rw, .ref rt, .int (nI L), .ref fr])), (rw, .inr (1, [.ref kw_, .ref cw_, .ref vw_, .int (nI nw)])), (kw_, .inl (G.2.1, 500, .inl (fun zz => nI (Kw zz)))), (cw_, .inl (G.2.1, 500, .inl (fun zz => nI (Cw zz)))), (vw_, .inl (G.2.1, 500, .inl (fun zz => nI (Vw zz)))), (rt, .inr (1, [.ref kt_, .ref ct_, .ref vt_, .int (nI nt)])), (kt_, .inl (G.2.1, 500, .inl (fun zz => nI (Kt zz)))), (ct_, .inl (G.2.1, 500, .inl (fun zz => nI (Ct zz)))), (vt_, .inl (G.2.1, 500, .inl (fun zz => nI (Vt zz)))), (fr, .inr (2, [.int (nI x0), .int (nI y0), .int (nI x1), .int (nI y1)]))] (S := cS × Nat) (fun r u => (∃ a b, a < 2 ^ L ∧ b < 2 ^ L ∧ x = nI a ∧ y = nI b ∧ r = nI (wt nt Ct Vt (a * 2 ^ L + b)) ∧ takS nt Ct Vt (a * 2 ^ L + b) u.1.2.2.1.1 u.1.2.2.1.2.2.1 u.1.2.2.1.2.2.2 ∧ okC u.1 ∧ u.1.1 = L ∧ u.1.2.2.2 = (x0, y0, x1, y1) ∧ u.2 = fr) ∨ (¬ inC L x y ∧ r = -1 ∧ u = ((L, (nw, Kw, Cw, Vw), (nt, Kt, Ct, Vt), (x0, y0, x1, y1)), fr))) (fun u => [(o, .inr (0, [.ref rw, .ref rt, .int (nI u.1.1), .ref u.2])), (rw, .inr (1, [.ref kw_, .ref cw_, .ref vw_, .int (nI u.1.2.1.1)])), (kw_, .inl (G.2.1, 500, .inl (fun zz => nI (u.1.2.1.2.1 zz)))), (cw_, .inl (G.2.1, 500, .inl (fun zz => nI (u.1.2.1.2.2.1 zz)))), (vw_, .inl (G.2.1, 500, .inl (fun zz => nI (u.1.2.1.2.2.2 zz)))), (rt, .inr (1, [.ref kt_, .ref ct_, .ref vt_, .int (nI u.1.2.2.1.1)])), (kt_, .inl (G.2.1, 500, .inl (fun zz => nI (u.1.2.2.1.2.1 zz)))), (ct_, .inl (G.2.1, 500, .inl (fun zz => nI (u.1.2.2.1.2.2.1 zz)))), (vt_, .inl (G.2.1, 500, .inl (fun zz => nI (u.1.2.2.1.2.2.2 zz)))), (u.2, .inr (2, [.int (nI u.1.2.2.2.1), .int (nI u.1.2.2.2.2.1), .int (nI u.1.2.2.2.2.2.1), .int (nI u.1.2.2.2.2.2.2)]))]) := by
  refine MetW.mk (by decide +kernel) (Nat.le_of_ble_eq_true rfl) ?_
  intro p e s m below meth c Q A ls S hP hD hA hS hk hs hret hl
  have hx := S.1
  have hb := S.2.1
  have hP : va_P G.1 cls [(o, .inr (0, [.ref rw, .ref rt, .int (nI L), .ref fr])), (rw, .inr (1, [.ref kw_, .ref cw_, .ref vw_, .int (nI nw)])), (kw_, .inl (G.2.1, 500, .inl (fun zz => nI (Kw zz)))), (cw_, .inl (G.2.1, 500, .inl (fun zz => nI (Cw zz)))), (vw_, .inl (G.2.1, 500, .inl (fun zz => nI (Vw zz)))), (rt, .inr (1, [.ref kt_, .ref ct_, .ref vt_, .int (nI nt)])), (kt_, .inl (G.2.1, 500, .inl (fun zz => nI (Kt zz)))), (ct_, .inl (G.2.1, 500, .inl (fun zz => nI (Ct zz)))), (vt_, .inl (G.2.1, 500, .inl (fun zz => nI (Vt zz)))), (fr, .inr (2, [.int (nI x0), .int (nI y0), .int (nI x1), .int (nI y1)]))] s.heap := hP
  have hD : va_D A [(o, .inr (0, [.ref rw, .ref rt, .int (nI L), .ref fr])), (rw, .inr (1, [.ref kw_, .ref cw_, .ref vw_, .int (nI nw)])), (kw_, .inl (G.2.1, 500, .inl (fun zz => nI (Kw zz)))), (cw_, .inl (G.2.1, 500, .inl (fun zz => nI (Cw zz)))), (vw_, .inl (G.2.1, 500, .inl (fun zz => nI (Vw zz)))), (rt, .inr (1, [.ref kt_, .ref ct_, .ref vt_, .int (nI nt)])), (kt_, .inl (G.2.1, 500, .inl (fun zz => nI (Kt zz)))), (ct_, .inl (G.2.1, 500, .inl (fun zz => nI (Ct zz)))), (vt_, .inl (G.2.1, 500, .inl (fun zz => nI (Vt zz)))), (fr, .inr (2, [.int (nI x0), .int (nI y0), .int (nI x1), .int (nI y1)]))] := hD
  have hC' := hC
  obtain ⟨⟨hL1, hL⟩, hrw, hrt, ⟨hKw, hCw, hVw⟩, ⟨hKt, hCt, hVt⟩, hF, hsm⟩ := hC
  dsimp only at hL1 hL hrw hrt hKw hCw hVw hKt hCt hVt hF hsm
  have hFb := hF.b hL
  obtain ⟨hf1, hf2, hf3, hf4⟩ := hF
  dsimp only at hf1 hf2 hf3 hf4 hFb
  have hp2 := p2_15 hL
  have hp4 := p4_15 hL
  have hpp := Nat.two_pow_pos L
  have hnw := hrw.1
  have hnt := hrt.1
  have hl : lv_has ls 5 [(0, .ref o), (1, .int x), (2, .int y)] := hl
  refine lv_aload_n hx hb d_CI_take_0 rfl (lv_at hl 0 rfl) ?_
  refine lv_iload_n hx hb d_CI_take_1 rfl (lv_at hl 1 rfl) ?_
  refine lv_iload_n hx hb d_CI_take_2 rfl (lv_at hl 2 rfl) ?_
  refine vp_callSi (va_Run.run (run_V S v_CI_39 (c_CI_isCell la G o rw rt fr L x y hL) ⟨rfl, rfl⟩ ⟨Nat.le_of_ble_eq_true rfl, Nat.le_of_ble_eq_true rfl⟩ (preR_V hP hk (hs.kept (fun a h1 h2 => hS.2.1 a h1 h2)) [0] rfl 0 rfl rfl) (rest := []) rfl hl.1 rfl (Nat.le_of_ble_eq_true rfl) d_CI_take_3 ⟨Nat.le_of_ble_eq_true rfl, Nat.le_of_ble_eq_true rfl⟩)) (fun r1 hr1 => ?_)
  rcases hr1 with ⟨rfl, a, b, ha, hb', rfl, rfl⟩ | ⟨rfl, q1⟩
  · have hl : lv_has ls 5 [(0, .ref o), (1, .int (nI a)), (2, .int (nI b))] := hl
    refine lv_if_ne hx hb d_CI_take_6 (tgt := 11) (by decide) (fun _ => ?_) (fun h => absurd h (by decide))
    refine lv_aload_n hx hb d_CI_take_11 rfl (lv_at hl 0 rfl) ?_
    refine lv_iconst (v := nI 1) hx hb d_CI_take_12 (by decide) ?_
    refine lv_iload_n hx hb d_CI_take_13 rfl (lv_at hl 1 rfl) ?_
    refine lv_iload_n hx hb d_CI_take_14 rfl (lv_at hl 2 rfl) ?_
    refine vp_callSi (va_Run.run (run_V S v_CI_43 (c_CI_keyOf la G o rw rt fr L 1 a b hL hL1 (by omega) ha hb') ⟨rfl, rfl⟩ ⟨Nat.le_of_ble_eq_true rfl, Nat.le_of_ble_eq_true rfl⟩ (preR_V hP hk (hs.kept (fun a h1 h2 => hS.2.1 a h1 h2)) [0] rfl 0 rfl rfl) (rest := []) rfl hl.1 rfl (Nat.le_of_ble_eq_true rfl) d_CI_take_15 ⟨Nat.le_of_ble_eq_true rfl, Nat.le_of_ble_eq_true rfl⟩)) (fun r2 hr2 => ?_)
    subst hr2
    have hk1 := kk_lt (cu := 1) ha hb'
    have hk0 := kk_lt (cu := 0) ha hb'
    have hcm := (cl_mk ha hb').1
    refine lv_istore_n hx hb d_CI_take_18 rfl hl (by decide) rfl (fun ls hl => ?_)
    have hl : lv_has ls 5 [(3, .int (nI (kk 1 L a b))), (0, .ref o), (1, .int (nI a)), (2, .int (nI b))] := hl
    refine lv_aload_n hx hb d_CI_take_19 rfl (lv_at hl 1 rfl) ?_
    refine y_get S hk hP 0 rfl f_CI_16 rfl d_CI_take_20 ?_
    refine lv_iload_n hx hb d_CI_take_23 rfl (lv_at hl 0 rfl) ?_
    refine vp_callSi (va_Run.run (run_VN S hk v_CI_54 (c_Row_weightOf la G rt kt_ ct_ vt_ nt Kt Vt (kk 1 L a b) hnt hKt (by omega)) ⟨rfl, rfl⟩ ⟨Nat.le_of_ble_eq_true rfl, Nat.le_of_ble_eq_true rfl⟩ (preR_V hP hk (hs.kept (fun a h1 h2 => hS.2.1 a h1 h2)) [5, 6, 8] rfl 5 rfl rfl) (rest := []) rfl hl.1 rfl (Nat.le_of_ble_eq_true rfl) d_CI_take_24 ⟨Nat.le_of_ble_eq_true rfl, Nat.le_of_ble_eq_true rfl⟩)) (fun r3 hr3 => ?_)
    obtain ⟨q, hat, hw⟩ := hr3
    obtain ⟨e3, hw9⟩ := wt_of hrt ha hb' hat hw
    subst e3
    refine lv_istore hx hb d_CI_take_27 hl (by decide) rfl (fun ls hl => ?_)
    have hl : lv_has ls 5 [(4, .int (nI (wt nt Ct Vt (a * 2 ^ L + b)))), (3, .int (nI (kk 1 L a b))), (0, .ref o), (1, .int (nI a)), (2, .int (nI b))] := hl
    refine lv_aload_n hx hb d_CI_take_29 rfl (lv_at hl 2 rfl) ?_
    refine y_get S hk hP 0 rfl f_CI_10 rfl d_CI_take_30 ?_
    refine lv_aload_n hx hb d_CI_take_33 rfl (lv_at hl 2 rfl) ?_
    refine lv_iconst (v := nI 0) hx hb d_CI_take_34 (by decide) ?_
    refine lv_iload_n hx hb d_CI_take_35 rfl (lv_at hl 3 rfl) ?_
    refine lv_iload_n hx hb d_CI_take_36 rfl (lv_at hl 4 rfl) ?_
    refine vp_callSi (va_Run.run (run_V S v_CI_43 (c_CI_keyOf la G o rw rt fr L 0 a b hL hL1 (by omega) ha hb') ⟨rfl, rfl⟩ ⟨Nat.le_of_ble_eq_true rfl, Nat.le_of_ble_eq_true rfl⟩ (preR_V hP hk (hs.kept (fun a h1 h2 => hS.2.1 a h1 h2)) [0] rfl 0 rfl rfl) (rest := [.ref rw]) rfl hl.1 rfl (Nat.le_of_ble_eq_true rfl) d_CI_take_37 ⟨Nat.le_of_ble_eq_true rfl, Nat.le_of_ble_eq_true rfl⟩)) (fun r6 hr6 => ?_)
    subst hr6
    refine eff_V (wr := [(o, .inr (0, [.ref rw, .ref rt, .int (nI L), .ref fr])), (rt, .inr (1, [.ref kt_, .ref ct_, .ref vt_, .int (nI nt)])), (kt_, .inl (G.2.1, 500, .inl (fun zz => nI (Kt zz)))), (ct_, .inl (G.2.1, 500, .inl (fun zz => nI (Ct zz)))), (vt_, .inl (G.2.1, 500, .inl (fun zz => nI (Vt zz)))), (fr, .inr (2, [.int (nI x0), .int (nI y0), .int (nI x1), .int (nI y1)]))]) (run_VN S hk v_CI_69 (c_Row_drop la G rw kw_ cw_ vw_ nw Kw Cw Vw (kk 0 L a b) hnw hKw (by omega) _) ⟨rfl, rfl⟩ ⟨Nat.le_of_ble_eq_true rfl, Nat.le_of_ble_eq_true rfl⟩ (preW_V hP hD hA hS hk hs [1, 2, 3, 4] (by decide) rfl 1 rfl rfl) (rest := []) rfl hl.1 rfl (Nat.le_of_ble_eq_true rfl) d_CI_take_40 ⟨Nat.le_of_ble_eq_true rfl, Nat.le_of_ble_eq_true rfl⟩) hP hD hA hS [1, 2, 3, 4] [0, 5, 6, 7, 8, 9] rfl rfl (by decide) (by decide) (fun u1 H locs hu1 hP hD hS => ?_)
    have hP : va_P G.1 cls [(o, .inr (0, [.ref rw, .ref rt, .int (nI L), .ref fr])), (rt, .inr (1, [.ref kt_, .ref ct_, .ref vt_, .int (nI nt)])), (kt_, .inl (G.2.1, 500, .inl (fun zz => nI (Kt zz)))), (ct_, .inl (G.2.1, 500, .inl (fun zz => nI (Ct zz)))), (vt_, .inl (G.2.1, 500, .inl (fun zz => nI (Vt zz)))), (fr, .inr (2, [.int (nI x0), .int (nI y0), .int (nI x1), .int (nI y1)])), (rw, .inr (1, [.ref kw_, .ref cw_, .ref vw_, .int (nI u1.1)])), (kw_, .inl (G.2.1, 500, .inl (fun zz => nI (u1.2.1 zz)))), (cw_, .inl (G.2.1, 500, .inl (fun zz => nI (u1.2.2.1 zz)))), (vw_, .inl (G.2.1, 500, .inl (fun zz => nI (u1.2.2.2 zz))))] H := hP
    have hD : va_D A [(o, .inr (0, [.ref rw, .ref rt, .int (nI L), .ref fr])), (rt, .inr (1, [.ref kt_, .ref ct_, .ref vt_, .int (nI nt)])), (kt_, .inl (G.2.1, 500, .inl (fun zz => nI (Kt zz)))), (ct_, .inl (G.2.1, 500, .inl (fun zz => nI (Ct zz)))), (vt_, .inl (G.2.1, 500, .inl (fun zz => nI (Vt zz)))), (fr, .inr (2, [.int (nI x0), .int (nI y0), .int (nI x1), .int (nI y1)])), (rw, .inr (1, [.ref kw_, .ref cw_, .ref vw_, .int (nI u1.1)])), (kw_, .inl (G.2.1, 500, .inl (fun zz => nI (u1.2.1 zz)))), (cw_, .inl (G.2.1, 500, .inl (fun zz => nI (u1.2.2.1 zz)))), (vw_, .inl (G.2.1, 500, .inl (fun zz => nI (u1.2.2.2 zz))))] := hD
    refine lv_aload_n hx hb d_CI_take_43 rfl (lv_at hl 2 rfl) ?_
    refine y_get S hk hP 0 rfl f_CI_16 rfl d_CI_take_44 ?_
    refine lv_iload_n hx hb d_CI_take_47 rfl (lv_at hl 1 rfl) ?_
    refine eff_V (wr := [(o, .inr (0, [.ref rw, .ref rt, .int (nI L), .ref fr])), (fr, .inr (2, [.int (nI x0), .int (nI y0), .int (nI x1), .int (nI y1)])), (rw, .inr (1, [.ref kw_, .ref cw_, .ref vw_, .int (nI u1.1)])), (kw_, .inl (G.2.1, 500, .inl (fun zz => nI (u1.2.1 zz)))), (cw_, .inl (G.2.1, 500, .inl (fun zz => nI (u1.2.2.1 zz)))), (vw_, .inl (G.2.1, 500, .inl (fun zz => nI (u1.2.2.2 zz))))]) (run_VN S hk v_CI_69 (c_Row_drop la G rt kt_ ct_ vt_ nt Kt Ct Vt (kk 1 L a b) hnt hKt (by omega) _) ⟨rfl, rfl⟩ ⟨Nat.le_of_ble_eq_true rfl, Nat.le_of_ble_eq_true rfl⟩ (preW_V hP hD hA hS hk hs [1, 2, 3, 4] (by decide) rfl 1 rfl rfl) (rest := []) rfl hl.1 rfl (Nat.le_of_ble_eq_true rfl) d_CI_take_48 ⟨Nat.le_of_ble_eq_true rfl, Nat.le_of_ble_eq_true rfl⟩) hP hD hA hS [1, 2, 3, 4] [0, 5, 6, 7, 8, 9] rfl rfl (by decide) (by decide) (fun u2 H locs hu2 hP hD hS => ?_)
    have hP : va_P G.1 cls [(o, .inr (0, [.ref rw, .ref rt, .int (nI L), .ref fr])), (fr, .inr (2, [.int (nI x0), .int (nI y0), .int (nI x1), .int (nI y1)])), (rw, .inr (1, [.ref kw_, .ref cw_, .ref vw_, .int (nI u1.1)])), (kw_, .inl (G.2.1, 500, .inl (fun zz => nI (u1.2.1 zz)))), (cw_, .inl (G.2.1, 500, .inl (fun zz => nI (u1.2.2.1 zz)))), (vw_, .inl (G.2.1, 500, .inl (fun zz => nI (u1.2.2.2 zz)))), (rt, .inr (1, [.ref kt_, .ref ct_, .ref vt_, .int (nI u2.1)])), (kt_, .inl (G.2.1, 500, .inl (fun zz => nI (u2.2.1 zz)))), (ct_, .inl (G.2.1, 500, .inl (fun zz => nI (u2.2.2.1 zz)))), (vt_, .inl (G.2.1, 500, .inl (fun zz => nI (u2.2.2.2 zz))))] H := hP
    have hD : va_D A [(o, .inr (0, [.ref rw, .ref rt, .int (nI L), .ref fr])), (fr, .inr (2, [.int (nI x0), .int (nI y0), .int (nI x1), .int (nI y1)])), (rw, .inr (1, [.ref kw_, .ref cw_, .ref vw_, .int (nI u1.1)])), (kw_, .inl (G.2.1, 500, .inl (fun zz => nI (u1.2.1 zz)))), (cw_, .inl (G.2.1, 500, .inl (fun zz => nI (u1.2.2.1 zz)))), (vw_, .inl (G.2.1, 500, .inl (fun zz => nI (u1.2.2.2 zz)))), (rt, .inr (1, [.ref kt_, .ref ct_, .ref vt_, .int (nI u2.1)])), (kt_, .inl (G.2.1, 500, .inl (fun zz => nI (u2.2.1 zz)))), (ct_, .inl (G.2.1, 500, .inl (fun zz => nI (u2.2.2.1 zz)))), (vt_, .inl (G.2.1, 500, .inl (fun zz => nI (u2.2.2.2 zz))))] := hD
    refine lv_iload hx hb d_CI_take_51 (lv_at hl 0 rfl) ?_
    have hP := hP.sub (ws' := [(o, .inr (0, [.ref rw, .ref rt, .int (nI L), .ref fr])), (rw, .inr (1, [.ref kw_, .ref cw_, .ref vw_, .int (nI u1.1)])), (kw_, .inl (G.2.1, 500, .inl (fun zz => nI (u1.2.1 zz)))), (cw_, .inl (G.2.1, 500, .inl (fun zz => nI (u1.2.2.1 zz)))), (vw_, .inl (G.2.1, 500, .inl (fun zz => nI (u1.2.2.2 zz)))), (rt, .inr (1, [.ref kt_, .ref ct_, .ref vt_, .int (nI u2.1)])), (kt_, .inl (G.2.1, 500, .inl (fun zz => nI (u2.2.1 zz)))), (ct_, .inl (G.2.1, 500, .inl (fun zz => nI (u2.2.2.1 zz)))), (vt_, .inl (G.2.1, 500, .inl (fun zz => nI (u2.2.2.2 zz)))), (fr, .inr (2, [.int (nI x0), .int (nI y0), .int (nI x1), .int (nI y1)]))]) [0, 2, 3, 4, 5, 6, 7, 8, 9, 1] rfl
    have hD := hD.sub (ws' := [(o, .inr (0, [.ref rw, .ref rt, .int (nI L), .ref fr])), (rw, .inr (1, [.ref kw_, .ref cw_, .ref vw_, .int (nI u1.1)])), (kw_, .inl (G.2.1, 500, .inl (fun zz => nI (u1.2.1 zz)))), (cw_, .inl (G.2.1, 500, .inl (fun zz => nI (u1.2.2.1 zz)))), (vw_, .inl (G.2.1, 500, .inl (fun zz => nI (u1.2.2.2 zz)))), (rt, .inr (1, [.ref kt_, .ref ct_, .ref vt_, .int (nI u2.1)])), (kt_, .inl (G.2.1, 500, .inl (fun zz => nI (u2.2.1 zz)))), (ct_, .inl (G.2.1, 500, .inl (fun zz => nI (u2.2.2.1 zz)))), (vt_, .inl (G.2.1, 500, .inl (fun zz => nI (u2.2.2.2 zz)))), (fr, .inr (2, [.int (nI x0), .int (nI y0), .int (nI x1), .int (nI y1)]))]) [0, 2, 3, 4, 5, 6, 7, 8, 9, 1] (by decide) rfl
    refine W.widen (k := 0) (n := 0) (Nat.le_of_ble_eq_true rfl) (Nat.le_of_ble_eq_true rfl) ?_
    exact hret _ _ _ ((L, u1, u2, (x0, y0, x1, y1)), fr) _ _ rfl (by obtain ⟨g1, g2⟩ := take_all hC' ha hb' hu1 hu2; exact Or.inl ⟨a, b, ha, hb', rfl, rfl, rfl, g2, g1, rfl, rfl, rfl⟩) hP hD hS d_CI_take_53
  · refine lv_if_ne hx hb d_CI_take_6 (tgt := 11) (by decide) (fun h => absurd rfl h) (fun _ => ?_)
    refine lv_iconst (v := (-1)) hx hb d_CI_take_9 (by decide) ?_
    have hP := hP.sub (ws' := [(o, .inr (0, [.ref rw, .ref rt, .int (nI L), .ref fr])), (rw, .inr (1, [.ref kw_, .ref cw_, .ref vw_, .int (nI nw)])), (kw_, .inl (G.2.1, 500, .inl (fun zz => nI (Kw zz)))), (cw_, .inl (G.2.1, 500, .inl (fun zz => nI (Cw zz)))), (vw_, .inl (G.2.1, 500, .inl (fun zz => nI (Vw zz)))), (rt, .inr (1, [.ref kt_, .ref ct_, .ref vt_, .int (nI nt)])), (kt_, .inl (G.2.1, 500, .inl (fun zz => nI (Kt zz)))), (ct_, .inl (G.2.1, 500, .inl (fun zz => nI (Ct zz)))), (vt_, .inl (G.2.1, 500, .inl (fun zz => nI (Vt zz)))), (fr, .inr (2, [.int (nI x0), .int (nI y0), .int (nI x1), .int (nI y1)]))]) [0, 1, 2, 3, 4, 5, 6, 7, 8, 9] rfl
    have hD := hD.sub (ws' := [(o, .inr (0, [.ref rw, .ref rt, .int (nI L), .ref fr])), (rw, .inr (1, [.ref kw_, .ref cw_, .ref vw_, .int (nI nw)])), (kw_, .inl (G.2.1, 500, .inl (fun zz => nI (Kw zz)))), (cw_, .inl (G.2.1, 500, .inl (fun zz => nI (Cw zz)))), (vw_, .inl (G.2.1, 500, .inl (fun zz => nI (Vw zz)))), (rt, .inr (1, [.ref kt_, .ref ct_, .ref vt_, .int (nI nt)])), (kt_, .inl (G.2.1, 500, .inl (fun zz => nI (Kt zz)))), (ct_, .inl (G.2.1, 500, .inl (fun zz => nI (Ct zz)))), (vt_, .inl (G.2.1, 500, .inl (fun zz => nI (Vt zz)))), (fr, .inr (2, [.int (nI x0), .int (nI y0), .int (nI x1), .int (nI y1)]))]) [0, 1, 2, 3, 4, 5, 6, 7, 8, 9] (by decide) rfl
    refine W.widen (k := 0) (n := 0) (Nat.le_of_ble_eq_true rfl) (Nat.le_of_ble_eq_true rfl) ?_
    exact hret _ _ _ ((L, (nw, Kw, Cw, Vw), (nt, Kt, Ct, Vt), (x0, y0, x1, y1)), fr) _ _ rfl (Or.inr ⟨q1, rfl, rfl⟩) hP hD hS d_CI_take_10
set_option maxHeartbeats 4000000 in
set_option maxRecDepth 100000 in
theorem c_CI_walkRuns (la : Launch) (G : gG) (o rw rt fr L : Nat) (x0 y0 x1 y1 cu : Nat) (w : Int32) (hL : L ≤ 15) (hL1 : 1 ≤ L) (h0 : x0 < 2147483648) (h1 : y0 < 2147483648) (h2 : x1 < 2147483648) (h3 : y1 < 2147483648) (hcu : cu < 2) : MetQ la y_CI_walkRuns b_CI_walkRuns 4 ((.object "CurveIndex$RunWalk")) 18 493 1 6 [.ref o, .int (nI cu), .int w] G [(o, .inr (0, [.ref rw, .ref rt, .int (nI L), .ref fr])), (fr, .inr (2, [.int (nI x0), .int (nI y0), .int (nI x1), .int (nI y1)]))] (S := Unit) (fun _ => True) (fun _ b => [(o, .inr (0, [.ref rw, .ref rt, .int (nI L), .ref fr])), (fr, .inr (2, [.int (nI x0), .int (nI y0), .int (nI x1), .int (nI y1)])), (b, .inr (3, [.ref fr, .int w, .int (nI ((rw_k w (wM cu L (x0, y0, x1, y1)) (2 ^ L * 2 ^ L)).1)), .int (oI ((rw_k w (wM cu L (x0, y0, x1, y1)) (2 ^ L * 2 ^ L)).2.1)), .int (oI ((rw_k w (wM cu L (x0, y0, x1, y1)) (2 ^ L * 2 ^ L)).2.2.1)), .int (oI ((rw_k w (wM cu L (x0, y0, x1, y1)) (2 ^ L * 2 ^ L)).2.2.2))]))]) := by
  refine MetQ.mk (by decide +kernel) (Nat.le_of_ble_eq_true rfl) ?_
  intro p e s m below meth c Q A ls S hP hD hA hS hk hs hret hl
  have hx := S.1
  have hb := S.2.1
  have hP : va_P G.1 cls [(o, .inr (0, [.ref rw, .ref rt, .int (nI L), .ref fr])), (fr, .inr (2, [.int (nI x0), .int (nI y0), .int (nI x1), .int (nI y1)]))] s.heap := hP
  have hD : va_D A [(o, .inr (0, [.ref rw, .ref rt, .int (nI L), .ref fr])), (fr, .inr (2, [.int (nI x0), .int (nI y0), .int (nI x1), .int (nI y1)]))] := hD
  have hp2 := p2_15 hL
  have hp4 := p4_15 hL
  have hl : lv_has ls 4 [(0, .ref o), (1, .int (nI cu)), (2, .int w)] := hl
  refine y_new S hk hP hD hA hS (ci := 3) rfl in_RW T_3 (wq 196 (by decide +kernel)) (wq 197 (by decide +kernel)) (wq 38 (by decide +kernel)) (fs := [.null, .int (nI 0), .int (nI 0), .int (nI 0), .int (nI 0), .int (nI 0)]) (fun j hj => by rcases (show j = 0 ∨ j = 1 ∨ j = 2 ∨ j = 3 ∨ j = 4 ∨ j = 5 by omega) with rfl | rfl | rfl | rfl | rfl | rfl <;> rfl) (Nat.le_of_ble_eq_true rfl) (Nat.le_of_ble_eq_true rfl) d_CI_walkRuns_0 (fun q0 H hP hD hS => ?_)
  have hP : va_P G.1 cls [(o, .inr (0, [.ref rw, .ref rt, .int (nI L), .ref fr])), (fr, .inr (2, [.int (nI x0), .int (nI y0), .int (nI x1), .int (nI y1)])), (q0, .inr (3, [.null, .int (nI 0), .int (nI 0), .int (nI 0), .int (nI 0), .int (nI 0)]))] H := hP
  have hD : va_D A [(o, .inr (0, [.ref rw, .ref rt, .int (nI L), .ref fr])), (fr, .inr (2, [.int (nI x0), .int (nI y0), .int (nI x1), .int (nI y1)])), (q0, .inr (3, [.null, .int (nI 0), .int (nI 0), .int (nI 0), .int (nI 0), .int (nI 0)]))] := hD
  refine lv_dup hx hb d_CI_walkRuns_3 rfl ?_
  refine lv_aload_n hx hb d_CI_walkRuns_4 rfl (lv_at hl 0 rfl) ?_
  refine y_get S hk hP 0 rfl f_CI_28 rfl d_CI_walkRuns_5 ?_
  refine lv_iload_n hx hb d_CI_walkRuns_8 rfl (lv_at hl 2 rfl) ?_
  refine eff_V (wr := [(o, .inr (0, [.ref rw, .ref rt, .int (nI L), .ref fr])), (fr, .inr (2, [.int (nI x0), .int (nI y0), .int (nI x1), .int (nI y1)]))]) (run_IN S hk v_CI_133 (c_RW_init la G q0 fr w _) ⟨rfl, rfl⟩ ⟨Nat.le_of_ble_eq_true rfl, Nat.le_of_ble_eq_true rfl⟩ (preW_S hP hD hA hS hk hs [2] (by decide) rfl) (rest := [.ref q0]) rfl hl.1 rfl (Nat.le_of_ble_eq_true rfl) d_CI_walkRuns_9 ⟨Nat.le_of_ble_eq_true rfl, Nat.le_of_ble_eq_true rfl⟩) hP hD hA hS [2] [0, 1] rfl rfl (by decide) (by decide) (fun u H locs hu hP hD hS => ?_)
  have hP : va_P G.1 cls [(o, .inr (0, [.ref rw, .ref rt, .int (nI L), .ref fr])), (fr, .inr (2, [.int (nI x0), .int (nI y0), .int (nI x1), .int (nI y1)])), (q0, .inr (3, [.ref fr, .int w, .int (nI 0), .int (oI 0), .int (oI 0), .int (oI 0)]))] H := hP
  have hD : va_D A [(o, .inr (0, [.ref rw, .ref rt, .int (nI L), .ref fr])), (fr, .inr (2, [.int (nI x0), .int (nI y0), .int (nI x1), .int (nI y1)])), (q0, .inr (3, [.ref fr, .int w, .int (nI 0), .int (oI 0), .int (oI 0), .int (oI 0)]))] := hD
  refine lv_astore_n hx hb d_CI_walkRuns_12 rfl hl (by decide) rfl (fun ls hl => ?_)
  have hl : lv_has ls 4 [(3, .ref q0), (0, .ref o), (1, .int (nI cu)), (2, .int w)] := hl
  refine lv_aload_n hx hb d_CI_walkRuns_13 rfl (lv_at hl 0 rfl) ?_
  refine lv_aload_n hx hb d_CI_walkRuns_14 rfl (lv_at hl 1 rfl) ?_
  refine y_get S hk hP 0 rfl f_CI_19 rfl d_CI_walkRuns_15 ?_
  refine lv_iload_n hx hb d_CI_walkRuns_18 rfl (lv_at hl 2 rfl) ?_
  refine vp_callSi (va_Run.run (run_S S v_CI_117 (c_CI_firstState la G cu hcu) ⟨rfl, rfl⟩ ⟨Nat.le_of_ble_eq_true rfl, Nat.le_of_ble_eq_true rfl⟩ (preR_S hP hk (hs.kept (fun a h1 h2 => hS.2.1 a h1 h2)) [] rfl) (rest := [.int (nI L), .ref q0]) rfl hl.1 rfl (Nat.le_of_ble_eq_true rfl) d_CI_walkRuns_19 ⟨Nat.le_of_ble_eq_true rfl, Nat.le_of_ble_eq_true rfl⟩)) (fun r1 hr1 => ?_)
  subst hr1
  refine lv_iconst (v := nI 0) hx hb d_CI_walkRuns_22 (by decide) ?_
  refine lv_iconst (v := nI 0) hx hb d_CI_walkRuns_23 (by decide) ?_
  refine lv_iconst (v := nI 0) hx hb d_CI_walkRuns_24 (by decide) ?_
  refine eff_V (wr := [(o, .inr (0, [.ref rw, .ref rt, .int (nI L), .ref fr]))]) (run_SN S hk v_CI_136 (c_RW_visit la G q0 fr x0 y0 x1 y1 w (wM cu L (x0, y0, x1, y1)) h0 h1 h2 h3 (rw_k_le w (wM cu L (x0, y0, x1, y1))) L hL (st0 cu) 0 0 0 (st0_lt cu) (by omega) (by omega) (by omega) (sqM_top hcu) _) ⟨rfl, rfl⟩ ⟨(by omega : L + 2 + 1 ≤ 18), (by omega : 8 + (9 + 11) + (45 + 28 * L) ≤ 493)⟩ (preW_S hP hD hA hS hk hs [2, 1] (by decide) rfl) (rest := []) rfl hl.1 rfl (Nat.le_of_ble_eq_true rfl) d_CI_walkRuns_25 ⟨Nat.le_of_ble_eq_true rfl, Nat.le_of_ble_eq_true rfl⟩) hP hD hA hS [2, 1] [0] rfl rfl (by decide) (by decide) (fun u H locs hu hP hD hS => ?_)
  rw [Nat.zero_add] at hP hD
  have hP : va_P G.1 cls [(o, .inr (0, [.ref rw, .ref rt, .int (nI L), .ref fr])), (q0, .inr (3, [.ref fr, .int w, .int (nI ((rw_k w (wM cu L (x0, y0, x1, y1)) (2 ^ L * 2 ^ L)).1)), .int (oI ((rw_k w (wM cu L (x0, y0, x1, y1)) (2 ^ L * 2 ^ L)).2.1)), .int (oI ((rw_k w (wM cu L (x0, y0, x1, y1)) (2 ^ L * 2 ^ L)).2.2.1)), .int (oI ((rw_k w (wM cu L (x0, y0, x1, y1)) (2 ^ L * 2 ^ L)).2.2.2))])), (fr, .inr (2, [.int (nI x0), .int (nI y0), .int (nI x1), .int (nI y1)]))] H := hP
  have hD : va_D A [(o, .inr (0, [.ref rw, .ref rt, .int (nI L), .ref fr])), (q0, .inr (3, [.ref fr, .int w, .int (nI ((rw_k w (wM cu L (x0, y0, x1, y1)) (2 ^ L * 2 ^ L)).1)), .int (oI ((rw_k w (wM cu L (x0, y0, x1, y1)) (2 ^ L * 2 ^ L)).2.1)), .int (oI ((rw_k w (wM cu L (x0, y0, x1, y1)) (2 ^ L * 2 ^ L)).2.2.1)), .int (oI ((rw_k w (wM cu L (x0, y0, x1, y1)) (2 ^ L * 2 ^ L)).2.2.2))])), (fr, .inr (2, [.int (nI x0), .int (nI y0), .int (nI x1), .int (nI y1)]))] := hD
  refine lv_aload_n hx hb d_CI_walkRuns_28 rfl (lv_at hl 0 rfl) ?_
  have hP := hP.sub (ws' := [(o, .inr (0, [.ref rw, .ref rt, .int (nI L), .ref fr])), (fr, .inr (2, [.int (nI x0), .int (nI y0), .int (nI x1), .int (nI y1)])), (q0, .inr (3, [.ref fr, .int w, .int (nI ((rw_k w (wM cu L (x0, y0, x1, y1)) (2 ^ L * 2 ^ L)).1)), .int (oI ((rw_k w (wM cu L (x0, y0, x1, y1)) (2 ^ L * 2 ^ L)).2.1)), .int (oI ((rw_k w (wM cu L (x0, y0, x1, y1)) (2 ^ L * 2 ^ L)).2.2.1)), .int (oI ((rw_k w (wM cu L (x0, y0, x1, y1)) (2 ^ L * 2 ^ L)).2.2.2))]))]) [0, 2, 1] rfl
  have hD := hD.sub (ws' := [(o, .inr (0, [.ref rw, .ref rt, .int (nI L), .ref fr])), (fr, .inr (2, [.int (nI x0), .int (nI y0), .int (nI x1), .int (nI y1)])), (q0, .inr (3, [.ref fr, .int w, .int (nI ((rw_k w (wM cu L (x0, y0, x1, y1)) (2 ^ L * 2 ^ L)).1)), .int (oI ((rw_k w (wM cu L (x0, y0, x1, y1)) (2 ^ L * 2 ^ L)).2.1)), .int (oI ((rw_k w (wM cu L (x0, y0, x1, y1)) (2 ^ L * 2 ^ L)).2.2.1)), .int (oI ((rw_k w (wM cu L (x0, y0, x1, y1)) (2 ^ L * 2 ^ L)).2.2.2))]))]) [0, 2, 1] (by decide) rfl
  refine W.widen (k := 1) (n := 6) (Nat.le_of_ble_eq_true rfl) (Nat.le_of_ble_eq_true rfl) ?_
  exact hret _ _ () q0 _ _ (trivial) hP hD hS d_CI_walkRuns_29
set_option maxHeartbeats 4000000 in
set_option maxRecDepth 100000 in
theorem c_CI_runs (la : Launch) (G : gG) (o rw kw_ cw_ vw_ rt kt_ ct_ vt_ fr L nw nt x0 y0 x1 y1 : Nat) (Kw Cw Vw Kt Ct Vt : Nat → Nat) (x : Int32) (hC : okC (L, (nw, Kw, Cw, Vw), (nt, Kt, Ct, Vt), (x0, y0, x1, y1))) : MetW la y_CI_runs b_CI_runs 2 .int 19 516 1 6 [.ref o, .int x] G [(o, .inr (0, [.ref rw, .ref rt, .int (nI L), .ref fr])), (rw, .inr (1, [.ref kw_, .ref cw_, .ref vw_, .int (nI nw)])), (kw_, .inl (G.2.1, 500, .inl (fun zz => nI (Kw zz)))), (cw_, .inl (G.2.1, 500, .inl (fun zz => nI (Cw zz)))), (vw_, .inl (G.2.1, 500, .inl (fun zz => nI (Vw zz)))), (rt, .inr (1, [.ref kt_, .ref ct_, .ref vt_, .int (nI nt)])), (kt_, .inl (G.2.1, 500, .inl (fun zz => nI (Kt zz)))), (ct_, .inl (G.2.1, 500, .inl (fun zz => nI (Ct zz)))), (vt_, .inl (G.2.1, 500, .inl (fun zz => nI (Vt zz)))), (fr, .inr (2, [.int (nI x0), .int (nI y0), .int (nI x1), .int (nI y1)]))] (S := cS × Nat) (fun r u => runsS L (x0, y0, x1, y1) x r ∧ u = ((L, (nw, Kw, Cw, Vw), (nt, Kt, Ct, Vt), (x0, y0, x1, y1)), fr)) (fun u => [(o, .inr (0, [.ref rw, .ref rt, .int (nI u.1.1), .ref u.2])), (rw, .inr (1, [.ref kw_, .ref cw_, .ref vw_, .int (nI u.1.2.1.1)])), (kw_, .inl (G.2.1, 500, .inl (fun zz => nI (u.1.2.1.2.1 zz)))), (cw_, .inl (G.2.1, 500, .inl (fun zz => nI (u.1.2.1.2.2.1 zz)))), (vw_, .inl (G.2.1, 500, .inl (fun zz => nI (u.1.2.1.2.2.2 zz)))), (rt, .inr (1, [.ref kt_, .ref ct_, .ref vt_, .int (nI u.1.2.2.1.1)])), (kt_, .inl (G.2.1, 500, .inl (fun zz => nI (u.1.2.2.1.2.1 zz)))), (ct_, .inl (G.2.1, 500, .inl (fun zz => nI (u.1.2.2.1.2.2.1 zz)))), (vt_, .inl (G.2.1, 500, .inl (fun zz => nI (u.1.2.2.1.2.2.2 zz)))), (u.2, .inr (2, [.int (nI u.1.2.2.2.1), .int (nI u.1.2.2.2.2.1), .int (nI u.1.2.2.2.2.2.1), .int (nI u.1.2.2.2.2.2.2)]))]) := by
  refine MetW.mk (by decide +kernel) (Nat.le_of_ble_eq_true rfl) ?_
  intro p e s m below meth c Q A ls S hP hD hA hS hk hs hret hl
  have hx := S.1
  have hb := S.2.1
  have hP : va_P G.1 cls [(o, .inr (0, [.ref rw, .ref rt, .int (nI L), .ref fr])), (rw, .inr (1, [.ref kw_, .ref cw_, .ref vw_, .int (nI nw)])), (kw_, .inl (G.2.1, 500, .inl (fun zz => nI (Kw zz)))), (cw_, .inl (G.2.1, 500, .inl (fun zz => nI (Cw zz)))), (vw_, .inl (G.2.1, 500, .inl (fun zz => nI (Vw zz)))), (rt, .inr (1, [.ref kt_, .ref ct_, .ref vt_, .int (nI nt)])), (kt_, .inl (G.2.1, 500, .inl (fun zz => nI (Kt zz)))), (ct_, .inl (G.2.1, 500, .inl (fun zz => nI (Ct zz)))), (vt_, .inl (G.2.1, 500, .inl (fun zz => nI (Vt zz)))), (fr, .inr (2, [.int (nI x0), .int (nI y0), .int (nI x1), .int (nI y1)]))] s.heap := hP
  have hD : va_D A [(o, .inr (0, [.ref rw, .ref rt, .int (nI L), .ref fr])), (rw, .inr (1, [.ref kw_, .ref cw_, .ref vw_, .int (nI nw)])), (kw_, .inl (G.2.1, 500, .inl (fun zz => nI (Kw zz)))), (cw_, .inl (G.2.1, 500, .inl (fun zz => nI (Cw zz)))), (vw_, .inl (G.2.1, 500, .inl (fun zz => nI (Vw zz)))), (rt, .inr (1, [.ref kt_, .ref ct_, .ref vt_, .int (nI nt)])), (kt_, .inl (G.2.1, 500, .inl (fun zz => nI (Kt zz)))), (ct_, .inl (G.2.1, 500, .inl (fun zz => nI (Ct zz)))), (vt_, .inl (G.2.1, 500, .inl (fun zz => nI (Vt zz)))), (fr, .inr (2, [.int (nI x0), .int (nI y0), .int (nI x1), .int (nI y1)]))] := hD
  obtain ⟨⟨hL1, hL⟩, hrw, hrt, ⟨hKw, hCw, hVw⟩, ⟨hKt, hCt, hVt⟩, hF, hsm⟩ := hC
  dsimp only at hL1 hL hrw hrt hKw hCw hVw hKt hCt hVt hF hsm
  have hFb := hF.b hL
  obtain ⟨hf1, hf2, hf3, hf4⟩ := hF
  dsimp only at hf1 hf2 hf3 hf4 hFb
  have hp2 := p2_15 hL
  have hp4 := p4_15 hL
  have hpp := Nat.two_pow_pos L
  have hnw := hrw.1
  have hnt := hrt.1
  have hl : lv_has ls 2 [(0, .ref o), (1, .int x)] := hl
  refine lv_aload_n hx hb d_CI_runs_0 rfl (lv_at hl 0 rfl) ?_
  refine lv_iload_n hx hb d_CI_runs_1 rfl (lv_at hl 1 rfl) ?_
  refine vp_callSi (va_Run.run (run_V S v_CI_86 (c_CI_hasRuns la G o rw rt fr L x0 y0 x1 y1 x (by omega) (by omega) (by omega) (by omega) hf1 hf3) ⟨rfl, rfl⟩ ⟨Nat.le_of_ble_eq_true rfl, Nat.le_of_ble_eq_true rfl⟩ (preR_V hP hk (hs.kept (fun a h1 h2 => hS.2.1 a h1 h2)) [0, 9] rfl 0 rfl rfl) (rest := []) rfl hl.1 rfl (Nat.le_of_ble_eq_true rfl) d_CI_runs_2 ⟨Nat.le_of_ble_eq_true rfl, Nat.le_of_ble_eq_true rfl⟩)) (fun r1 hr1 => ?_)
  rcases hr1 with ⟨rfl, ⟨cu, hcu, rfl⟩, hcc⟩ | ⟨rfl, q1⟩
  · have hl : lv_has ls 2 [(0, .ref o), (1, .int (nI cu))] := hl
    refine lv_if_eq hx hb d_CI_runs_5 (tgt := 20) (by decide) (fun h => absurd h (by decide)) (fun _ => ?_)
    refine lv_aload_n hx hb d_CI_runs_8 rfl (lv_at hl 0 rfl) ?_
    refine lv_iload_n hx hb d_CI_runs_9 rfl (lv_at hl 1 rfl) ?_
    refine lv_iconst (v := (-1)) hx hb d_CI_runs_10 (by decide) ?_
    refine eff_Q (wr := [(rw, .inr (1, [.ref kw_, .ref cw_, .ref vw_, .int (nI nw)])), (kw_, .inl (G.2.1, 500, .inl (fun zz => nI (Kw zz)))), (cw_, .inl (G.2.1, 500, .inl (fun zz => nI (Cw zz)))), (vw_, .inl (G.2.1, 500, .inl (fun zz => nI (Vw zz)))), (rt, .inr (1, [.ref kt_, .ref ct_, .ref vt_, .int (nI nt)])), (kt_, .inl (G.2.1, 500, .inl (fun zz => nI (Kt zz)))), (ct_, .inl (G.2.1, 500, .inl (fun zz => nI (Ct zz)))), (vt_, .inl (G.2.1, 500, .inl (fun zz => nI (Vt zz))))]) (run_V S v_CI_89 (c_CI_walkRuns la G o rw rt fr L x0 y0 x1 y1 cu (-1) hL hL1 (by omega) (by omega) (by omega) (by omega) hcu _) ⟨rfl, rfl⟩ ⟨Nat.le_of_ble_eq_true rfl, Nat.le_of_ble_eq_true rfl⟩ (preW_V hP hD hA hS hk hs [0, 9] (by decide) rfl 0 rfl rfl) (rest := []) rfl hl.1 rfl (Nat.le_of_ble_eq_true rfl) d_CI_runs_11 ⟨Nat.le_of_ble_eq_true rfl, Nat.le_of_ble_eq_true rfl⟩) hP hD hA hS [0, 9] [1, 2, 3, 4, 5, 6, 7, 8] rfl rfl (by decide) (by decide) (fun bw uw H locs huw hP hD hS => ?_)
    have hP : va_P G.1 cls [(rw, .inr (1, [.ref kw_, .ref cw_, .ref vw_, .int (nI nw)])), (kw_, .inl (G.2.1, 500, .inl (fun zz => nI (Kw zz)))), (cw_, .inl (G.2.1, 500, .inl (fun zz => nI (Cw zz)))), (vw_, .inl (G.2.1, 500, .inl (fun zz => nI (Vw zz)))), (rt, .inr (1, [.ref kt_, .ref ct_, .ref vt_, .int (nI nt)])), (kt_, .inl (G.2.1, 500, .inl (fun zz => nI (Kt zz)))), (ct_, .inl (G.2.1, 500, .inl (fun zz => nI (Ct zz)))), (vt_, .inl (G.2.1, 500, .inl (fun zz => nI (Vt zz)))), (o, .inr (0, [.ref rw, .ref rt, .int (nI L), .ref fr])), (fr, .inr (2, [.int (nI x0), .int (nI y0), .int (nI x1), .int (nI y1)])), (bw, .inr (3, [.ref fr, .int (-1), .int (nI ((rw_k (-1) (wM cu L (x0, y0, x1, y1)) (2 ^ L * 2 ^ L)).1)), .int (oI ((rw_k (-1) (wM cu L (x0, y0, x1, y1)) (2 ^ L * 2 ^ L)).2.1)), .int (oI ((rw_k (-1) (wM cu L (x0, y0, x1, y1)) (2 ^ L * 2 ^ L)).2.2.1)), .int (oI ((rw_k (-1) (wM cu L (x0, y0, x1, y1)) (2 ^ L * 2 ^ L)).2.2.2))]))] H := hP
    have hD : va_D A [(rw, .inr (1, [.ref kw_, .ref cw_, .ref vw_, .int (nI nw)])), (kw_, .inl (G.2.1, 500, .inl (fun zz => nI (Kw zz)))), (cw_, .inl (G.2.1, 500, .inl (fun zz => nI (Cw zz)))), (vw_, .inl (G.2.1, 500, .inl (fun zz => nI (Vw zz)))), (rt, .inr (1, [.ref kt_, .ref ct_, .ref vt_, .int (nI nt)])), (kt_, .inl (G.2.1, 500, .inl (fun zz => nI (Kt zz)))), (ct_, .inl (G.2.1, 500, .inl (fun zz => nI (Ct zz)))), (vt_, .inl (G.2.1, 500, .inl (fun zz => nI (Vt zz)))), (o, .inr (0, [.ref rw, .ref rt, .int (nI L), .ref fr])), (fr, .inr (2, [.int (nI x0), .int (nI y0), .int (nI x1), .int (nI y1)])), (bw, .inr (3, [.ref fr, .int (-1), .int (nI ((rw_k (-1) (wM cu L (x0, y0, x1, y1)) (2 ^ L * 2 ^ L)).1)), .int (oI ((rw_k (-1) (wM cu L (x0, y0, x1, y1)) (2 ^ L * 2 ^ L)).2.1)), .int (oI ((rw_k (-1) (wM cu L (x0, y0, x1, y1)) (2 ^ L * 2 ^ L)).2.2.1)), .int (oI ((rw_k (-1) (wM cu L (x0, y0, x1, y1)) (2 ^ L * 2 ^ L)).2.2.2))]))] := hD
    refine y_getN S hk hP 10 rfl f_CI_93 rfl d_CI_runs_14 ?_
    refine lv_goto hx hb d_CI_runs_17 (tgt := 21) (by decide) ?_
    have hP := hP.sub (ws' := [(o, .inr (0, [.ref rw, .ref rt, .int (nI L), .ref fr])), (rw, .inr (1, [.ref kw_, .ref cw_, .ref vw_, .int (nI nw)])), (kw_, .inl (G.2.1, 500, .inl (fun zz => nI (Kw zz)))), (cw_, .inl (G.2.1, 500, .inl (fun zz => nI (Cw zz)))), (vw_, .inl (G.2.1, 500, .inl (fun zz => nI (Vw zz)))), (rt, .inr (1, [.ref kt_, .ref ct_, .ref vt_, .int (nI nt)])), (kt_, .inl (G.2.1, 500, .inl (fun zz => nI (Kt zz)))), (ct_, .inl (G.2.1, 500, .inl (fun zz => nI (Ct zz)))), (vt_, .inl (G.2.1, 500, .inl (fun zz => nI (Vt zz)))), (fr, .inr (2, [.int (nI x0), .int (nI y0), .int (nI x1), .int (nI y1)]))]) [8, 0, 1, 2, 3, 4, 5, 6, 7, 9] rfl
    have hD := hD.sub (ws' := [(o, .inr (0, [.ref rw, .ref rt, .int (nI L), .ref fr])), (rw, .inr (1, [.ref kw_, .ref cw_, .ref vw_, .int (nI nw)])), (kw_, .inl (G.2.1, 500, .inl (fun zz => nI (Kw zz)))), (cw_, .inl (G.2.1, 500, .inl (fun zz => nI (Cw zz)))), (vw_, .inl (G.2.1, 500, .inl (fun zz => nI (Vw zz)))), (rt, .inr (1, [.ref kt_, .ref ct_, .ref vt_, .int (nI nt)])), (kt_, .inl (G.2.1, 500, .inl (fun zz => nI (Kt zz)))), (ct_, .inl (G.2.1, 500, .inl (fun zz => nI (Ct zz)))), (vt_, .inl (G.2.1, 500, .inl (fun zz => nI (Vt zz)))), (fr, .inr (2, [.int (nI x0), .int (nI y0), .int (nI x1), .int (nI y1)]))]) [8, 0, 1, 2, 3, 4, 5, 6, 7, 9] (by decide) rfl
    refine W.widen (k := 1) (n := 6) (Nat.le_of_ble_eq_true rfl) (Nat.le_of_ble_eq_true rfl) ?_
    exact hret _ _ _ ((L, (nw, Kw, Cw, Vw), (nt, Kt, Ct, Vt), (x0, y0, x1, y1)), fr) _ _ rfl (⟨Or.inl ⟨cu, hcu, rfl, hcc, rfl⟩, rfl⟩) hP hD hS d_CI_runs_21
  · refine lv_if_eq hx hb d_CI_runs_5 (tgt := 20) (by decide) (fun _ => ?_) (fun h => absurd (by decide) h)
    refine lv_iconst (v := (-1)) hx hb d_CI_runs_20 (by decide) ?_
    have hP := hP.sub (ws' := [(o, .inr (0, [.ref rw, .ref rt, .int (nI L), .ref fr])), (rw, .inr (1, [.ref kw_, .ref cw_, .ref vw_, .int (nI nw)])), (kw_, .inl (G.2.1, 500, .inl (fun zz => nI (Kw zz)))), (cw_, .inl (G.2.1, 500, .inl (fun zz => nI (Cw zz)))), (vw_, .inl (G.2.1, 500, .inl (fun zz => nI (Vw zz)))), (rt, .inr (1, [.ref kt_, .ref ct_, .ref vt_, .int (nI nt)])), (kt_, .inl (G.2.1, 500, .inl (fun zz => nI (Kt zz)))), (ct_, .inl (G.2.1, 500, .inl (fun zz => nI (Ct zz)))), (vt_, .inl (G.2.1, 500, .inl (fun zz => nI (Vt zz)))), (fr, .inr (2, [.int (nI x0), .int (nI y0), .int (nI x1), .int (nI y1)]))]) [0, 1, 2, 3, 4, 5, 6, 7, 8, 9] rfl
    have hD := hD.sub (ws' := [(o, .inr (0, [.ref rw, .ref rt, .int (nI L), .ref fr])), (rw, .inr (1, [.ref kw_, .ref cw_, .ref vw_, .int (nI nw)])), (kw_, .inl (G.2.1, 500, .inl (fun zz => nI (Kw zz)))), (cw_, .inl (G.2.1, 500, .inl (fun zz => nI (Cw zz)))), (vw_, .inl (G.2.1, 500, .inl (fun zz => nI (Vw zz)))), (rt, .inr (1, [.ref kt_, .ref ct_, .ref vt_, .int (nI nt)])), (kt_, .inl (G.2.1, 500, .inl (fun zz => nI (Kt zz)))), (ct_, .inl (G.2.1, 500, .inl (fun zz => nI (Ct zz)))), (vt_, .inl (G.2.1, 500, .inl (fun zz => nI (Vt zz)))), (fr, .inr (2, [.int (nI x0), .int (nI y0), .int (nI x1), .int (nI y1)]))]) [0, 1, 2, 3, 4, 5, 6, 7, 8, 9] (by decide) rfl
    refine W.widen (k := 1) (n := 6) (Nat.le_of_ble_eq_true rfl) (Nat.le_of_ble_eq_true rfl) ?_
    exact hret _ _ _ ((L, (nw, Kw, Cw, Vw), (nt, Kt, Ct, Vt), (x0, y0, x1, y1)), fr) _ _ rfl (⟨Or.inr ⟨q1, rfl⟩, rfl⟩) hP hD hS d_CI_runs_21
set_option maxHeartbeats 4000000 in
set_option maxRecDepth 100000 in
theorem c_CI_run (la : Launch) (G : gG) (o rw kw_ cw_ vw_ rt kt_ ct_ vt_ fr L nw nt x0 y0 x1 y1 : Nat) (Kw Cw Vw Kt Ct Vt : Nat → Nat) (x i wh : Int32) (hC : okC (L, (nw, Kw, Cw, Vw), (nt, Kt, Ct, Vt), (x0, y0, x1, y1))) : MetW la y_CI_run b_CI_run 5 .int 19 516 1 6 [.ref o, .int x, .int i, .int wh] G [(o, .inr (0, [.ref rw, .ref rt, .int (nI L), .ref fr])), (rw, .inr (1, [.ref kw_, .ref cw_, .ref vw_, .int (nI nw)])), (kw_, .inl (G.2.1, 500, .inl (fun zz => nI (Kw zz)))), (cw_, .inl (G.2.1, 500, .inl (fun zz => nI (Cw zz)))), (vw_, .inl (G.2.1, 500, .inl (fun zz => nI (Vw zz)))), (rt, .inr (1, [.ref kt_, .ref ct_, .ref vt_, .int (nI nt)])), (kt_, .inl (G.2.1, 500, .inl (fun zz => nI (Kt zz)))), (ct_, .inl (G.2.1, 500, .inl (fun zz => nI (Ct zz)))), (vt_, .inl (G.2.1, 500, .inl (fun zz => nI (Vt zz)))), (fr, .inr (2, [.int (nI x0), .int (nI y0), .int (nI x1), .int (nI y1)]))] (S := cS × Nat) (fun r u => runS L (x0, y0, x1, y1) x i wh r ∧ u = ((L, (nw, Kw, Cw, Vw), (nt, Kt, Ct, Vt), (x0, y0, x1, y1)), fr)) (fun u => [(o, .inr (0, [.ref rw, .ref rt, .int (nI u.1.1), .ref u.2])), (rw, .inr (1, [.ref kw_, .ref cw_, .ref vw_, .int (nI u.1.2.1.1)])), (kw_, .inl (G.2.1, 500, .inl (fun zz => nI (u.1.2.1.2.1 zz)))), (cw_, .inl (G.2.1, 500, .inl (fun zz => nI (u.1.2.1.2.2.1 zz)))), (vw_, .inl (G.2.1, 500, .inl (fun zz => nI (u.1.2.1.2.2.2 zz)))), (rt, .inr (1, [.ref kt_, .ref ct_, .ref vt_, .int (nI u.1.2.2.1.1)])), (kt_, .inl (G.2.1, 500, .inl (fun zz => nI (u.1.2.2.1.2.1 zz)))), (ct_, .inl (G.2.1, 500, .inl (fun zz => nI (u.1.2.2.1.2.2.1 zz)))), (vt_, .inl (G.2.1, 500, .inl (fun zz => nI (u.1.2.2.1.2.2.2 zz)))), (u.2, .inr (2, [.int (nI u.1.2.2.2.1), .int (nI u.1.2.2.2.2.1), .int (nI u.1.2.2.2.2.2.1), .int (nI u.1.2.2.2.2.2.2)]))]) := by
  refine MetW.mk (by decide +kernel) (Nat.le_of_ble_eq_true rfl) ?_
  intro p e s m below meth c Q A ls S hP hD hA hS hk hs hret hl
  have hx := S.1
  have hb := S.2.1
  have hP : va_P G.1 cls [(o, .inr (0, [.ref rw, .ref rt, .int (nI L), .ref fr])), (rw, .inr (1, [.ref kw_, .ref cw_, .ref vw_, .int (nI nw)])), (kw_, .inl (G.2.1, 500, .inl (fun zz => nI (Kw zz)))), (cw_, .inl (G.2.1, 500, .inl (fun zz => nI (Cw zz)))), (vw_, .inl (G.2.1, 500, .inl (fun zz => nI (Vw zz)))), (rt, .inr (1, [.ref kt_, .ref ct_, .ref vt_, .int (nI nt)])), (kt_, .inl (G.2.1, 500, .inl (fun zz => nI (Kt zz)))), (ct_, .inl (G.2.1, 500, .inl (fun zz => nI (Ct zz)))), (vt_, .inl (G.2.1, 500, .inl (fun zz => nI (Vt zz)))), (fr, .inr (2, [.int (nI x0), .int (nI y0), .int (nI x1), .int (nI y1)]))] s.heap := hP
  have hD : va_D A [(o, .inr (0, [.ref rw, .ref rt, .int (nI L), .ref fr])), (rw, .inr (1, [.ref kw_, .ref cw_, .ref vw_, .int (nI nw)])), (kw_, .inl (G.2.1, 500, .inl (fun zz => nI (Kw zz)))), (cw_, .inl (G.2.1, 500, .inl (fun zz => nI (Cw zz)))), (vw_, .inl (G.2.1, 500, .inl (fun zz => nI (Vw zz)))), (rt, .inr (1, [.ref kt_, .ref ct_, .ref vt_, .int (nI nt)])), (kt_, .inl (G.2.1, 500, .inl (fun zz => nI (Kt zz)))), (ct_, .inl (G.2.1, 500, .inl (fun zz => nI (Ct zz)))), (vt_, .inl (G.2.1, 500, .inl (fun zz => nI (Vt zz)))), (fr, .inr (2, [.int (nI x0), .int (nI y0), .int (nI x1), .int (nI y1)]))] := hD
  obtain ⟨⟨hL1, hL⟩, hrw, hrt, ⟨hKw, hCw, hVw⟩, ⟨hKt, hCt, hVt⟩, hF, hsm⟩ := hC
  dsimp only at hL1 hL hrw hrt hKw hCw hVw hKt hCt hVt hF hsm
  have hFb := hF.b hL
  obtain ⟨hf1, hf2, hf3, hf4⟩ := hF
  dsimp only at hf1 hf2 hf3 hf4 hFb
  have hp2 := p2_15 hL
  have hp4 := p4_15 hL
  have hpp := Nat.two_pow_pos L
  have hnw := hrw.1
  have hnt := hrt.1
  rcases ng i with hi0 | ⟨j, hj', rfl⟩
  · have hl : lv_has ls 5 [(0, .ref o), (1, .int x), (2, .int i), (3, .int wh)] := hl
    refine lv_aload_n hx hb d_CI_run_0 rfl (lv_at hl 0 rfl) ?_
    refine lv_iload_n hx hb d_CI_run_1 rfl (lv_at hl 1 rfl) ?_
    refine vp_callSi (va_Run.run (run_V S v_CI_86 (c_CI_hasRuns la G o rw rt fr L x0 y0 x1 y1 x (by omega) (by omega) (by omega) (by omega) hf1 hf3) ⟨rfl, rfl⟩ ⟨Nat.le_of_ble_eq_true rfl, Nat.le_of_ble_eq_true rfl⟩ (preR_V hP hk (hs.kept (fun a h1 h2 => hS.2.1 a h1 h2)) [0, 9] rfl 0 rfl rfl) (rest := []) rfl hl.1 rfl (Nat.le_of_ble_eq_true rfl) d_CI_run_2 ⟨Nat.le_of_ble_eq_true rfl, Nat.le_of_ble_eq_true rfl⟩)) (fun r1 hr1 => ?_)
    rcases hr1 with ⟨rfl, ⟨cu, hcu, rfl⟩, hcc⟩ | ⟨rfl, q1⟩
    · have hl : lv_has ls 5 [(0, .ref o), (1, .int (nI cu)), (2, .int i), (3, .int wh)] := hl
      refine lv_if_eq hx hb d_CI_run_5 (tgt := 21) (by decide) (fun h => absurd h (by decide)) (fun _ => ?_)
      refine lv_iload_n hx hb d_CI_run_8 rfl (lv_at hl 2 rfl) ?_
      refine lv_if_lt hx hb d_CI_run_9 (tgt := 21) (by decide) (fun _ => ?_) (fun h => absurd hi0 h)
      refine lv_iconst (v := (-1)) hx hb d_CI_run_21 (by decide) ?_
      have hP := hP.sub (ws' := [(o, .inr (0, [.ref rw, .ref rt, .int (nI L), .ref fr])), (rw, .inr (1, [.ref kw_, .ref cw_, .ref vw_, .int (nI nw)])), (kw_, .inl (G.2.1, 500, .inl (fun zz => nI (Kw zz)))), (cw_, .inl (G.2.1, 500, .inl (fun zz => nI (Cw zz)))), (vw_, .inl (G.2.1, 500, .inl (fun zz => nI (Vw zz)))), (rt, .inr (1, [.ref kt_, .ref ct_, .ref vt_, .int (nI nt)])), (kt_, .inl (G.2.1, 500, .inl (fun zz => nI (Kt zz)))), (ct_, .inl (G.2.1, 500, .inl (fun zz => nI (Ct zz)))), (vt_, .inl (G.2.1, 500, .inl (fun zz => nI (Vt zz)))), (fr, .inr (2, [.int (nI x0), .int (nI y0), .int (nI x1), .int (nI y1)]))]) [0, 1, 2, 3, 4, 5, 6, 7, 8, 9] rfl
      have hD := hD.sub (ws' := [(o, .inr (0, [.ref rw, .ref rt, .int (nI L), .ref fr])), (rw, .inr (1, [.ref kw_, .ref cw_, .ref vw_, .int (nI nw)])), (kw_, .inl (G.2.1, 500, .inl (fun zz => nI (Kw zz)))), (cw_, .inl (G.2.1, 500, .inl (fun zz => nI (Cw zz)))), (vw_, .inl (G.2.1, 500, .inl (fun zz => nI (Vw zz)))), (rt, .inr (1, [.ref kt_, .ref ct_, .ref vt_, .int (nI nt)])), (kt_, .inl (G.2.1, 500, .inl (fun zz => nI (Kt zz)))), (ct_, .inl (G.2.1, 500, .inl (fun zz => nI (Ct zz)))), (vt_, .inl (G.2.1, 500, .inl (fun zz => nI (Vt zz)))), (fr, .inr (2, [.int (nI x0), .int (nI y0), .int (nI x1), .int (nI y1)]))]) [0, 1, 2, 3, 4, 5, 6, 7, 8, 9] (by decide) rfl
      refine W.widen (k := 1) (n := 6) (Nat.le_of_ble_eq_true rfl) (Nat.le_of_ble_eq_true rfl) ?_
      exact hret _ _ _ ((L, (nw, Kw, Cw, Vw), (nt, Kt, Ct, Vt), (x0, y0, x1, y1)), fr) _ _ rfl (⟨Or.inr ⟨by first | exact fun z => q1 ⟨z.1, z.2.1⟩ | exact fun z => z.2.2.1 hi0 | exact fun z => by rcases z.2.2.2 with rfl | rfl <;> exact nI_pos (by omega) hw0 | exact fun z => by rcases z.2.2.2 with e | e <;> (rw [nI_eq (by omega) (by omega)] at e; omega), rfl⟩, rfl⟩) hP hD hS d_CI_run_22
    · refine lv_if_eq hx hb d_CI_run_5 (tgt := 21) (by decide) (fun _ => ?_) (fun h => absurd (by decide) h)
      refine lv_iconst (v := (-1)) hx hb d_CI_run_21 (by decide) ?_
      have hP := hP.sub (ws' := [(o, .inr (0, [.ref rw, .ref rt, .int (nI L), .ref fr])), (rw, .inr (1, [.ref kw_, .ref cw_, .ref vw_, .int (nI nw)])), (kw_, .inl (G.2.1, 500, .inl (fun zz => nI (Kw zz)))), (cw_, .inl (G.2.1, 500, .inl (fun zz => nI (Cw zz)))), (vw_, .inl (G.2.1, 500, .inl (fun zz => nI (Vw zz)))), (rt, .inr (1, [.ref kt_, .ref ct_, .ref vt_, .int (nI nt)])), (kt_, .inl (G.2.1, 500, .inl (fun zz => nI (Kt zz)))), (ct_, .inl (G.2.1, 500, .inl (fun zz => nI (Ct zz)))), (vt_, .inl (G.2.1, 500, .inl (fun zz => nI (Vt zz)))), (fr, .inr (2, [.int (nI x0), .int (nI y0), .int (nI x1), .int (nI y1)]))]) [0, 1, 2, 3, 4, 5, 6, 7, 8, 9] rfl
      have hD := hD.sub (ws' := [(o, .inr (0, [.ref rw, .ref rt, .int (nI L), .ref fr])), (rw, .inr (1, [.ref kw_, .ref cw_, .ref vw_, .int (nI nw)])), (kw_, .inl (G.2.1, 500, .inl (fun zz => nI (Kw zz)))), (cw_, .inl (G.2.1, 500, .inl (fun zz => nI (Cw zz)))), (vw_, .inl (G.2.1, 500, .inl (fun zz => nI (Vw zz)))), (rt, .inr (1, [.ref kt_, .ref ct_, .ref vt_, .int (nI nt)])), (kt_, .inl (G.2.1, 500, .inl (fun zz => nI (Kt zz)))), (ct_, .inl (G.2.1, 500, .inl (fun zz => nI (Ct zz)))), (vt_, .inl (G.2.1, 500, .inl (fun zz => nI (Vt zz)))), (fr, .inr (2, [.int (nI x0), .int (nI y0), .int (nI x1), .int (nI y1)]))]) [0, 1, 2, 3, 4, 5, 6, 7, 8, 9] (by decide) rfl
      refine W.widen (k := 1) (n := 6) (Nat.le_of_ble_eq_true rfl) (Nat.le_of_ble_eq_true rfl) ?_
      exact hret _ _ _ ((L, (nw, Kw, Cw, Vw), (nt, Kt, Ct, Vt), (x0, y0, x1, y1)), fr) _ _ rfl (⟨Or.inr ⟨by first | exact fun z => q1 ⟨z.1, z.2.1⟩ | exact fun z => z.2.2.1 hi0 | exact fun z => by rcases z.2.2.2 with rfl | rfl <;> exact nI_pos (by omega) hw0 | exact fun z => by rcases z.2.2.2 with e | e <;> (rw [nI_eq (by omega) (by omega)] at e; omega), rfl⟩, rfl⟩) hP hD hS d_CI_run_22
  · rcases ng wh with hw0 | ⟨z, hz, rfl⟩
    · have hl : lv_has ls 5 [(0, .ref o), (1, .int x), (2, .int (nI j)), (3, .int wh)] := hl
      refine lv_aload_n hx hb d_CI_run_0 rfl (lv_at hl 0 rfl) ?_
      refine lv_iload_n hx hb d_CI_run_1 rfl (lv_at hl 1 rfl) ?_
      refine vp_callSi (va_Run.run (run_V S v_CI_86 (c_CI_hasRuns la G o rw rt fr L x0 y0 x1 y1 x (by omega) (by omega) (by omega) (by omega) hf1 hf3) ⟨rfl, rfl⟩ ⟨Nat.le_of_ble_eq_true rfl, Nat.le_of_ble_eq_true rfl⟩ (preR_V hP hk (hs.kept (fun a h1 h2 => hS.2.1 a h1 h2)) [0, 9] rfl 0 rfl rfl) (rest := []) rfl hl.1 rfl (Nat.le_of_ble_eq_true rfl) d_CI_run_2 ⟨Nat.le_of_ble_eq_true rfl, Nat.le_of_ble_eq_true rfl⟩)) (fun r1 hr1 => ?_)
      rcases hr1 with ⟨rfl, ⟨cu, hcu, rfl⟩, hcc⟩ | ⟨rfl, q1⟩
      · have hl : lv_has ls 5 [(0, .ref o), (1, .int (nI cu)), (2, .int (nI j)), (3, .int wh)] := hl
        refine lv_if_eq hx hb d_CI_run_5 (tgt := 21) (by decide) (fun h => absurd h (by decide)) (fun _ => ?_)
        refine lv_iload_n hx hb d_CI_run_8 rfl (lv_at hl 2 rfl) ?_
        refine lv_if_lt hx hb d_CI_run_9 (tgt := 21) (by decide) (fun h => absurd h (nI_pos (by omega))) (fun _ => ?_)
        refine lv_iload_n hx hb d_CI_run_12 rfl (lv_at hl 3 rfl) ?_
        refine lv_if_lt hx hb d_CI_run_13 (tgt := 21) (by decide) (fun _ => ?_) (fun h => absurd hw0 h)
        refine lv_iconst (v := (-1)) hx hb d_CI_run_21 (by decide) ?_
        have hP := hP.sub (ws' := [(o, .inr (0, [.ref rw, .ref rt, .int (nI L), .ref fr])), (rw, .inr (1, [.ref kw_, .ref cw_, .ref vw_, .int (nI nw)])), (kw_, .inl (G.2.1, 500, .inl (fun zz => nI (Kw zz)))), (cw_, .inl (G.2.1, 500, .inl (fun zz => nI (Cw zz)))), (vw_, .inl (G.2.1, 500, .inl (fun zz => nI (Vw zz)))), (rt, .inr (1, [.ref kt_, .ref ct_, .ref vt_, .int (nI nt)])), (kt_, .inl (G.2.1, 500, .inl (fun zz => nI (Kt zz)))), (ct_, .inl (G.2.1, 500, .inl (fun zz => nI (Ct zz)))), (vt_, .inl (G.2.1, 500, .inl (fun zz => nI (Vt zz)))), (fr, .inr (2, [.int (nI x0), .int (nI y0), .int (nI x1), .int (nI y1)]))]) [0, 1, 2, 3, 4, 5, 6, 7, 8, 9] rfl
        have hD := hD.sub (ws' := [(o, .inr (0, [.ref rw, .ref rt, .int (nI L), .ref fr])), (rw, .inr (1, [.ref kw_, .ref cw_, .ref vw_, .int (nI nw)])), (kw_, .inl (G.2.1, 500, .inl (fun zz => nI (Kw zz)))), (cw_, .inl (G.2.1, 500, .inl (fun zz => nI (Cw zz)))), (vw_, .inl (G.2.1, 500, .inl (fun zz => nI (Vw zz)))), (rt, .inr (1, [.ref kt_, .ref ct_, .ref vt_, .int (nI nt)])), (kt_, .inl (G.2.1, 500, .inl (fun zz => nI (Kt zz)))), (ct_, .inl (G.2.1, 500, .inl (fun zz => nI (Ct zz)))), (vt_, .inl (G.2.1, 500, .inl (fun zz => nI (Vt zz)))), (fr, .inr (2, [.int (nI x0), .int (nI y0), .int (nI x1), .int (nI y1)]))]) [0, 1, 2, 3, 4, 5, 6, 7, 8, 9] (by decide) rfl
        refine W.widen (k := 1) (n := 6) (Nat.le_of_ble_eq_true rfl) (Nat.le_of_ble_eq_true rfl) ?_
        exact hret _ _ _ ((L, (nw, Kw, Cw, Vw), (nt, Kt, Ct, Vt), (x0, y0, x1, y1)), fr) _ _ rfl (⟨Or.inr ⟨by first | exact fun z => q1 ⟨z.1, z.2.1⟩ | exact fun z => z.2.2.1 hi0 | exact fun z => by rcases z.2.2.2 with rfl | rfl <;> exact nI_pos (by omega) hw0 | exact fun z => by rcases z.2.2.2 with e | e <;> (rw [nI_eq (by omega) (by omega)] at e; omega), rfl⟩, rfl⟩) hP hD hS d_CI_run_22
      · refine lv_if_eq hx hb d_CI_run_5 (tgt := 21) (by decide) (fun _ => ?_) (fun h => absurd (by decide) h)
        refine lv_iconst (v := (-1)) hx hb d_CI_run_21 (by decide) ?_
        have hP := hP.sub (ws' := [(o, .inr (0, [.ref rw, .ref rt, .int (nI L), .ref fr])), (rw, .inr (1, [.ref kw_, .ref cw_, .ref vw_, .int (nI nw)])), (kw_, .inl (G.2.1, 500, .inl (fun zz => nI (Kw zz)))), (cw_, .inl (G.2.1, 500, .inl (fun zz => nI (Cw zz)))), (vw_, .inl (G.2.1, 500, .inl (fun zz => nI (Vw zz)))), (rt, .inr (1, [.ref kt_, .ref ct_, .ref vt_, .int (nI nt)])), (kt_, .inl (G.2.1, 500, .inl (fun zz => nI (Kt zz)))), (ct_, .inl (G.2.1, 500, .inl (fun zz => nI (Ct zz)))), (vt_, .inl (G.2.1, 500, .inl (fun zz => nI (Vt zz)))), (fr, .inr (2, [.int (nI x0), .int (nI y0), .int (nI x1), .int (nI y1)]))]) [0, 1, 2, 3, 4, 5, 6, 7, 8, 9] rfl
        have hD := hD.sub (ws' := [(o, .inr (0, [.ref rw, .ref rt, .int (nI L), .ref fr])), (rw, .inr (1, [.ref kw_, .ref cw_, .ref vw_, .int (nI nw)])), (kw_, .inl (G.2.1, 500, .inl (fun zz => nI (Kw zz)))), (cw_, .inl (G.2.1, 500, .inl (fun zz => nI (Cw zz)))), (vw_, .inl (G.2.1, 500, .inl (fun zz => nI (Vw zz)))), (rt, .inr (1, [.ref kt_, .ref ct_, .ref vt_, .int (nI nt)])), (kt_, .inl (G.2.1, 500, .inl (fun zz => nI (Kt zz)))), (ct_, .inl (G.2.1, 500, .inl (fun zz => nI (Ct zz)))), (vt_, .inl (G.2.1, 500, .inl (fun zz => nI (Vt zz)))), (fr, .inr (2, [.int (nI x0), .int (nI y0), .int (nI x1), .int (nI y1)]))]) [0, 1, 2, 3, 4, 5, 6, 7, 8, 9] (by decide) rfl
        refine W.widen (k := 1) (n := 6) (Nat.le_of_ble_eq_true rfl) (Nat.le_of_ble_eq_true rfl) ?_
        exact hret _ _ _ ((L, (nw, Kw, Cw, Vw), (nt, Kt, Ct, Vt), (x0, y0, x1, y1)), fr) _ _ rfl (⟨Or.inr ⟨by first | exact fun z => q1 ⟨z.1, z.2.1⟩ | exact fun z => z.2.2.1 hi0 | exact fun z => by rcases z.2.2.2 with rfl | rfl <;> exact nI_pos (by omega) hw0 | exact fun z => by rcases z.2.2.2 with e | e <;> (rw [nI_eq (by omega) (by omega)] at e; omega), rfl⟩, rfl⟩) hP hD hS d_CI_run_22
    · have hl : lv_has ls 5 [(0, .ref o), (1, .int x), (2, .int (nI j)), (3, .int (nI z))] := hl
      refine lv_aload_n hx hb d_CI_run_0 rfl (lv_at hl 0 rfl) ?_
      refine lv_iload_n hx hb d_CI_run_1 rfl (lv_at hl 1 rfl) ?_
      refine vp_callSi (va_Run.run (run_V S v_CI_86 (c_CI_hasRuns la G o rw rt fr L x0 y0 x1 y1 x (by omega) (by omega) (by omega) (by omega) hf1 hf3) ⟨rfl, rfl⟩ ⟨Nat.le_of_ble_eq_true rfl, Nat.le_of_ble_eq_true rfl⟩ (preR_V hP hk (hs.kept (fun a h1 h2 => hS.2.1 a h1 h2)) [0, 9] rfl 0 rfl rfl) (rest := []) rfl hl.1 rfl (Nat.le_of_ble_eq_true rfl) d_CI_run_2 ⟨Nat.le_of_ble_eq_true rfl, Nat.le_of_ble_eq_true rfl⟩)) (fun r1 hr1 => ?_)
      rcases hr1 with ⟨rfl, ⟨cu, hcu, rfl⟩, hcc⟩ | ⟨rfl, q1⟩
      · have hl : lv_has ls 5 [(0, .ref o), (1, .int (nI cu)), (2, .int (nI j)), (3, .int (nI z))] := hl
        refine lv_if_eq hx hb d_CI_run_5 (tgt := 21) (by decide) (fun h => absurd h (by decide)) (fun _ => ?_)
        refine lv_iload_n hx hb d_CI_run_8 rfl (lv_at hl 2 rfl) ?_
        refine lv_if_lt hx hb d_CI_run_9 (tgt := 21) (by decide) (fun h => absurd h (nI_pos (by omega))) (fun _ => ?_)
        refine lv_iload_n hx hb d_CI_run_12 rfl (lv_at hl 3 rfl) ?_
        refine lv_if_lt hx hb d_CI_run_13 (tgt := 21) (by decide) (fun h => absurd h (nI_pos (by omega))) (fun _ => ?_)
        refine lv_iload_n hx hb d_CI_run_16 rfl (lv_at hl 3 rfl) ?_
        refine lv_iconst (v := nI 1) hx hb d_CI_run_17 (by decide) ?_
        refine x_icmp_le hx hb d_CI_run_18 (tgt := 23) (by decide) (by omega) (by omega) (fun h18 => ?_) (fun h18 => ?_)
        · refine lv_aload_n hx hb d_CI_run_23 rfl (lv_at hl 0 rfl) ?_
          refine lv_iload_n hx hb d_CI_run_24 rfl (lv_at hl 1 rfl) ?_
          refine lv_iload_n hx hb d_CI_run_25 rfl (lv_at hl 2 rfl) ?_
          refine eff_Q (wr := [(rw, .inr (1, [.ref kw_, .ref cw_, .ref vw_, .int (nI nw)])), (kw_, .inl (G.2.1, 500, .inl (fun zz => nI (Kw zz)))), (cw_, .inl (G.2.1, 500, .inl (fun zz => nI (Cw zz)))), (vw_, .inl (G.2.1, 500, .inl (fun zz => nI (Vw zz)))), (rt, .inr (1, [.ref kt_, .ref ct_, .ref vt_, .int (nI nt)])), (kt_, .inl (G.2.1, 500, .inl (fun zz => nI (Kt zz)))), (ct_, .inl (G.2.1, 500, .inl (fun zz => nI (Ct zz)))), (vt_, .inl (G.2.1, 500, .inl (fun zz => nI (Vt zz))))]) (run_V S v_CI_89 (c_CI_walkRuns la G o rw rt fr L x0 y0 x1 y1 cu (nI j) hL hL1 (by omega) (by omega) (by omega) (by omega) hcu _) ⟨rfl, rfl⟩ ⟨Nat.le_of_ble_eq_true rfl, Nat.le_of_ble_eq_true rfl⟩ (preW_V hP hD hA hS hk hs [0, 9] (by decide) rfl 0 rfl rfl) (rest := []) rfl hl.1 rfl (Nat.le_of_ble_eq_true rfl) d_CI_run_26 ⟨Nat.le_of_ble_eq_true rfl, Nat.le_of_ble_eq_true rfl⟩) hP hD hA hS [0, 9] [1, 2, 3, 4, 5, 6, 7, 8] rfl rfl (by decide) (by decide) (fun bw uw H locs huw hP hD hS => ?_)
          have hP : va_P G.1 cls [(rw, .inr (1, [.ref kw_, .ref cw_, .ref vw_, .int (nI nw)])), (kw_, .inl (G.2.1, 500, .inl (fun zz => nI (Kw zz)))), (cw_, .inl (G.2.1, 500, .inl (fun zz => nI (Cw zz)))), (vw_, .inl (G.2.1, 500, .inl (fun zz => nI (Vw zz)))), (rt, .inr (1, [.ref kt_, .ref ct_, .ref vt_, .int (nI nt)])), (kt_, .inl (G.2.1, 500, .inl (fun zz => nI (Kt zz)))), (ct_, .inl (G.2.1, 500, .inl (fun zz => nI (Ct zz)))), (vt_, .inl (G.2.1, 500, .inl (fun zz => nI (Vt zz)))), (o, .inr (0, [.ref rw, .ref rt, .int (nI L), .ref fr])), (fr, .inr (2, [.int (nI x0), .int (nI y0), .int (nI x1), .int (nI y1)])), (bw, .inr (3, [.ref fr, .int (nI j), .int (nI ((rw_k (nI j) (wM cu L (x0, y0, x1, y1)) (2 ^ L * 2 ^ L)).1)), .int (oI ((rw_k (nI j) (wM cu L (x0, y0, x1, y1)) (2 ^ L * 2 ^ L)).2.1)), .int (oI ((rw_k (nI j) (wM cu L (x0, y0, x1, y1)) (2 ^ L * 2 ^ L)).2.2.1)), .int (oI ((rw_k (nI j) (wM cu L (x0, y0, x1, y1)) (2 ^ L * 2 ^ L)).2.2.2))]))] H := hP
          have hD : va_D A [(rw, .inr (1, [.ref kw_, .ref cw_, .ref vw_, .int (nI nw)])), (kw_, .inl (G.2.1, 500, .inl (fun zz => nI (Kw zz)))), (cw_, .inl (G.2.1, 500, .inl (fun zz => nI (Cw zz)))), (vw_, .inl (G.2.1, 500, .inl (fun zz => nI (Vw zz)))), (rt, .inr (1, [.ref kt_, .ref ct_, .ref vt_, .int (nI nt)])), (kt_, .inl (G.2.1, 500, .inl (fun zz => nI (Kt zz)))), (ct_, .inl (G.2.1, 500, .inl (fun zz => nI (Ct zz)))), (vt_, .inl (G.2.1, 500, .inl (fun zz => nI (Vt zz)))), (o, .inr (0, [.ref rw, .ref rt, .int (nI L), .ref fr])), (fr, .inr (2, [.int (nI x0), .int (nI y0), .int (nI x1), .int (nI y1)])), (bw, .inr (3, [.ref fr, .int (nI j), .int (nI ((rw_k (nI j) (wM cu L (x0, y0, x1, y1)) (2 ^ L * 2 ^ L)).1)), .int (oI ((rw_k (nI j) (wM cu L (x0, y0, x1, y1)) (2 ^ L * 2 ^ L)).2.1)), .int (oI ((rw_k (nI j) (wM cu L (x0, y0, x1, y1)) (2 ^ L * 2 ^ L)).2.2.1)), .int (oI ((rw_k (nI j) (wM cu L (x0, y0, x1, y1)) (2 ^ L * 2 ^ L)).2.2.2))]))] := hD
          refine lv_astore hx hb d_CI_run_29 hl (by decide) rfl (fun ls hl => ?_)
          have hl : lv_has ls 5 [(4, .ref bw), (0, .ref o), (1, .int (nI cu)), (2, .int (nI j)), (3, .int (nI z))] := hl
          refine lv_iload_n hx hb d_CI_run_31 rfl (lv_at hl 4 rfl) ?_
          refine x_if_ne hx hb d_CI_run_32 (tgt := 43) (by decide) (by omega) (fun h32 => ?_) (fun h32 => ?_)
          · refine lv_aload hx hb d_CI_run_43 (lv_at hl 0 rfl) ?_
            refine y_getN S hk hP 10 rfl f_CI_101 rfl d_CI_run_45 ?_
            have hP := hP.sub (ws' := [(o, .inr (0, [.ref rw, .ref rt, .int (nI L), .ref fr])), (rw, .inr (1, [.ref kw_, .ref cw_, .ref vw_, .int (nI nw)])), (kw_, .inl (G.2.1, 500, .inl (fun zz => nI (Kw zz)))), (cw_, .inl (G.2.1, 500, .inl (fun zz => nI (Cw zz)))), (vw_, .inl (G.2.1, 500, .inl (fun zz => nI (Vw zz)))), (rt, .inr (1, [.ref kt_, .ref ct_, .ref vt_, .int (nI nt)])), (kt_, .inl (G.2.1, 500, .inl (fun zz => nI (Kt zz)))), (ct_, .inl (G.2.1, 500, .inl (fun zz => nI (Ct zz)))), (vt_, .inl (G.2.1, 500, .inl (fun zz => nI (Vt zz)))), (fr, .inr (2, [.int (nI x0), .int (nI y0), .int (nI x1), .int (nI y1)]))]) [8, 0, 1, 2, 3, 4, 5, 6, 7, 9] rfl
            have hD := hD.sub (ws' := [(o, .inr (0, [.ref rw, .ref rt, .int (nI L), .ref fr])), (rw, .inr (1, [.ref kw_, .ref cw_, .ref vw_, .int (nI nw)])), (kw_, .inl (G.2.1, 500, .inl (fun zz => nI (Kw zz)))), (cw_, .inl (G.2.1, 500, .inl (fun zz => nI (Cw zz)))), (vw_, .inl (G.2.1, 500, .inl (fun zz => nI (Vw zz)))), (rt, .inr (1, [.ref kt_, .ref ct_, .ref vt_, .int (nI nt)])), (kt_, .inl (G.2.1, 500, .inl (fun zz => nI (Kt zz)))), (ct_, .inl (G.2.1, 500, .inl (fun zz => nI (Ct zz)))), (vt_, .inl (G.2.1, 500, .inl (fun zz => nI (Vt zz)))), (fr, .inr (2, [.int (nI x0), .int (nI y0), .int (nI x1), .int (nI y1)]))]) [8, 0, 1, 2, 3, 4, 5, 6, 7, 9] (by decide) rfl
            refine W.widen (k := 1) (n := 6) (Nat.le_of_ble_eq_true rfl) (Nat.le_of_ble_eq_true rfl) ?_
            exact hret _ _ _ ((L, (nw, Kw, Cw, Vw), (nt, Kt, Ct, Vt), (x0, y0, x1, y1)), fr) _ _ rfl (⟨Or.inl ⟨cu, j, hcu, rfl, hj', rfl, hcc, Or.inr ⟨by rw [show z = 1 by omega], rfl⟩⟩, rfl⟩) hP hD hS d_CI_run_48
          · refine lv_aload hx hb d_CI_run_35 (lv_at hl 0 rfl) ?_
            refine y_getN S hk hP 10 rfl f_CI_98 rfl d_CI_run_37 ?_
            refine lv_goto hx hb d_CI_run_40 (tgt := 48) (by decide) ?_
            have hP := hP.sub (ws' := [(o, .inr (0, [.ref rw, .ref rt, .int (nI L), .ref fr])), (rw, .inr (1, [.ref kw_, .ref cw_, .ref vw_, .int (nI nw)])), (kw_, .inl (G.2.1, 500, .inl (fun zz => nI (Kw zz)))), (cw_, .inl (G.2.1, 500, .inl (fun zz => nI (Cw zz)))), (vw_, .inl (G.2.1, 500, .inl (fun zz => nI (Vw zz)))), (rt, .inr (1, [.ref kt_, .ref ct_, .ref vt_, .int (nI nt)])), (kt_, .inl (G.2.1, 500, .inl (fun zz => nI (Kt zz)))), (ct_, .inl (G.2.1, 500, .inl (fun zz => nI (Ct zz)))), (vt_, .inl (G.2.1, 500, .inl (fun zz => nI (Vt zz)))), (fr, .inr (2, [.int (nI x0), .int (nI y0), .int (nI x1), .int (nI y1)]))]) [8, 0, 1, 2, 3, 4, 5, 6, 7, 9] rfl
            have hD := hD.sub (ws' := [(o, .inr (0, [.ref rw, .ref rt, .int (nI L), .ref fr])), (rw, .inr (1, [.ref kw_, .ref cw_, .ref vw_, .int (nI nw)])), (kw_, .inl (G.2.1, 500, .inl (fun zz => nI (Kw zz)))), (cw_, .inl (G.2.1, 500, .inl (fun zz => nI (Cw zz)))), (vw_, .inl (G.2.1, 500, .inl (fun zz => nI (Vw zz)))), (rt, .inr (1, [.ref kt_, .ref ct_, .ref vt_, .int (nI nt)])), (kt_, .inl (G.2.1, 500, .inl (fun zz => nI (Kt zz)))), (ct_, .inl (G.2.1, 500, .inl (fun zz => nI (Ct zz)))), (vt_, .inl (G.2.1, 500, .inl (fun zz => nI (Vt zz)))), (fr, .inr (2, [.int (nI x0), .int (nI y0), .int (nI x1), .int (nI y1)]))]) [8, 0, 1, 2, 3, 4, 5, 6, 7, 9] (by decide) rfl
            refine W.widen (k := 1) (n := 6) (Nat.le_of_ble_eq_true rfl) (Nat.le_of_ble_eq_true rfl) ?_
            exact hret _ _ _ ((L, (nw, Kw, Cw, Vw), (nt, Kt, Ct, Vt), (x0, y0, x1, y1)), fr) _ _ rfl (⟨Or.inl ⟨cu, j, hcu, rfl, hj', rfl, hcc, Or.inl ⟨by rw [h32], rfl⟩⟩, rfl⟩) hP hD hS d_CI_run_48
        · refine lv_iconst (v := (-1)) hx hb d_CI_run_21 (by decide) ?_
          have hP := hP.sub (ws' := [(o, .inr (0, [.ref rw, .ref rt, .int (nI L), .ref fr])), (rw, .inr (1, [.ref kw_, .ref cw_, .ref vw_, .int (nI nw)])), (kw_, .inl (G.2.1, 500, .inl (fun zz => nI (Kw zz)))), (cw_, .inl (G.2.1, 500, .inl (fun zz => nI (Cw zz)))), (vw_, .inl (G.2.1, 500, .inl (fun zz => nI (Vw zz)))), (rt, .inr (1, [.ref kt_, .ref ct_, .ref vt_, .int (nI nt)])), (kt_, .inl (G.2.1, 500, .inl (fun zz => nI (Kt zz)))), (ct_, .inl (G.2.1, 500, .inl (fun zz => nI (Ct zz)))), (vt_, .inl (G.2.1, 500, .inl (fun zz => nI (Vt zz)))), (fr, .inr (2, [.int (nI x0), .int (nI y0), .int (nI x1), .int (nI y1)]))]) [0, 1, 2, 3, 4, 5, 6, 7, 8, 9] rfl
          have hD := hD.sub (ws' := [(o, .inr (0, [.ref rw, .ref rt, .int (nI L), .ref fr])), (rw, .inr (1, [.ref kw_, .ref cw_, .ref vw_, .int (nI nw)])), (kw_, .inl (G.2.1, 500, .inl (fun zz => nI (Kw zz)))), (cw_, .inl (G.2.1, 500, .inl (fun zz => nI (Cw zz)))), (vw_, .inl (G.2.1, 500, .inl (fun zz => nI (Vw zz)))), (rt, .inr (1, [.ref kt_, .ref ct_, .ref vt_, .int (nI nt)])), (kt_, .inl (G.2.1, 500, .inl (fun zz => nI (Kt zz)))), (ct_, .inl (G.2.1, 500, .inl (fun zz => nI (Ct zz)))), (vt_, .inl (G.2.1, 500, .inl (fun zz => nI (Vt zz)))), (fr, .inr (2, [.int (nI x0), .int (nI y0), .int (nI x1), .int (nI y1)]))]) [0, 1, 2, 3, 4, 5, 6, 7, 8, 9] (by decide) rfl
          refine W.widen (k := 1) (n := 6) (Nat.le_of_ble_eq_true rfl) (Nat.le_of_ble_eq_true rfl) ?_
          exact hret _ _ _ ((L, (nw, Kw, Cw, Vw), (nt, Kt, Ct, Vt), (x0, y0, x1, y1)), fr) _ _ rfl (⟨Or.inr ⟨by first | exact fun z => q1 ⟨z.1, z.2.1⟩ | exact fun z => z.2.2.1 hi0 | exact fun z => by rcases z.2.2.2 with rfl | rfl <;> exact nI_pos (by omega) hw0 | exact fun z => by rcases z.2.2.2 with e | e <;> (rw [nI_eq (by omega) (by omega)] at e; omega), rfl⟩, rfl⟩) hP hD hS d_CI_run_22
      · refine lv_if_eq hx hb d_CI_run_5 (tgt := 21) (by decide) (fun _ => ?_) (fun h => absurd (by decide) h)
        refine lv_iconst (v := (-1)) hx hb d_CI_run_21 (by decide) ?_
        have hP := hP.sub (ws' := [(o, .inr (0, [.ref rw, .ref rt, .int (nI L), .ref fr])), (rw, .inr (1, [.ref kw_, .ref cw_, .ref vw_, .int (nI nw)])), (kw_, .inl (G.2.1, 500, .inl (fun zz => nI (Kw zz)))), (cw_, .inl (G.2.1, 500, .inl (fun zz => nI (Cw zz)))), (vw_, .inl (G.2.1, 500, .inl (fun zz => nI (Vw zz)))), (rt, .inr (1, [.ref kt_, .ref ct_, .ref vt_, .int (nI nt)])), (kt_, .inl (G.2.1, 500, .inl (fun zz => nI (Kt zz)))), (ct_, .inl (G.2.1, 500, .inl (fun zz => nI (Ct zz)))), (vt_, .inl (G.2.1, 500, .inl (fun zz => nI (Vt zz)))), (fr, .inr (2, [.int (nI x0), .int (nI y0), .int (nI x1), .int (nI y1)]))]) [0, 1, 2, 3, 4, 5, 6, 7, 8, 9] rfl
        have hD := hD.sub (ws' := [(o, .inr (0, [.ref rw, .ref rt, .int (nI L), .ref fr])), (rw, .inr (1, [.ref kw_, .ref cw_, .ref vw_, .int (nI nw)])), (kw_, .inl (G.2.1, 500, .inl (fun zz => nI (Kw zz)))), (cw_, .inl (G.2.1, 500, .inl (fun zz => nI (Cw zz)))), (vw_, .inl (G.2.1, 500, .inl (fun zz => nI (Vw zz)))), (rt, .inr (1, [.ref kt_, .ref ct_, .ref vt_, .int (nI nt)])), (kt_, .inl (G.2.1, 500, .inl (fun zz => nI (Kt zz)))), (ct_, .inl (G.2.1, 500, .inl (fun zz => nI (Ct zz)))), (vt_, .inl (G.2.1, 500, .inl (fun zz => nI (Vt zz)))), (fr, .inr (2, [.int (nI x0), .int (nI y0), .int (nI x1), .int (nI y1)]))]) [0, 1, 2, 3, 4, 5, 6, 7, 8, 9] (by decide) rfl
        refine W.widen (k := 1) (n := 6) (Nat.le_of_ble_eq_true rfl) (Nat.le_of_ble_eq_true rfl) ?_
        exact hret _ _ _ ((L, (nw, Kw, Cw, Vw), (nt, Kt, Ct, Vt), (x0, y0, x1, y1)), fr) _ _ rfl (⟨Or.inr ⟨by first | exact fun z => q1 ⟨z.1, z.2.1⟩ | exact fun z => z.2.2.1 hi0 | exact fun z => by rcases z.2.2.2 with rfl | rfl <;> exact nI_pos (by omega) hw0 | exact fun z => by rcases z.2.2.2 with e | e <;> (rw [nI_eq (by omega) (by omega)] at e; omega), rfl⟩, rfl⟩) hP hD hS d_CI_run_22
end
section
/-! the reference's state, and numbers of its loops -/
abbrev mS : Type := Nat × (Nat × (Nat → Nat) × (Nat → Nat)) × fQ × (Nat → Nat) × (Nat → Nat)
def okMo (u : mS) : Prop := (1 ≤ u.1 ∧ u.1 ≤ 15) ∧ okm u.1 u.2.1.1 u.2.1.2.1 u.2.1.2.2 ∧ (bd u.2.1.2.1 ∧ bd u.2.1.2.2) ∧ okF u.1 u.2.2.1 ∧ bd u.2.2.2.1 ∧ bd u.2.2.2.2
theorem wk_step (l k x y : Nat) : (4 * k + x / 2 ^ l % 2 + 2 * (y / 2 ^ l % 2)) * (2 ^ l * 2 ^ l) + wk l x y = k * (2 ^ (l + 1) * 2 ^ (l + 1)) + wk (l + 1) x y := by
  show _ = k * (2 ^ (l + 1) * 2 ^ (l + 1)) + ((x / 2 ^ l % 2 + 2 * (y / 2 ^ l % 2)) * (2 ^ l * 2 ^ l) + wk l x y)
  rw [p4_s, Nat.add_assoc (4 * k), Nat.add_mul, Nat.mul_comm 4 k, Nat.mul_assoc, Nat.add_assoc]
theorem half_s (l : Nat) : 2 ^ (l + 1) / 2 = 2 ^ l := by
  rw [p2_s]
  omega
theorem in_dm {L : Nat} {F : fQ} {c : Nat} : inc L F c = inF F.1 F.2.1 F.2.2.1 F.2.2.2 (c / 2 ^ L) (c % 2 ^ L) := rfl
section XL
variable {p : Program} {la : Launch} {e : Env} {R : Room} {s : State} {m : MethodId} {args : Array Value} {below : List Frame} {meth : Method} {c : Code} {H : Heap} {locs : List Loc} {cells slots : Nat} {Q : State → Prop}
variable {cc : ByteArray} {pc : Nat} {ls : Array Slot} {rest : List Value}
theorem x_if_le (hx : p.tables.exec = Jvm.exec) (hb : c.code = cc) {a : Nat} {off : Int} {tgt : Nat} (hdg : decode cc pc = .ok (.ifCond .le off, 3)) (ht : (pc : Int) + off = (tgt : Int)) (h1 : a < 2147483648) (kt : a = 0 → W p la e R s m args below meth c H locs cells slots Q (F0 m tgt ls rest)) (kf : a ≠ 0 → W p la e R s m args below meth c H locs cells slots Q (F0 m (pc + 3) ls rest)) : W p la e R s m args below meth c H locs cells slots Q (F0 m pc ls (.int (nI a) :: rest)) := lv_if_le hx hb hdg ht (fun h => kt (by
  rw [← nI_0, nI_leI h1 (by omega)] at h
  omega)) (fun h => kf (fun q => h (by rw [q, nI_0]; exact Int32.le_refl _)))
end XL
/-- the least so far, by distance and key -/
def nrM (L a b : Nat) (C : Nat → Nat) (q : Nat) (bb : Int32) (dd : Int64) : Prop :=
  (q = 0 ∧ bb = -1) ∨ ∃ j, j < q ∧ bb = nI j ∧ dd = lN (dq L a b (C j)) ∧ ∀ k, k < q → dq L a b (C j) < dq L a b (C k) ∨ (dq L a b (C j) = dq L a b (C k) ∧ ke 1 L (C j) ≤ ke 1 L (C k))
theorem nrM_new {L a b : Nat} {C : Nat → Nat} {q : Nat} {dd : Int64} {bb : Int32} (h : nrM L a b C q bb dd) (hq : q < 2147483648) (hn : bb < 0) : nrM L a b C (q + 1) (nI q) (lN (dq L a b (C q))) := by
  rcases h with ⟨rfl, -⟩ | ⟨j, h1, rfl, -⟩
  · exact Or.inr ⟨0, by omega, rfl, rfl, fun k hk => by obtain rfl : k = 0 := (by omega); exact Or.inr ⟨rfl, Nat.le_refl _⟩⟩
  · exact absurd hn (nI_pos (by omega))
theorem nrM_neg {L a b : Nat} {C : Nat → Nat} {q : Nat} {dd : Int64} {bb : Int32} (h : nrM L a b C q bb dd) : bb < 0 ∨ ∃ j, j < q ∧ bb = nI j ∧ dd = lN (dq L a b (C j)) := by
  rcases h with ⟨-, rfl⟩ | ⟨j, h1, rfl, h3, -⟩
  · exact Or.inl (by decide)
  · exact Or.inr ⟨j, h1, rfl, h3⟩
theorem nrM_at {L a b : Nat} {C : Nat → Nat} {q j : Nat} {dd : Int64} (h : nrM L a b C q (nI j) dd) (hj : j < q) (hq : q < 2147483648) : dd = lN (dq L a b (C j)) ∧ ∀ k, k < q → dq L a b (C j) < dq L a b (C k) ∨ (dq L a b (C j) = dq L a b (C k) ∧ ke 1 L (C j) ≤ ke 1 L (C k)) := by
  rcases h with ⟨rfl, e⟩ | ⟨i, h1, h2, h3, h4⟩
  · omega
  · rw [nI_eq (by omega) (by omega)] at h2
    subst h2
    exact ⟨h3, h4⟩
theorem nrM_take {L a b : Nat} {C : Nat → Nat} {q j : Nat} (h : ∀ k, k < q → dq L a b (C j) < dq L a b (C k) ∨ (dq L a b (C j) = dq L a b (C k) ∧ ke 1 L (C j) ≤ ke 1 L (C k))) (hl : dq L a b (C q) < dq L a b (C j) ∨ (dq L a b (C q) = dq L a b (C j) ∧ ke 1 L (C q) < ke 1 L (C j))) : nrM L a b C (q + 1) (nI q) (lN (dq L a b (C q))) := by
  refine Or.inr ⟨q, by omega, rfl, rfl, fun k hk => ?_⟩
  rcases Nat.lt_or_ge k q with g | g
  · have := h k g
    omega
  · obtain rfl : k = q := (by omega)
    exact Or.inr ⟨rfl, Nat.le_refl _⟩
theorem nrM_stay {L a b : Nat} {C : Nat → Nat} {q j : Nat} (hj : j < q) (h : ∀ k, k < q → dq L a b (C j) < dq L a b (C k) ∨ (dq L a b (C j) = dq L a b (C k) ∧ ke 1 L (C j) ≤ ke 1 L (C k))) (hl : dq L a b (C j) < dq L a b (C q) ∨ (dq L a b (C j) = dq L a b (C q) ∧ ke 1 L (C j) ≤ ke 1 L (C q))) : nrM L a b C (q + 1) (nI j) (lN (dq L a b (C j))) := by
  refine Or.inr ⟨j, by omega, rfl, rfl, fun k hk => ?_⟩
  rcases Nat.lt_or_ge k q with g | g
  · exact h k g
  · obtain rfl : k = q := (by omega)
    exact hl
theorem sqd_l' {a b : Nat} (ha : a < 65536) (hb : b < 65536) : (nI a - nI b).toInt64 * (nI a - nI b).toInt64 = lN (sqd b a) := by
  rw [sqd_l ha hb, sqd_sy]
theorem nrM_none {L a b n : Nat} {C : Nat → Nat} {bb : Int32} {dd : Int64} (h : nrM L a b C n bb dd) (hn : n < 2147483648) (hneg : bb < 0) : nearS L a b n C (-1) := by
  rcases h with ⟨rfl, -⟩ | ⟨j, h1, rfl, -⟩
  · exact Or.inl ⟨rfl, rfl⟩
  · exact absurd hneg (nI_pos (by omega))
theorem nthQ_k {L : Nat} {F : fQ} {n : Nat} {C : Nat → Nat} {k : Nat} {i r : Int32} (hk : k < 2) (h : nthS k L F n C i r) : nthQ L F n C n C (nI k) i r := by
  have e : k = 0 ∨ k = 1 := by omega
  rcases e with rfl | rfl
  · exact Or.inl ⟨rfl, h⟩
  · exact Or.inr (Or.inl ⟨rfl, h⟩)
theorem nth_neg {L : Nat} {F : fQ} {n : Nat} {C : Nat → Nat} {cu i : Int32} (hc : cuO cu) (hn : n ≤ 500) (hi : i < 0) : nthQ L F n C n C cu i (-1) := by
  obtain ⟨k, hk, rfl⟩ := hc
  refine nthQ_k hk (Or.inr ⟨fun j hj hin e => ?_, rfl⟩)
  rw [← e] at hi
  exact nI_pos (by have := rk_le (cu := k) (N := L) (F := F) (n := n) (C := C) (k := ke k L (C j)); omega) hi
section XL2
variable {p : Program} {la : Launch} {e : Env} {R : Room} {s : State} {m : MethodId} {args : Array Value} {below : List Frame} {meth : Method} {c : Code} {H : Heap} {locs : List Loc} {cells slots : Nat} {Q : State → Prop}
variable {cc : ByteArray} {pc : Nat} {ls : Array Slot} {rest : List Value}
theorem x_reL {x y : Int64} (h : x = y) (k : W p la e R s m args below meth c H locs cells slots Q (F0 m pc ls (.long y :: rest))) : W p la e R s m args below meth c H locs cells slots Q (F0 m pc ls (.long x :: rest)) := h ▸ k
end XL2
def hkf (l a b : Nat) : Nat := hk l a b
theorem hkf_00 {l a b : Nat} (h1 : a < 2 ^ l) (h2 : b < 2 ^ l) : hkf (l + 1) a b = hkf l b a := hk_00 h1 h2
theorem hkf_01 {l a b : Nat} (h1 : a < 2 ^ l) (h2 : 2 ^ l ≤ b) : hkf (l + 1) a b = 2 ^ l * 2 ^ l + hkf l a (b - 2 ^ l) := hk_01 h1 h2
theorem hkf_11 {l a b : Nat} (h1 : 2 ^ l ≤ a) (h2 : 2 ^ l ≤ b) : hkf (l + 1) a b = 2 * (2 ^ l * 2 ^ l) + hkf l (a - 2 ^ l) (b - 2 ^ l) := hk_11 h1 h2
theorem hkf_10 {l a b : Nat} (h1 : 2 ^ l ≤ a) (h2 : b < 2 ^ l) : hkf (l + 1) a b = 3 * (2 ^ l * 2 ^ l) + hkf l (2 ^ l - 1 - b) (2 * 2 ^ l - 1 - a) := hk_10 h1 h2
theorem rk_s1 {cu N : Nat} {F : fQ} {t k : Nat} {C : Nat → Nat} (h : inc N F (C t) = true) (h2 : ke cu N (C t) < k) : rk cu N F (t + 1) C k = rk cu N F t C k + 1 := by
  unfold rk
  rw [sg_s, if_pos ⟨h, h2⟩]
theorem rk_s0 {cu N : Nat} {F : fQ} {t k : Nat} {C : Nat → Nat} (h : ¬ (inc N F (C t) = true ∧ ke cu N (C t) < k)) : rk cu N F (t + 1) C k = rk cu N F t C k := by
  unfold rk
  rw [sg_s, if_neg h]
  rfl
theorem rk_s0a {cu N : Nat} {F : fQ} {t k : Nat} {C : Nat → Nat} (h : k ≤ ke cu N (C t)) : rk cu N F (t + 1) C k = rk cu N F t C k := rk_s0 (fun z => absurd z.2 (by omega))
theorem rk_s0b {cu N : Nat} {F : fQ} {t k : Nat} {C : Nat → Nat} (h : inc N F (C t) = false) : rk cu N F (t + 1) C k = rk cu N F t C k := rk_s0 (fun z => absurd (z.1.symm.trans h) (by decide))
end
section
/-! the reference's methods, but for sort, runs, run (laid by gen/m7.py) -/
set_option maxHeartbeats 4000000 in
set_option maxRecDepth 100000 in
theorem c_Mo_side (la : Launch) (G : gG) (mo mc_ mv_ mk_ mx_ L n x0 y0 x1 y1 : Nat) (hL : L ≤ 15) : MetR la y_Mo_side b_Mo_side 1 .int 0 0 [.ref mo] G [(mo, .inr (4, [.int (nI L), .int (nI n), .ref mc_, .ref mv_, .int (nI x0), .int (nI y0), .int (nI x1), .int (nI y1), .ref mk_, .ref mx_]))] (fun r => r = nI (2 ^ L)) := by
  refine MetR.mk (by decide +kernel) (Nat.le_of_ble_eq_true rfl) ?_
  intro p e s m below meth c Q ls S hP hk hs hret hl
  have hx := S.1
  have hb := S.2.1
  have hp := p2_15 hL
  have hl : lv_has ls 1 [(0, .ref mo)] := hl
  refine lv_iconst (v := nI 1) hx hb d_Mo_side_0 (by decide) ?_
  refine lv_aload_n hx hb d_Mo_side_1 rfl (lv_at hl 0 rfl) ?_
  refine y_get S hk hP 0 rfl f_Mo_7 rfl d_Mo_side_2 ?_
  refine x_ishl hx hb d_Mo_side_5 (by omega) (by rw [Nat.one_mul]; omega) ?_
  refine x_reN (b := 2 ^ L) (Nat.one_mul _) ?_
  exact hret _ _ _ rfl (rfl) d_Mo_side_6
set_option maxHeartbeats 4000000 in
set_option maxRecDepth 100000 in
theorem c_Mo_isCurve (la : Launch) (G : gG) (x : Int32)  : MetR la y_Mo_isCurve b_Mo_isCurve 1 .boolean 0 0 [.int x] G [] (fun r => (r = 1 ∧ cuO x) ∨ (r = 0 ∧ ¬ cuO x)) := by
  refine MetR.mk (by decide +kernel) (Nat.le_of_ble_eq_true rfl) ?_
  intro p e s m below meth c Q ls S hP hk hs hret hl
  have hx := S.1
  have hb := S.2.1
  have hl : lv_has ls 1 [(0, .int x)] := hl
  refine lv_iload_n hx hb d_Mo_isCurve_0 rfl (lv_at hl 0 rfl) ?_
  refine lv_if_eq hx hb d_Mo_isCurve_1 (tgt := 9) (by decide) (fun h1 => ?_) (fun h1 => ?_)
  · refine lv_iconst (v := nI 1) hx hb d_Mo_isCurve_9 (by decide) ?_
    refine lv_goto hx hb d_Mo_isCurve_10 (tgt := 14) (by decide) ?_
    exact hret _ _ _ (by decide) (Or.inl ⟨by decide, by first | exact ⟨0, by decide, h1⟩ | exact ⟨1, by decide, h6⟩⟩) d_Mo_isCurve_14
  · refine lv_iload_n hx hb d_Mo_isCurve_4 rfl (lv_at hl 0 rfl) ?_
    refine lv_iconst (v := nI 1) hx hb d_Mo_isCurve_5 (by decide) ?_
    refine lv_icmp_ne hx hb d_Mo_isCurve_6 (tgt := 13) (by decide) (fun h6 => ?_) (fun h6 => ?_)
    · refine lv_iconst (v := nI 0) hx hb d_Mo_isCurve_13 (by decide) ?_
      exact hret _ _ _ (by decide) (Or.inr ⟨by decide, by rintro ⟨k, hk, rfl⟩; have e : k = 0 ∨ k = 1 := (by omega); rcases e with rfl | rfl; exact h1 rfl; exact h6 rfl⟩) d_Mo_isCurve_14
    · refine lv_iconst (v := nI 1) hx hb d_Mo_isCurve_9 (by decide) ?_
      refine lv_goto hx hb d_Mo_isCurve_10 (tgt := 14) (by decide) ?_
      exact hret _ _ _ (by decide) (Or.inl ⟨by decide, by first | exact ⟨0, by decide, h1⟩ | exact ⟨1, by decide, h6⟩⟩) d_Mo_isCurve_14
set_option maxHeartbeats 4000000 in
set_option maxRecDepth 100000 in
theorem c_Mo_isCell (la : Launch) (G : gG) (mo mc_ mv_ mk_ mx_ L n x0 y0 x1 y1 : Nat) (x y : Int32) (hL : L ≤ 15) : MetR la y_Mo_isCell b_Mo_isCell 3 .boolean 1 20 [.ref mo, .int x, .int y] G [(mo, .inr (4, [.int (nI L), .int (nI n), .ref mc_, .ref mv_, .int (nI x0), .int (nI y0), .int (nI x1), .int (nI y1), .ref mk_, .ref mx_]))] (fun r => (r = 1 ∧ inC L x y) ∨ (r = 0 ∧ ¬ inC L x y)) := by
  refine MetR.mk (by decide +kernel) (Nat.le_of_ble_eq_true rfl) ?_
  intro p e s m below meth c Q ls S hP hk hs hret hl
  have hx := S.1
  have hb := S.2.1
  have hp := p2_15 hL
  rcases ng x with hx0 | ⟨a, ha, rfl⟩
  · have hl : lv_has ls 3 [(0, .ref mo), (1, .int x), (2, .int y)] := hl
    refine lv_iload_n hx hb d_Mo_isCell_0 rfl (lv_at hl 1 rfl) ?_
    refine lv_if_lt hx hb d_Mo_isCell_1 (tgt := 28) (by decide) (fun _ => ?_) (fun h => absurd hx0 h)
    refine lv_iconst (v := nI 0) hx hb d_Mo_isCell_28 (by decide) ?_
    exact hret _ _ _ (by decide) (Or.inr ⟨by decide, by first | exact inC_n1 hL hx0 | exact inC_n2 hL hy0 | exact inC_g1 hL ha (by omega) | exact inC_g2 hL hb' (by omega)⟩) d_Mo_isCell_29
  · rcases ng y with hy0 | ⟨b, hb', rfl⟩
    · have hl : lv_has ls 3 [(0, .ref mo), (1, .int (nI a)), (2, .int y)] := hl
      refine lv_iload_n hx hb d_Mo_isCell_0 rfl (lv_at hl 1 rfl) ?_
      refine lv_if_lt hx hb d_Mo_isCell_1 (tgt := 28) (by decide) (fun h => absurd h (nI_pos (by omega))) (fun _ => ?_)
      refine lv_iload_n hx hb d_Mo_isCell_4 rfl (lv_at hl 2 rfl) ?_
      refine lv_if_lt hx hb d_Mo_isCell_5 (tgt := 28) (by decide) (fun _ => ?_) (fun h => absurd hy0 h)
      refine lv_iconst (v := nI 0) hx hb d_Mo_isCell_28 (by decide) ?_
      exact hret _ _ _ (by decide) (Or.inr ⟨by decide, by first | exact inC_n1 hL hx0 | exact inC_n2 hL hy0 | exact inC_g1 hL ha (by omega) | exact inC_g2 hL hb' (by omega)⟩) d_Mo_isCell_29
    · have hl : lv_has ls 3 [(0, .ref mo), (1, .int (nI a)), (2, .int (nI b))] := hl
      refine lv_iload_n hx hb d_Mo_isCell_0 rfl (lv_at hl 1 rfl) ?_
      refine lv_if_lt hx hb d_Mo_isCell_1 (tgt := 28) (by decide) (fun h => absurd h (nI_pos (by omega))) (fun _ => ?_)
      refine lv_iload_n hx hb d_Mo_isCell_4 rfl (lv_at hl 2 rfl) ?_
      refine lv_if_lt hx hb d_Mo_isCell_5 (tgt := 28) (by decide) (fun h => absurd h (nI_pos (by omega))) (fun _ => ?_)
      refine lv_iload_n hx hb d_Mo_isCell_8 rfl (lv_at hl 1 rfl) ?_
      refine lv_aload_n hx hb d_Mo_isCell_9 rfl (lv_at hl 0 rfl) ?_
      refine vp_callSi (va_Run.run (run_V S v_Mo_26 (c_Mo_side la G mo mc_ mv_ mk_ mx_ L n x0 y0 x1 y1 hL) ⟨rfl, rfl⟩ ⟨Nat.le_of_ble_eq_true rfl, Nat.le_of_ble_eq_true rfl⟩ (preR_V hP hk hs [0] rfl 0 rfl rfl) (rest := [.int (nI a)]) rfl hl.1 rfl (Nat.le_of_ble_eq_true rfl) d_Mo_isCell_10 ⟨Nat.le_refl _, Nat.le_refl _⟩)) (fun r10 hr10 => ?_)
      subst hr10
      refine x_icmp_ge hx hb d_Mo_isCell_13 (tgt := 28) (by decide) (by omega) (by omega) (fun h13 => ?_) (fun h13 => ?_)
      · refine lv_iconst (v := nI 0) hx hb d_Mo_isCell_28 (by decide) ?_
        exact hret _ _ _ (by decide) (Or.inr ⟨by decide, by first | exact inC_n1 hL hx0 | exact inC_n2 hL hy0 | exact inC_g1 hL ha (by omega) | exact inC_g2 hL hb' (by omega)⟩) d_Mo_isCell_29
      · refine lv_iload_n hx hb d_Mo_isCell_16 rfl (lv_at hl 2 rfl) ?_
        refine lv_aload_n hx hb d_Mo_isCell_17 rfl (lv_at hl 0 rfl) ?_
        refine vp_callSi (va_Run.run (run_V S v_Mo_26 (c_Mo_side la G mo mc_ mv_ mk_ mx_ L n x0 y0 x1 y1 hL) ⟨rfl, rfl⟩ ⟨Nat.le_of_ble_eq_true rfl, Nat.le_of_ble_eq_true rfl⟩ (preR_V hP hk hs [0] rfl 0 rfl rfl) (rest := [.int (nI b)]) rfl hl.1 rfl (Nat.le_of_ble_eq_true rfl) d_Mo_isCell_18 ⟨Nat.le_refl _, Nat.le_refl _⟩)) (fun r18 hr18 => ?_)
        subst hr18
        refine x_icmp_ge hx hb d_Mo_isCell_21 (tgt := 28) (by decide) (by omega) (by omega) (fun h21 => ?_) (fun h21 => ?_)
        · refine lv_iconst (v := nI 0) hx hb d_Mo_isCell_28 (by decide) ?_
          exact hret _ _ _ (by decide) (Or.inr ⟨by decide, by first | exact inC_n1 hL hx0 | exact inC_n2 hL hy0 | exact inC_g1 hL ha (by omega) | exact inC_g2 hL hb' (by omega)⟩) d_Mo_isCell_29
        · refine lv_iconst (v := nI 1) hx hb d_Mo_isCell_24 (by decide) ?_
          refine lv_goto hx hb d_Mo_isCell_25 (tgt := 29) (by decide) ?_
          exact hret _ _ _ (by decide) (Or.inl ⟨by decide, inC_nI (by omega) (by omega)⟩) d_Mo_isCell_29
set_option maxHeartbeats 4000000 in
set_option maxRecDepth 100000 in
theorem c_Mo_keyOf (la : Launch) (G : gG) (mo mc_ mv_ mk_ mx_ L n x0 y0 x1 y1 : Nat) (cu x y : Nat) (hL : L ≤ 15) (hL1 : 1 ≤ L) (hcu : cu < 2) (hx' : x < 2 ^ L) (hy' : y < 2 ^ L) : MetR la y_Mo_keyOf b_Mo_keyOf 9 .int 1 20 [.ref mo, .int (nI cu), .int (nI x), .int (nI y)] G [(mo, .inr (4, [.int (nI L), .int (nI n), .ref mc_, .ref mv_, .int (nI x0), .int (nI y0), .int (nI x1), .int (nI y1), .ref mk_, .ref mx_]))] (fun r => r = nI (kk cu L x y)) := by
  refine MetR.mk (by decide +kernel) (Nat.le_of_ble_eq_true rfl) ?_
  intro p e s m below meth c Q ls S hP hk hs hret hl
  have hx := S.1
  have hb := S.2.1
  have hp := p2_15 hL
  have e01 : cu = 0 ∨ cu = 1 := by omega
  rcases e01 with rfl | rfl
  · have hl : lv_has ls 9 [(0, .ref mo), (1, .int (nI 0)), (2, .int (nI x)), (3, .int (nI y))] := hl
    refine lv_iconst (v := nI 0) hx hb d_Mo_keyOf_0 (by decide) ?_
    refine lv_istore hx hb d_Mo_keyOf_1 hl (by decide) rfl (fun ls hl => ?_)
    have hl : lv_has ls 9 [(4, .int (nI 0)), (0, .ref mo), (1, .int (nI 0)), (2, .int (nI x)), (3, .int (nI y))] := hl
    refine lv_iload_n hx hb d_Mo_keyOf_3 rfl (lv_at hl 2 rfl) ?_
    refine lv_if_ne hx hb d_Mo_keyOf_4 (tgt := 51) (by decide) (fun h => absurd rfl h) (fun _ => ?_)
    refine lv_aload_n hx hb d_Mo_keyOf_7 rfl (lv_at hl 1 rfl) ?_
    refine y_get S hk hP 0 rfl f_Mo_7 rfl d_Mo_keyOf_8 ?_
    refine lv_iconst (v := nI 1) hx hb d_Mo_keyOf_11 (by decide) ?_
    refine x_isub hx hb d_Mo_keyOf_12 (by omega) ?_
    refine lv_istore hx hb d_Mo_keyOf_13 hl (by decide) rfl (fun ls hl => ?_)
    have hl : lv_has ls 9 [(5, .int (nI (L - 1))), (4, .int (nI 0)), (0, .ref mo), (1, .int (nI 0)), (2, .int (nI x)), (3, .int (nI y))] := hl
    rw [oI_pr (by omega)] at hl
    refine (?_ : ∀ (l k : Nat) (ls : Array Slot), l ≤ L → lv_has ls 9 [(5, .int (oI l)), (4, .int (nI k)), (0, .ref mo), (1, .int (nI 0)), (2, .int (nI x)), (3, .int (nI y))] → k * (2 ^ l * 2 ^ l) + wk l x y = wk L x y → W p la e _ s m _ below meth c s.heap [] 0 0 Q (F0 m 15 ls [])) L 0 ls (Nat.le_refl _) hl (by rw [Nat.zero_mul, Nat.zero_add])
    intro l
    induction l with
    | zero =>
      intro k ls hl' hl hg
      have hg : k * (1 * 1) + 0 = wk L x y := hg
      simp only [Nat.mul_one, Nat.add_zero] at hg
      have hl : lv_has ls 9 [(5, .int (-1)), (4, .int (nI k)), (0, .ref mo), (1, .int (nI 0)), (2, .int (nI x)), (3, .int (nI y))] := hl
      refine lv_iload hx hb d_Mo_keyOf_15 (lv_at hl 0 rfl) ?_
      refine lv_if_lt hx hb d_Mo_keyOf_17 (tgt := 48) (by decide) (fun _ => ?_) (fun h => absurd (by decide) h)
      refine lv_iload hx hb d_Mo_keyOf_48 (lv_at hl 1 rfl) ?_
      exact hret _ _ _ rfl (congrArg nI hg) d_Mo_keyOf_50
    | succ l ih =>
      intro k ls hl' hl hg
      have b3 : x / 2 ^ l ≤ x := Nat.div_le_self _ _
      have b4 : y / 2 ^ l ≤ y := Nat.div_le_self _ _
      have hl : lv_has ls 9 [(5, .int (nI l)), (4, .int (nI k)), (0, .ref mo), (1, .int (nI 0)), (2, .int (nI x)), (3, .int (nI y))] := hl
      refine lv_iload hx hb d_Mo_keyOf_15 (lv_at hl 0 rfl) ?_
      refine lv_if_lt hx hb d_Mo_keyOf_17 (tgt := 48) (by decide) (fun h => absurd h (nI_pos (by omega))) (fun _ => ?_)
      refine lv_iconst (v := nI 4) hx hb d_Mo_keyOf_20 (by decide) ?_
      refine lv_iload hx hb d_Mo_keyOf_21 (lv_at hl 1 rfl) ?_
      refine x_imul hx hb d_Mo_keyOf_23 ?_
      refine lv_iload_n hx hb d_Mo_keyOf_24 rfl (lv_at hl 4 rfl) ?_
      refine lv_iload hx hb d_Mo_keyOf_25 (lv_at hl 0 rfl) ?_
      refine x_ishr hx hb d_Mo_keyOf_27 (by omega) (by omega) ?_
      refine lv_iconst (v := nI 1) hx hb d_Mo_keyOf_28 (by decide) ?_
      refine x_iand1 hx hb d_Mo_keyOf_29 (by omega) ?_
      refine x_iadd hx hb d_Mo_keyOf_30 ?_
      refine lv_iconst (v := nI 2) hx hb d_Mo_keyOf_31 (by decide) ?_
      refine lv_iload_n hx hb d_Mo_keyOf_32 rfl (lv_at hl 5 rfl) ?_
      refine lv_iload hx hb d_Mo_keyOf_33 (lv_at hl 0 rfl) ?_
      refine x_ishr hx hb d_Mo_keyOf_35 (by omega) (by omega) ?_
      refine lv_iconst (v := nI 1) hx hb d_Mo_keyOf_36 (by decide) ?_
      refine x_iand1 hx hb d_Mo_keyOf_37 (by omega) ?_
      refine x_imul hx hb d_Mo_keyOf_38 ?_
      refine x_iadd hx hb d_Mo_keyOf_39 ?_
      refine lv_istore hx hb d_Mo_keyOf_40 hl (by decide) rfl (fun ls hl => ?_)
      have hl : lv_has ls 9 [(4, .int (nI (((4 * k) + ((x / 2 ^ l) % 2)) + (2 * ((y / 2 ^ l) % 2))))), (5, .int (nI l)), (0, .ref mo), (1, .int (nI 0)), (2, .int (nI x)), (3, .int (nI y))] := hl
      refine lv_iinc (v := oI l) hx hb d_Mo_keyOf_42 hl (k := 1) rfl (ii_m _) (by decide) rfl (fun ls hl => ?_)
      have hl : lv_has ls 9 [(5, .int (oI l)), (4, .int (nI (((4 * k) + ((x / 2 ^ l) % 2)) + (2 * ((y / 2 ^ l) % 2))))), (0, .ref mo), (1, .int (nI 0)), (2, .int (nI x)), (3, .int (nI y))] := hl
      refine lv_goto hx hb d_Mo_keyOf_45 (tgt := 15) (by decide) ?_
      have hl := lv_sub hl [0, 1, 2, 3, 4, 5] rfl
      exact ih _ _ (by omega) hl ((wk_step l k x y).trans hg)
  · have hl : lv_has ls 9 [(0, .ref mo), (1, .int (nI 1)), (2, .int (nI x)), (3, .int (nI y))] := hl
    refine lv_iconst (v := nI 0) hx hb d_Mo_keyOf_0 (by decide) ?_
    refine lv_istore hx hb d_Mo_keyOf_1 hl (by decide) rfl (fun ls hl => ?_)
    have hl : lv_has ls 9 [(4, .int (nI 0)), (0, .ref mo), (1, .int (nI 1)), (2, .int (nI x)), (3, .int (nI y))] := hl
    refine lv_iload_n hx hb d_Mo_keyOf_3 rfl (lv_at hl 2 rfl) ?_
    refine lv_if_ne hx hb d_Mo_keyOf_4 (tgt := 51) (by decide) (fun _ => ?_) (fun h => absurd h (by decide))
    refine lv_iload_n hx hb d_Mo_keyOf_51 rfl (lv_at hl 3 rfl) ?_
    refine lv_istore hx hb d_Mo_keyOf_52 hl (by decide) rfl (fun ls hl => ?_)
    have hl : lv_has ls 9 [(5, .int (nI x)), (4, .int (nI 0)), (0, .ref mo), (1, .int (nI 1)), (2, .int (nI x)), (3, .int (nI y))] := hl
    refine lv_iload_n hx hb d_Mo_keyOf_54 rfl (lv_at hl 5 rfl) ?_
    refine lv_istore hx hb d_Mo_keyOf_55 hl (by decide) rfl (fun ls hl => ?_)
    have hl : lv_has ls 9 [(6, .int (nI y)), (5, .int (nI x)), (4, .int (nI 0)), (0, .ref mo), (1, .int (nI 1)), (2, .int (nI x)), (3, .int (nI y))] := hl
    refine lv_aload_n hx hb d_Mo_keyOf_57 rfl (lv_at hl 3 rfl) ?_
    refine vp_callSi (va_Run.run (run_V S v_Mo_26 (c_Mo_side la G mo mc_ mv_ mk_ mx_ L n x0 y0 x1 y1 hL) ⟨rfl, rfl⟩ ⟨Nat.le_of_ble_eq_true rfl, Nat.le_of_ble_eq_true rfl⟩ (preR_V hP hk hs [0] rfl 0 rfl rfl) (rest := []) rfl hl.1 rfl (Nat.le_of_ble_eq_true rfl) d_Mo_keyOf_58 ⟨Nat.le_refl _, Nat.le_refl _⟩)) (fun r1 hr1 => ?_)
    subst hr1
    refine lv_iconst (v := nI 2) hx hb d_Mo_keyOf_61 (by decide) ?_
    refine x_idiv hx hb d_Mo_keyOf_62 (by omega) (by omega) (by omega) ?_
    refine lv_istore hx hb d_Mo_keyOf_63 hl (by decide) rfl (fun ls hl => ?_)
    have hl : lv_has ls 9 [(7, .int (nI ((2 ^ L) / 2))), (6, .int (nI y)), (5, .int (nI x)), (4, .int (nI 0)), (0, .ref mo), (1, .int (nI 1)), (2, .int (nI x)), (3, .int (nI y))] := hl
    have hl := lv_sub hl [0, 1, 2, 3, 4, 5, 6, 7] rfl
    refine (?_ : ∀ (l k a b : Nat) (ls : Array Slot), l ≤ L → a < 2 ^ l → b < 2 ^ l → lv_has ls 9 [(7, .int (nI (2 ^ l / 2))), (6, .int (nI b)), (5, .int (nI a)), (4, .int (nI k)), (0, .ref mo), (1, .int (nI 1)), (2, .int (nI x)), (3, .int (nI y))] → k + hkf l a b = hkf L x y → W p la e _ s m _ below meth c s.heap [] 0 0 Q (F0 m 65 ls [])) L 0 x y ls (Nat.le_refl _) hx' hy' hl (Nat.zero_add _)
    intro l
    induction l with
    | zero =>
      intro k a b ls hl' ha hb' hl hg
      have hg : k + 0 = hkf L x y := hg
      have hl : lv_has ls 9 [(7, .int (nI 0)), (6, .int (nI b)), (5, .int (nI a)), (4, .int (nI k)), (0, .ref mo), (1, .int (nI 1)), (2, .int (nI x)), (3, .int (nI y))] := hl
      refine lv_iload hx hb d_Mo_keyOf_65 (lv_at hl 0 rfl) ?_
      refine lv_if_le hx hb d_Mo_keyOf_67 (tgt := 203) (by decide) (fun _ => ?_) (fun h => absurd (by decide) h)
      refine lv_iload hx hb d_Mo_keyOf_203 (lv_at hl 3 rfl) ?_
      exact hret _ _ _ rfl (congrArg nI hg) d_Mo_keyOf_205
    | succ l ih =>
      intro k a b ls hl' ha hb' hl hg
      have h2s := p2_s l
      have hpl := Nat.two_pow_pos l
      have hle : 2 ^ l ≤ 2 ^ L := Nat.pow_le_pow_right (by omega) (by omega)
      rw [half_s] at hl
      have hl : lv_has ls 9 [(7, .int (nI (2 ^ l))), (6, .int (nI b)), (5, .int (nI a)), (4, .int (nI k)), (0, .ref mo), (1, .int (nI 1)), (2, .int (nI x)), (3, .int (nI y))] := hl
      refine lv_iload hx hb d_Mo_keyOf_65 (lv_at hl 0 rfl) ?_
      refine x_if_le hx hb d_Mo_keyOf_67 (tgt := 203) (by decide) (by omega) (fun h67 => ?_) (fun h67 => ?_)
      · exact absurd h67 (by omega)
      · refine lv_iload hx hb d_Mo_keyOf_70 (lv_at hl 2 rfl) ?_
        refine lv_istore hx hb d_Mo_keyOf_72 hl (by decide) rfl (fun ls hl => ?_)
        have hl : lv_has ls 9 [(8, .int (nI a)), (7, .int (nI (2 ^ l))), (6, .int (nI b)), (5, .int (nI a)), (4, .int (nI k)), (0, .ref mo), (1, .int (nI 1)), (2, .int (nI x)), (3, .int (nI y))] := hl
        refine lv_iload hx hb d_Mo_keyOf_74 (lv_at hl 3 rfl) ?_
        refine lv_iload hx hb d_Mo_keyOf_76 (lv_at hl 1 rfl) ?_
        refine x_icmp_ge hx hb d_Mo_keyOf_78 (tgt := 99) (by decide) (by omega) (by omega) (fun h78 => ?_) (fun h78 => ?_)
        · refine lv_iload hx hb d_Mo_keyOf_99 (lv_at hl 3 rfl) ?_
          refine lv_iload hx hb d_Mo_keyOf_101 (lv_at hl 1 rfl) ?_
          refine x_icmp_ge hx hb d_Mo_keyOf_103 (tgt := 126) (by decide) (by omega) (by omega) (fun h103 => ?_) (fun h103 => ?_)
          · refine lv_iload hx hb d_Mo_keyOf_126 (lv_at hl 2 rfl) ?_
            refine lv_iload hx hb d_Mo_keyOf_128 (lv_at hl 1 rfl) ?_
            refine x_icmp_lt hx hb d_Mo_keyOf_130 (tgt := 162) (by decide) (by omega) (by omega) (fun h130 => ?_) (fun h130 => ?_)
            · refine lv_iload hx hb d_Mo_keyOf_162 (lv_at hl 4 rfl) ?_
              refine lv_iconst (v := nI 3) hx hb d_Mo_keyOf_164 (by decide) ?_
              refine lv_iload hx hb d_Mo_keyOf_165 (lv_at hl 1 rfl) ?_
              refine x_imul hx hb d_Mo_keyOf_167 ?_
              refine lv_iload hx hb d_Mo_keyOf_168 (lv_at hl 1 rfl) ?_
              refine x_imul hx hb d_Mo_keyOf_170 ?_
              refine x_iadd hx hb d_Mo_keyOf_171 ?_
              refine lv_istore hx hb d_Mo_keyOf_172 hl (by decide) rfl (fun ls hl => ?_)
              have hl : lv_has ls 9 [(4, .int (nI (k + ((3 * (2 ^ l)) * (2 ^ l))))), (8, .int (nI a)), (7, .int (nI (2 ^ l))), (6, .int (nI b)), (5, .int (nI a)), (0, .ref mo), (1, .int (nI 1)), (2, .int (nI x)), (3, .int (nI y))] := hl
              refine lv_iload hx hb d_Mo_keyOf_174 (lv_at hl 2 rfl) ?_
              refine lv_iconst (v := nI 1) hx hb d_Mo_keyOf_176 (by decide) ?_
              refine x_isub hx hb d_Mo_keyOf_177 (by omega) ?_
              refine lv_iload hx hb d_Mo_keyOf_178 (lv_at hl 3 rfl) ?_
              refine x_isub hx hb d_Mo_keyOf_180 (by omega) ?_
              refine lv_istore hx hb d_Mo_keyOf_181 hl (by decide) rfl (fun ls hl => ?_)
              have hl : lv_has ls 9 [(5, .int (nI (((2 ^ l) - 1) - b))), (4, .int (nI (k + ((3 * (2 ^ l)) * (2 ^ l))))), (8, .int (nI a)), (7, .int (nI (2 ^ l))), (6, .int (nI b)), (0, .ref mo), (1, .int (nI 1)), (2, .int (nI x)), (3, .int (nI y))] := hl
              refine lv_iconst (v := nI 2) hx hb d_Mo_keyOf_183 (by decide) ?_
              refine lv_iload hx hb d_Mo_keyOf_184 (lv_at hl 3 rfl) ?_
              refine x_imul hx hb d_Mo_keyOf_186 ?_
              refine lv_iconst (v := nI 1) hx hb d_Mo_keyOf_187 (by decide) ?_
              refine x_isub hx hb d_Mo_keyOf_188 (by omega) ?_
              refine lv_iload hx hb d_Mo_keyOf_189 (lv_at hl 2 rfl) ?_
              refine x_isub hx hb d_Mo_keyOf_191 (by omega) ?_
              refine lv_istore hx hb d_Mo_keyOf_192 hl (by decide) rfl (fun ls hl => ?_)
              have hl : lv_has ls 9 [(6, .int (nI (((2 * (2 ^ l)) - 1) - a))), (5, .int (nI (((2 ^ l) - 1) - b))), (4, .int (nI (k + ((3 * (2 ^ l)) * (2 ^ l))))), (8, .int (nI a)), (7, .int (nI (2 ^ l))), (0, .ref mo), (1, .int (nI 1)), (2, .int (nI x)), (3, .int (nI y))] := hl
              refine lv_iload hx hb d_Mo_keyOf_194 (lv_at hl 4 rfl) ?_
              refine lv_iconst (v := nI 2) hx hb d_Mo_keyOf_196 (by decide) ?_
              refine x_idiv hx hb d_Mo_keyOf_197 (by omega) (by omega) (by omega) ?_
              refine lv_istore hx hb d_Mo_keyOf_198 hl (by decide) rfl (fun ls hl => ?_)
              have hl : lv_has ls 9 [(7, .int (nI ((2 ^ l) / 2))), (6, .int (nI (((2 * (2 ^ l)) - 1) - a))), (5, .int (nI (((2 ^ l) - 1) - b))), (4, .int (nI (k + ((3 * (2 ^ l)) * (2 ^ l))))), (8, .int (nI a)), (0, .ref mo), (1, .int (nI 1)), (2, .int (nI x)), (3, .int (nI y))] := hl
              refine lv_goto hx hb d_Mo_keyOf_200 (tgt := 65) (by decide) ?_
              have hl := lv_sub hl [0, 1, 2, 3, 5, 6, 7, 8] rfl
              exact ih _ _ _ _ (by omega) (by omega) (by omega) hl (by rw [hkf_10 h103 h130, ← Nat.add_assoc, ← Nat.mul_assoc] at hg; exact hg)
            · refine lv_iload hx hb d_Mo_keyOf_133 (lv_at hl 4 rfl) ?_
              refine lv_iconst (v := nI 2) hx hb d_Mo_keyOf_135 (by decide) ?_
              refine lv_iload hx hb d_Mo_keyOf_136 (lv_at hl 1 rfl) ?_
              refine x_imul hx hb d_Mo_keyOf_138 ?_
              refine lv_iload hx hb d_Mo_keyOf_139 (lv_at hl 1 rfl) ?_
              refine x_imul hx hb d_Mo_keyOf_141 ?_
              refine x_iadd hx hb d_Mo_keyOf_142 ?_
              refine lv_istore hx hb d_Mo_keyOf_143 hl (by decide) rfl (fun ls hl => ?_)
              have hl : lv_has ls 9 [(4, .int (nI (k + ((2 * (2 ^ l)) * (2 ^ l))))), (8, .int (nI a)), (7, .int (nI (2 ^ l))), (6, .int (nI b)), (5, .int (nI a)), (0, .ref mo), (1, .int (nI 1)), (2, .int (nI x)), (3, .int (nI y))] := hl
              refine lv_iload hx hb d_Mo_keyOf_145 (lv_at hl 4 rfl) ?_
              refine lv_iload hx hb d_Mo_keyOf_147 (lv_at hl 2 rfl) ?_
              refine x_isub hx hb d_Mo_keyOf_149 (by omega) ?_
              refine lv_istore hx hb d_Mo_keyOf_150 hl (by decide) rfl (fun ls hl => ?_)
              have hl : lv_has ls 9 [(5, .int (nI (a - (2 ^ l)))), (4, .int (nI (k + ((2 * (2 ^ l)) * (2 ^ l))))), (8, .int (nI a)), (7, .int (nI (2 ^ l))), (6, .int (nI b)), (0, .ref mo), (1, .int (nI 1)), (2, .int (nI x)), (3, .int (nI y))] := hl
              refine lv_iload hx hb d_Mo_keyOf_152 (lv_at hl 4 rfl) ?_
              refine lv_iload hx hb d_Mo_keyOf_154 (lv_at hl 3 rfl) ?_
              refine x_isub hx hb d_Mo_keyOf_156 (by omega) ?_
              refine lv_istore hx hb d_Mo_keyOf_157 hl (by decide) rfl (fun ls hl => ?_)
              have hl : lv_has ls 9 [(6, .int (nI (b - (2 ^ l)))), (5, .int (nI (a - (2 ^ l)))), (4, .int (nI (k + ((2 * (2 ^ l)) * (2 ^ l))))), (8, .int (nI a)), (7, .int (nI (2 ^ l))), (0, .ref mo), (1, .int (nI 1)), (2, .int (nI x)), (3, .int (nI y))] := hl
              refine lv_goto hx hb d_Mo_keyOf_159 (tgt := 194) (by decide) ?_
              refine lv_iload hx hb d_Mo_keyOf_194 (lv_at hl 4 rfl) ?_
              refine lv_iconst (v := nI 2) hx hb d_Mo_keyOf_196 (by decide) ?_
              refine x_idiv hx hb d_Mo_keyOf_197 (by omega) (by omega) (by omega) ?_
              refine lv_istore hx hb d_Mo_keyOf_198 hl (by decide) rfl (fun ls hl => ?_)
              have hl : lv_has ls 9 [(7, .int (nI ((2 ^ l) / 2))), (6, .int (nI (b - (2 ^ l)))), (5, .int (nI (a - (2 ^ l)))), (4, .int (nI (k + ((2 * (2 ^ l)) * (2 ^ l))))), (8, .int (nI a)), (0, .ref mo), (1, .int (nI 1)), (2, .int (nI x)), (3, .int (nI y))] := hl
              refine lv_goto hx hb d_Mo_keyOf_200 (tgt := 65) (by decide) ?_
              have hl := lv_sub hl [0, 1, 2, 3, 5, 6, 7, 8] rfl
              exact ih _ _ _ _ (by omega) (by omega) (by omega) hl (by rw [hkf_11 h103 h130, ← Nat.add_assoc, ← Nat.mul_assoc] at hg; exact hg)
          · exact absurd h103 (by omega)
        · refine lv_iload hx hb d_Mo_keyOf_81 (lv_at hl 2 rfl) ?_
          refine lv_iload hx hb d_Mo_keyOf_83 (lv_at hl 1 rfl) ?_
          refine x_icmp_ge hx hb d_Mo_keyOf_85 (tgt := 99) (by decide) (by omega) (by omega) (fun h85 => ?_) (fun h85 => ?_)
          · refine lv_iload hx hb d_Mo_keyOf_99 (lv_at hl 3 rfl) ?_
            refine lv_iload hx hb d_Mo_keyOf_101 (lv_at hl 1 rfl) ?_
            refine x_icmp_ge hx hb d_Mo_keyOf_103 (tgt := 126) (by decide) (by omega) (by omega) (fun h103 => ?_) (fun h103 => ?_)
            · exact absurd h103 (by omega)
            · refine lv_iload hx hb d_Mo_keyOf_106 (lv_at hl 4 rfl) ?_
              refine lv_iload hx hb d_Mo_keyOf_108 (lv_at hl 1 rfl) ?_
              refine lv_iload hx hb d_Mo_keyOf_110 (lv_at hl 1 rfl) ?_
              refine x_imul hx hb d_Mo_keyOf_112 ?_
              refine x_iadd hx hb d_Mo_keyOf_113 ?_
              refine lv_istore hx hb d_Mo_keyOf_114 hl (by decide) rfl (fun ls hl => ?_)
              have hl : lv_has ls 9 [(4, .int (nI (k + ((2 ^ l) * (2 ^ l))))), (8, .int (nI a)), (7, .int (nI (2 ^ l))), (6, .int (nI b)), (5, .int (nI a)), (0, .ref mo), (1, .int (nI 1)), (2, .int (nI x)), (3, .int (nI y))] := hl
              refine lv_iload hx hb d_Mo_keyOf_116 (lv_at hl 3 rfl) ?_
              refine lv_iload hx hb d_Mo_keyOf_118 (lv_at hl 2 rfl) ?_
              refine x_isub hx hb d_Mo_keyOf_120 (by omega) ?_
              refine lv_istore hx hb d_Mo_keyOf_121 hl (by decide) rfl (fun ls hl => ?_)
              have hl : lv_has ls 9 [(6, .int (nI (b - (2 ^ l)))), (4, .int (nI (k + ((2 ^ l) * (2 ^ l))))), (8, .int (nI a)), (7, .int (nI (2 ^ l))), (5, .int (nI a)), (0, .ref mo), (1, .int (nI 1)), (2, .int (nI x)), (3, .int (nI y))] := hl
              refine lv_goto hx hb d_Mo_keyOf_123 (tgt := 194) (by decide) ?_
              refine lv_iload hx hb d_Mo_keyOf_194 (lv_at hl 3 rfl) ?_
              refine lv_iconst (v := nI 2) hx hb d_Mo_keyOf_196 (by decide) ?_
              refine x_idiv hx hb d_Mo_keyOf_197 (by omega) (by omega) (by omega) ?_
              refine lv_istore hx hb d_Mo_keyOf_198 hl (by decide) rfl (fun ls hl => ?_)
              have hl : lv_has ls 9 [(7, .int (nI ((2 ^ l) / 2))), (6, .int (nI (b - (2 ^ l)))), (4, .int (nI (k + ((2 ^ l) * (2 ^ l))))), (8, .int (nI a)), (5, .int (nI a)), (0, .ref mo), (1, .int (nI 1)), (2, .int (nI x)), (3, .int (nI y))] := hl
              refine lv_goto hx hb d_Mo_keyOf_200 (tgt := 65) (by decide) ?_
              have hl := lv_sub hl [0, 1, 4, 2, 5, 6, 7, 8] rfl
              exact ih _ _ _ _ (by omega) (by omega) (by omega) hl (by rw [hkf_01 h103 h85, ← Nat.add_assoc] at hg; exact hg)
          · refine lv_iload hx hb d_Mo_keyOf_88 (lv_at hl 2 rfl) ?_
            refine lv_istore hx hb d_Mo_keyOf_90 hl (by decide) rfl (fun ls hl => ?_)
            have hl : lv_has ls 9 [(5, .int (nI b)), (8, .int (nI a)), (7, .int (nI (2 ^ l))), (6, .int (nI b)), (4, .int (nI k)), (0, .ref mo), (1, .int (nI 1)), (2, .int (nI x)), (3, .int (nI y))] := hl
            refine lv_iload hx hb d_Mo_keyOf_92 (lv_at hl 1 rfl) ?_
            refine lv_istore hx hb d_Mo_keyOf_94 hl (by decide) rfl (fun ls hl => ?_)
            have hl : lv_has ls 9 [(6, .int (nI a)), (5, .int (nI b)), (8, .int (nI a)), (7, .int (nI (2 ^ l))), (4, .int (nI k)), (0, .ref mo), (1, .int (nI 1)), (2, .int (nI x)), (3, .int (nI y))] := hl
            refine lv_goto hx hb d_Mo_keyOf_96 (tgt := 194) (by decide) ?_
            refine lv_iload hx hb d_Mo_keyOf_194 (lv_at hl 3 rfl) ?_
            refine lv_iconst (v := nI 2) hx hb d_Mo_keyOf_196 (by decide) ?_
            refine x_idiv hx hb d_Mo_keyOf_197 (by omega) (by omega) (by omega) ?_
            refine lv_istore hx hb d_Mo_keyOf_198 hl (by decide) rfl (fun ls hl => ?_)
            have hl : lv_has ls 9 [(7, .int (nI ((2 ^ l) / 2))), (6, .int (nI a)), (5, .int (nI b)), (8, .int (nI a)), (4, .int (nI k)), (0, .ref mo), (1, .int (nI 1)), (2, .int (nI x)), (3, .int (nI y))] := hl
            refine lv_goto hx hb d_Mo_keyOf_200 (tgt := 65) (by decide) ?_
            have hl := lv_sub hl [0, 1, 2, 4, 5, 6, 7, 8] rfl
            exact ih _ _ _ _ (by omega) (by omega) (by omega) hl (by rw [hkf_00 h78 h85] at hg; exact hg)
set_option maxHeartbeats 4000000 in
set_option maxRecDepth 100000 in
theorem c_Mo_cellOf (la : Launch) (G : gG) (mo mc_ mv_ mk_ mx_ L n x0 y0 x1 y1 : Nat) (cu k : Nat) (hL : L ≤ 15) (hcu : cu < 2) (hk' : k < 2 ^ L * 2 ^ L) : MetR la y_Mo_cellOf b_Mo_cellOf 9 .int 1 20 [.ref mo, .int (nI cu), .int (nI k)] G [(mo, .inr (4, [.int (nI L), .int (nI n), .ref mc_, .ref mv_, .int (nI x0), .int (nI y0), .int (nI x1), .int (nI y1), .ref mk_, .ref mx_]))] (fun r => r = nI ((kc cu L k).1 * 2 ^ L + (kc cu L k).2)) := by
  refine MetR.mk (by decide +kernel) (Nat.le_of_ble_eq_true rfl) ?_
  intro p e s m below meth c Q ls S hP hk hs hret hl
  have hx := S.1
  have hb := S.2.1
  have hp := p2_15 hL
  have hp4 := p4_15 hL
  have e01 : cu = 0 ∨ cu = 1 := by omega
  rcases e01 with rfl | rfl
  · have hl : lv_has ls 9 [(0, .ref mo), (1, .int (nI 0)), (2, .int (nI k))] := hl
    refine lv_iconst (v := nI 0) hx hb d_Mo_cellOf_0 (by decide) ?_
    refine lv_istore_n hx hb d_Mo_cellOf_1 rfl hl (by decide) rfl (fun ls hl => ?_)
    have hl : lv_has ls 9 [(3, .int (nI 0)), (0, .ref mo), (1, .int (nI 0)), (2, .int (nI k))] := hl
    refine lv_iconst (v := nI 0) hx hb d_Mo_cellOf_2 (by decide) ?_
    refine lv_istore hx hb d_Mo_cellOf_3 hl (by decide) rfl (fun ls hl => ?_)
    have hl : lv_has ls 9 [(4, .int (nI 0)), (3, .int (nI 0)), (0, .ref mo), (1, .int (nI 0)), (2, .int (nI k))] := hl
    refine lv_iconst (v := nI 0) hx hb d_Mo_cellOf_5 (by decide) ?_
    refine lv_istore hx hb d_Mo_cellOf_6 hl (by decide) rfl (fun ls hl => ?_)
    have hl : lv_has ls 9 [(5, .int (nI 0)), (4, .int (nI 0)), (3, .int (nI 0)), (0, .ref mo), (1, .int (nI 0)), (2, .int (nI k))] := hl
    have hl := lv_sub hl [0, 1, 2, 3, 4, 5] rfl
    refine (?_ : ∀ (d : Nat) (i : Nat) (x : Nat) (y : Nat) (ls : Array Slot), L - i < d → lv_has ls 9 [(5, .int (nI i)), (4, .int (nI y)), (3, .int (nI x)), (0, .ref mo), (1, .int (nI 0)), (2, .int (nI k))] → (i ≤ L) → ((x, y) = wcx i k) → W p la e _ s m _ below meth c s.heap [] 0 0 Q (F0 m 8 ls [])) (L - 0 + 1) 0 0 0 ls (Nat.lt_succ_self _) hl (Nat.zero_le _) (rfl)
    intro d
    induction d with
    | zero => intro i x y ls hd; exact absurd hd (Nat.not_lt_zero _)
    | succ d ih =>
      intro i x y ls hd hl hi hg
      have hlt := wcx_lt i k
      rw [← hg] at hlt
      dsimp only at hlt
      have hpi := Nat.two_pow_pos i
      have hpl : 2 ^ i ≤ 2 ^ L := Nat.pow_le_pow_right (by omega) hi
      have e22 := p22 i
      have b3 : k / 2 ^ (2 * i) ≤ k := Nat.div_le_self _ _
      refine lv_iload hx hb d_Mo_cellOf_8 (lv_at hl 0 rfl) ?_
      refine lv_aload_n hx hb d_Mo_cellOf_10 rfl (lv_at hl 3 rfl) ?_
      refine y_get S hk hP 0 rfl f_Mo_7 rfl d_Mo_cellOf_11 ?_
      refine x_icmp_ge hx hb d_Mo_cellOf_14 (tgt := 142) (by decide) (by omega) (by omega) (fun h14 => ?_) (fun h14 => ?_)
      · refine lv_iload_n hx hb d_Mo_cellOf_142 rfl (lv_at hl 2 rfl) ?_
        refine lv_aload_n hx hb d_Mo_cellOf_143 rfl (lv_at hl 3 rfl) ?_
        refine vp_callSi (va_Run.run (run_V S v_Mo_26 (c_Mo_side la G mo mc_ mv_ mk_ mx_ L n x0 y0 x1 y1 hL) ⟨rfl, rfl⟩ ⟨Nat.le_of_ble_eq_true rfl, Nat.le_of_ble_eq_true rfl⟩ (preR_V hP hk hs [0] rfl 0 rfl rfl) (rest := [.int (nI x)]) rfl hl.1 rfl (Nat.le_of_ble_eq_true rfl) d_Mo_cellOf_144 ⟨Nat.le_refl _, Nat.le_refl _⟩)) (fun r1 hr1 => ?_)
        subst hr1
        refine x_imul hx hb d_Mo_cellOf_147 ?_
        refine lv_iload hx hb d_Mo_cellOf_148 (lv_at hl 1 rfl) ?_
        refine x_iadd hx hb d_Mo_cellOf_150 ?_
        exact hret _ _ _ rfl (by have e : (x, y) = kc 0 L k := (by rw [show L = i by omega]; exact hg); rw [← e]) d_Mo_cellOf_151
      · refine lv_iconst (v := nI 1) hx hb d_Mo_cellOf_17 (by decide) ?_
        refine lv_iload hx hb d_Mo_cellOf_18 (lv_at hl 0 rfl) ?_
        refine x_ishl hx hb d_Mo_cellOf_20 (by omega) (by rw [Nat.one_mul]; omega) ?_
        refine x_reN (b := 2 ^ i) (Nat.one_mul _) ?_
        refine lv_istore hx hb d_Mo_cellOf_21 hl (by decide) rfl (fun ls hl => ?_)
        have hl : lv_has ls 9 [(6, .int (nI (2 ^ i))), (5, .int (nI i)), (4, .int (nI y)), (3, .int (nI x)), (0, .ref mo), (1, .int (nI 0)), (2, .int (nI k))] := hl
        refine lv_iload_n hx hb d_Mo_cellOf_23 rfl (lv_at hl 6 rfl) ?_
        refine lv_iconst (v := nI 2) hx hb d_Mo_cellOf_24 (by decide) ?_
        refine lv_iload hx hb d_Mo_cellOf_25 (lv_at hl 1 rfl) ?_
        refine x_imul hx hb d_Mo_cellOf_27 ?_
        refine x_ishr hx hb d_Mo_cellOf_28 (by omega) (by omega) ?_
        refine lv_iconst (v := nI 3) hx hb d_Mo_cellOf_29 (by decide) ?_
        refine x_iand3 hx hb d_Mo_cellOf_30 (by omega) ?_
        refine lv_istore hx hb d_Mo_cellOf_31 hl (by decide) rfl (fun ls hl => ?_)
        have hl : lv_has ls 9 [(7, .int (nI ((k / 2 ^ (2 * i)) % 4))), (6, .int (nI (2 ^ i))), (5, .int (nI i)), (4, .int (nI y)), (3, .int (nI x)), (0, .ref mo), (1, .int (nI 0)), (2, .int (nI k))] := hl
        refine lv_iload_n hx hb d_Mo_cellOf_33 rfl (lv_at hl 6 rfl) ?_
        refine lv_if_ne hx hb d_Mo_cellOf_34 (tgt := 62) (by decide) (fun h => absurd rfl h) (fun _ => ?_)
        refine lv_iload_n hx hb d_Mo_cellOf_37 rfl (lv_at hl 4 rfl) ?_
        refine lv_iload hx hb d_Mo_cellOf_38 (lv_at hl 1 rfl) ?_
        refine lv_iload hx hb d_Mo_cellOf_40 (lv_at hl 0 rfl) ?_
        refine lv_iconst (v := nI 1) hx hb d_Mo_cellOf_42 (by decide) ?_
        refine x_iand1 hx hb d_Mo_cellOf_43 (by omega) ?_
        refine x_imul hx hb d_Mo_cellOf_44 ?_
        refine x_iadd hx hb d_Mo_cellOf_45 ?_
        refine lv_istore_n hx hb d_Mo_cellOf_46 rfl hl (by decide) rfl (fun ls hl => ?_)
        have hl : lv_has ls 9 [(3, .int (nI (x + ((2 ^ i) * (((k / 2 ^ (2 * i)) % 4) % 2))))), (7, .int (nI ((k / 2 ^ (2 * i)) % 4))), (6, .int (nI (2 ^ i))), (5, .int (nI i)), (4, .int (nI y)), (0, .ref mo), (1, .int (nI 0)), (2, .int (nI k))] := hl
        refine lv_iload hx hb d_Mo_cellOf_47 (lv_at hl 4 rfl) ?_
        refine lv_iload hx hb d_Mo_cellOf_49 (lv_at hl 2 rfl) ?_
        refine lv_iload hx hb d_Mo_cellOf_51 (lv_at hl 1 rfl) ?_
        refine lv_iconst (v := nI 1) hx hb d_Mo_cellOf_53 (by decide) ?_
        refine x_ishr hx hb d_Mo_cellOf_54 (by omega) (by omega) ?_
        refine x_imul hx hb d_Mo_cellOf_55 ?_
        refine x_iadd hx hb d_Mo_cellOf_56 ?_
        refine lv_istore hx hb d_Mo_cellOf_57 hl (by decide) rfl (fun ls hl => ?_)
        have hl : lv_has ls 9 [(4, .int (nI (y + ((2 ^ i) * (((k / 2 ^ (2 * i)) % 4) / 2 ^ 1))))), (3, .int (nI (x + ((2 ^ i) * (((k / 2 ^ (2 * i)) % 4) % 2))))), (7, .int (nI ((k / 2 ^ (2 * i)) % 4))), (6, .int (nI (2 ^ i))), (5, .int (nI i)), (0, .ref mo), (1, .int (nI 0)), (2, .int (nI k))] := hl
        refine lv_goto hx hb d_Mo_cellOf_59 (tgt := 136) (by decide) ?_
        refine lv_iinc (v := nI (i + 1)) hx hb d_Mo_cellOf_136 hl (k := 4) rfl (ii_p _ 1) (by decide) rfl (fun ls hl => ?_)
        have hl : lv_has ls 9 [(5, .int (nI (i + 1))), (4, .int (nI (y + ((2 ^ i) * (((k / 2 ^ (2 * i)) % 4) / 2 ^ 1))))), (3, .int (nI (x + ((2 ^ i) * (((k / 2 ^ (2 * i)) % 4) % 2))))), (7, .int (nI ((k / 2 ^ (2 * i)) % 4))), (6, .int (nI (2 ^ i))), (0, .ref mo), (1, .int (nI 0)), (2, .int (nI k))] := hl
        refine lv_goto hx hb d_Mo_cellOf_139 (tgt := 8) (by decide) ?_
        have hl := lv_sub hl [0, 1, 2, 5, 6, 7] rfl
        exact ih (i + 1) _ _ _ (by omega) hl (by omega) (by show _ = ((wcx i k).1 + 2 ^ i * (k / (2 ^ i * 2 ^ i) % 4 % 2), (wcx i k).2 + 2 ^ i * (k / (2 ^ i * 2 ^ i) % 4 / 2)); rw [← hg, e22, Nat.pow_one])
  · have hl : lv_has ls 9 [(0, .ref mo), (1, .int (nI 1)), (2, .int (nI k))] := hl
    refine lv_iconst (v := nI 0) hx hb d_Mo_cellOf_0 (by decide) ?_
    refine lv_istore_n hx hb d_Mo_cellOf_1 rfl hl (by decide) rfl (fun ls hl => ?_)
    have hl : lv_has ls 9 [(3, .int (nI 0)), (0, .ref mo), (1, .int (nI 1)), (2, .int (nI k))] := hl
    refine lv_iconst (v := nI 0) hx hb d_Mo_cellOf_2 (by decide) ?_
    refine lv_istore hx hb d_Mo_cellOf_3 hl (by decide) rfl (fun ls hl => ?_)
    have hl : lv_has ls 9 [(4, .int (nI 0)), (3, .int (nI 0)), (0, .ref mo), (1, .int (nI 1)), (2, .int (nI k))] := hl
    refine lv_iconst (v := nI 0) hx hb d_Mo_cellOf_5 (by decide) ?_
    refine lv_istore hx hb d_Mo_cellOf_6 hl (by decide) rfl (fun ls hl => ?_)
    have hl : lv_has ls 9 [(5, .int (nI 0)), (4, .int (nI 0)), (3, .int (nI 0)), (0, .ref mo), (1, .int (nI 1)), (2, .int (nI k))] := hl
    have hl := lv_sub hl [0, 1, 2, 3, 4, 5] rfl
    refine (?_ : ∀ (d : Nat) (i : Nat) (x : Nat) (y : Nat) (ls : Array Slot), L - i < d → lv_has ls 9 [(5, .int (nI i)), (4, .int (nI y)), (3, .int (nI x)), (0, .ref mo), (1, .int (nI 1)), (2, .int (nI k))] → (i ≤ L) → ((x, y) = hcx i k) → W p la e _ s m _ below meth c s.heap [] 0 0 Q (F0 m 8 ls [])) (L - 0 + 1) 0 0 0 ls (Nat.lt_succ_self _) hl (Nat.zero_le _) (rfl)
    intro d
    induction d with
    | zero => intro i x y ls hd; exact absurd hd (Nat.not_lt_zero _)
    | succ d ih =>
      intro i x y ls hd hl hi hg
      have hlt := hcx_lt i k
      rw [← hg] at hlt
      dsimp only at hlt
      have hpi := Nat.two_pow_pos i
      have hpl : 2 ^ i ≤ 2 ^ L := Nat.pow_le_pow_right (by omega) hi
      have e22 := p22 i
      have b3 : k / 2 ^ (2 * i) ≤ k := Nat.div_le_self _ _
      refine lv_iload hx hb d_Mo_cellOf_8 (lv_at hl 0 rfl) ?_
      refine lv_aload_n hx hb d_Mo_cellOf_10 rfl (lv_at hl 3 rfl) ?_
      refine y_get S hk hP 0 rfl f_Mo_7 rfl d_Mo_cellOf_11 ?_
      refine x_icmp_ge hx hb d_Mo_cellOf_14 (tgt := 142) (by decide) (by omega) (by omega) (fun h14 => ?_) (fun h14 => ?_)
      · refine lv_iload_n hx hb d_Mo_cellOf_142 rfl (lv_at hl 2 rfl) ?_
        refine lv_aload_n hx hb d_Mo_cellOf_143 rfl (lv_at hl 3 rfl) ?_
        refine vp_callSi (va_Run.run (run_V S v_Mo_26 (c_Mo_side la G mo mc_ mv_ mk_ mx_ L n x0 y0 x1 y1 hL) ⟨rfl, rfl⟩ ⟨Nat.le_of_ble_eq_true rfl, Nat.le_of_ble_eq_true rfl⟩ (preR_V hP hk hs [0] rfl 0 rfl rfl) (rest := [.int (nI x)]) rfl hl.1 rfl (Nat.le_of_ble_eq_true rfl) d_Mo_cellOf_144 ⟨Nat.le_refl _, Nat.le_refl _⟩)) (fun r1 hr1 => ?_)
        subst hr1
        refine x_imul hx hb d_Mo_cellOf_147 ?_
        refine lv_iload hx hb d_Mo_cellOf_148 (lv_at hl 1 rfl) ?_
        refine x_iadd hx hb d_Mo_cellOf_150 ?_
        exact hret _ _ _ rfl (by have e : (x, y) = kc 1 L k := (by rw [show L = i by omega]; exact hg); rw [← e]) d_Mo_cellOf_151
      · refine lv_iconst (v := nI 1) hx hb d_Mo_cellOf_17 (by decide) ?_
        refine lv_iload hx hb d_Mo_cellOf_18 (lv_at hl 0 rfl) ?_
        refine x_ishl hx hb d_Mo_cellOf_20 (by omega) (by rw [Nat.one_mul]; omega) ?_
        refine x_reN (b := 2 ^ i) (Nat.one_mul _) ?_
        refine lv_istore hx hb d_Mo_cellOf_21 hl (by decide) rfl (fun ls hl => ?_)
        have hl : lv_has ls 9 [(6, .int (nI (2 ^ i))), (5, .int (nI i)), (4, .int (nI y)), (3, .int (nI x)), (0, .ref mo), (1, .int (nI 1)), (2, .int (nI k))] := hl
        refine lv_iload_n hx hb d_Mo_cellOf_23 rfl (lv_at hl 6 rfl) ?_
        refine lv_iconst (v := nI 2) hx hb d_Mo_cellOf_24 (by decide) ?_
        refine lv_iload hx hb d_Mo_cellOf_25 (lv_at hl 1 rfl) ?_
        refine x_imul hx hb d_Mo_cellOf_27 ?_
        refine x_ishr hx hb d_Mo_cellOf_28 (by omega) (by omega) ?_
        refine lv_iconst (v := nI 3) hx hb d_Mo_cellOf_29 (by decide) ?_
        refine x_iand3 hx hb d_Mo_cellOf_30 (by omega) ?_
        refine lv_istore hx hb d_Mo_cellOf_31 hl (by decide) rfl (fun ls hl => ?_)
        have hl : lv_has ls 9 [(7, .int (nI ((k / 2 ^ (2 * i)) % 4))), (6, .int (nI (2 ^ i))), (5, .int (nI i)), (4, .int (nI y)), (3, .int (nI x)), (0, .ref mo), (1, .int (nI 1)), (2, .int (nI k))] := hl
        refine lv_iload_n hx hb d_Mo_cellOf_33 rfl (lv_at hl 6 rfl) ?_
        refine lv_if_ne hx hb d_Mo_cellOf_34 (tgt := 62) (by decide) (fun _ => ?_) (fun h => absurd h (by decide))
        refine lv_iload_n hx hb d_Mo_cellOf_62 rfl (lv_at hl 4 rfl) ?_
        refine lv_istore hx hb d_Mo_cellOf_63 hl (by decide) rfl (fun ls hl => ?_)
        have hl : lv_has ls 9 [(8, .int (nI x)), (7, .int (nI ((k / 2 ^ (2 * i)) % 4))), (6, .int (nI (2 ^ i))), (5, .int (nI i)), (4, .int (nI y)), (3, .int (nI x)), (0, .ref mo), (1, .int (nI 1)), (2, .int (nI k))] := hl
        refine lv_iload hx hb d_Mo_cellOf_65 (lv_at hl 1 rfl) ?_
        refine x_if_ne hx hb d_Mo_cellOf_67 (tgt := 80) (by decide) (by omega) (fun h67 => ?_) (fun h67 => ?_)
        · refine lv_iload hx hb d_Mo_cellOf_80 (lv_at hl 1 rfl) ?_
          refine lv_iconst (v := nI 1) hx hb d_Mo_cellOf_82 (by decide) ?_
          refine x_icmp_ne hx hb d_Mo_cellOf_83 (tgt := 96) (by decide) (by omega) (by omega) (fun h83 => ?_) (fun h83 => ?_)
          · refine lv_iload hx hb d_Mo_cellOf_96 (lv_at hl 1 rfl) ?_
            refine lv_iconst (v := nI 2) hx hb d_Mo_cellOf_98 (by decide) ?_
            refine x_icmp_ne hx hb d_Mo_cellOf_99 (tgt := 117) (by decide) (by omega) (by omega) (fun h99 => ?_) (fun h99 => ?_)
            · refine lv_iconst (v := nI 2) hx hb d_Mo_cellOf_117 (by decide) ?_
              refine lv_iload hx hb d_Mo_cellOf_118 (lv_at hl 2 rfl) ?_
              refine x_imul hx hb d_Mo_cellOf_120 ?_
              refine lv_iconst (v := nI 1) hx hb d_Mo_cellOf_121 (by decide) ?_
              refine x_isub hx hb d_Mo_cellOf_122 (by omega) ?_
              refine lv_iload hx hb d_Mo_cellOf_123 (lv_at hl 4 rfl) ?_
              refine x_isub hx hb d_Mo_cellOf_125 (by omega) ?_
              refine lv_istore_n hx hb d_Mo_cellOf_126 rfl hl (by decide) rfl (fun ls hl => ?_)
              have hl : lv_has ls 9 [(3, .int (nI (((2 * (2 ^ i)) - 1) - y))), (8, .int (nI x)), (7, .int (nI ((k / 2 ^ (2 * i)) % 4))), (6, .int (nI (2 ^ i))), (5, .int (nI i)), (4, .int (nI y)), (0, .ref mo), (1, .int (nI 1)), (2, .int (nI k))] := hl
              refine lv_iload hx hb d_Mo_cellOf_127 (lv_at hl 3 rfl) ?_
              refine lv_iconst (v := nI 1) hx hb d_Mo_cellOf_129 (by decide) ?_
              refine x_isub hx hb d_Mo_cellOf_130 (by omega) ?_
              refine lv_iload hx hb d_Mo_cellOf_131 (lv_at hl 1 rfl) ?_
              refine x_isub hx hb d_Mo_cellOf_133 (by omega) ?_
              refine lv_istore hx hb d_Mo_cellOf_134 hl (by decide) rfl (fun ls hl => ?_)
              have hl : lv_has ls 9 [(4, .int (nI (((2 ^ i) - 1) - x))), (3, .int (nI (((2 * (2 ^ i)) - 1) - y))), (8, .int (nI x)), (7, .int (nI ((k / 2 ^ (2 * i)) % 4))), (6, .int (nI (2 ^ i))), (5, .int (nI i)), (0, .ref mo), (1, .int (nI 1)), (2, .int (nI k))] := hl
              refine lv_iinc (v := nI (i + 1)) hx hb d_Mo_cellOf_136 hl (k := 5) rfl (ii_p _ 1) (by decide) rfl (fun ls hl => ?_)
              have hl : lv_has ls 9 [(5, .int (nI (i + 1))), (4, .int (nI (((2 ^ i) - 1) - x))), (3, .int (nI (((2 * (2 ^ i)) - 1) - y))), (8, .int (nI x)), (7, .int (nI ((k / 2 ^ (2 * i)) % 4))), (6, .int (nI (2 ^ i))), (0, .ref mo), (1, .int (nI 1)), (2, .int (nI k))] := hl
              refine lv_goto hx hb d_Mo_cellOf_139 (tgt := 8) (by decide) ?_
              have hl := lv_sub hl [0, 1, 2, 6, 7, 8] rfl
              exact ih (i + 1) _ _ _ (by omega) hl (by omega) (by rw [hcx_3 (by rw [← e22]; omega), ← hg])
            · refine lv_iload_n hx hb d_Mo_cellOf_102 rfl (lv_at hl 5 rfl) ?_
              refine lv_iload hx hb d_Mo_cellOf_103 (lv_at hl 2 rfl) ?_
              refine x_iadd hx hb d_Mo_cellOf_105 ?_
              refine lv_istore_n hx hb d_Mo_cellOf_106 rfl hl (by decide) rfl (fun ls hl => ?_)
              have hl : lv_has ls 9 [(3, .int (nI (x + (2 ^ i)))), (8, .int (nI x)), (7, .int (nI ((k / 2 ^ (2 * i)) % 4))), (6, .int (nI (2 ^ i))), (5, .int (nI i)), (4, .int (nI y)), (0, .ref mo), (1, .int (nI 1)), (2, .int (nI k))] := hl
              refine lv_iload hx hb d_Mo_cellOf_107 (lv_at hl 5 rfl) ?_
              refine lv_iload hx hb d_Mo_cellOf_109 (lv_at hl 3 rfl) ?_
              refine x_iadd hx hb d_Mo_cellOf_111 ?_
              refine lv_istore hx hb d_Mo_cellOf_112 hl (by decide) rfl (fun ls hl => ?_)
              have hl : lv_has ls 9 [(4, .int (nI (y + (2 ^ i)))), (3, .int (nI (x + (2 ^ i)))), (8, .int (nI x)), (7, .int (nI ((k / 2 ^ (2 * i)) % 4))), (6, .int (nI (2 ^ i))), (5, .int (nI i)), (0, .ref mo), (1, .int (nI 1)), (2, .int (nI k))] := hl
              refine lv_goto hx hb d_Mo_cellOf_114 (tgt := 136) (by decide) ?_
              refine lv_iinc (v := nI (i + 1)) hx hb d_Mo_cellOf_136 hl (k := 5) rfl (ii_p _ 1) (by decide) rfl (fun ls hl => ?_)
              have hl : lv_has ls 9 [(5, .int (nI (i + 1))), (4, .int (nI (y + (2 ^ i)))), (3, .int (nI (x + (2 ^ i)))), (8, .int (nI x)), (7, .int (nI ((k / 2 ^ (2 * i)) % 4))), (6, .int (nI (2 ^ i))), (0, .ref mo), (1, .int (nI 1)), (2, .int (nI k))] := hl
              refine lv_goto hx hb d_Mo_cellOf_139 (tgt := 8) (by decide) ?_
              have hl := lv_sub hl [0, 1, 2, 6, 7, 8] rfl
              exact ih (i + 1) _ _ _ (by omega) hl (by omega) (by rw [hcx_2 (by rw [← e22]; exact h99), ← hg])
          · refine lv_iload hx hb d_Mo_cellOf_86 (lv_at hl 4 rfl) ?_
            refine lv_iload hx hb d_Mo_cellOf_88 (lv_at hl 2 rfl) ?_
            refine x_iadd hx hb d_Mo_cellOf_90 ?_
            refine lv_istore hx hb d_Mo_cellOf_91 hl (by decide) rfl (fun ls hl => ?_)
            have hl : lv_has ls 9 [(4, .int (nI (y + (2 ^ i)))), (8, .int (nI x)), (7, .int (nI ((k / 2 ^ (2 * i)) % 4))), (6, .int (nI (2 ^ i))), (5, .int (nI i)), (3, .int (nI x)), (0, .ref mo), (1, .int (nI 1)), (2, .int (nI k))] := hl
            refine lv_goto hx hb d_Mo_cellOf_93 (tgt := 136) (by decide) ?_
            refine lv_iinc (v := nI (i + 1)) hx hb d_Mo_cellOf_136 hl (k := 4) rfl (ii_p _ 1) (by decide) rfl (fun ls hl => ?_)
            have hl : lv_has ls 9 [(5, .int (nI (i + 1))), (4, .int (nI (y + (2 ^ i)))), (8, .int (nI x)), (7, .int (nI ((k / 2 ^ (2 * i)) % 4))), (6, .int (nI (2 ^ i))), (3, .int (nI x)), (0, .ref mo), (1, .int (nI 1)), (2, .int (nI k))] := hl
            refine lv_goto hx hb d_Mo_cellOf_139 (tgt := 8) (by decide) ?_
            have hl := lv_sub hl [0, 1, 5, 6, 7, 8] rfl
            exact ih (i + 1) _ _ _ (by omega) hl (by omega) (by rw [hcx_1 (by rw [← e22]; exact h83), ← hg])
        · refine lv_iload hx hb d_Mo_cellOf_70 (lv_at hl 4 rfl) ?_
          refine lv_istore_n hx hb d_Mo_cellOf_72 rfl hl (by decide) rfl (fun ls hl => ?_)
          have hl : lv_has ls 9 [(3, .int (nI y)), (8, .int (nI x)), (7, .int (nI ((k / 2 ^ (2 * i)) % 4))), (6, .int (nI (2 ^ i))), (5, .int (nI i)), (4, .int (nI y)), (0, .ref mo), (1, .int (nI 1)), (2, .int (nI k))] := hl
          refine lv_iload hx hb d_Mo_cellOf_73 (lv_at hl 1 rfl) ?_
          refine lv_istore hx hb d_Mo_cellOf_75 hl (by decide) rfl (fun ls hl => ?_)
          have hl : lv_has ls 9 [(4, .int (nI x)), (3, .int (nI y)), (8, .int (nI x)), (7, .int (nI ((k / 2 ^ (2 * i)) % 4))), (6, .int (nI (2 ^ i))), (5, .int (nI i)), (0, .ref mo), (1, .int (nI 1)), (2, .int (nI k))] := hl
          refine lv_goto hx hb d_Mo_cellOf_77 (tgt := 136) (by decide) ?_
          refine lv_iinc (v := nI (i + 1)) hx hb d_Mo_cellOf_136 hl (k := 5) rfl (ii_p _ 1) (by decide) rfl (fun ls hl => ?_)
          have hl : lv_has ls 9 [(5, .int (nI (i + 1))), (4, .int (nI x)), (3, .int (nI y)), (8, .int (nI x)), (7, .int (nI ((k / 2 ^ (2 * i)) % 4))), (6, .int (nI (2 ^ i))), (0, .ref mo), (1, .int (nI 1)), (2, .int (nI k))] := hl
          refine lv_goto hx hb d_Mo_cellOf_139 (tgt := 8) (by decide) ?_
          have hl := lv_sub hl [0, 1, 2, 6, 7, 8] rfl
          exact ih (i + 1) _ _ _ (by omega) hl (by omega) (by rw [hcx_0 (by rw [← e22]; exact h67), ← hg])
set_option maxHeartbeats 4000000 in
set_option maxRecDepth 100000 in
theorem c_Mo_find (la : Launch) (G : gG) (mo mc_ mv_ mk_ mx_ L n x0 y0 x1 y1 : Nat) (C : Nat → Nat) (cn : Nat) (hn : n ≤ 500) (hC : bd C) (hcn : cn < 2147483648) : MetR la y_Mo_find b_Mo_find 3 .int 0 0 [.ref mo, .int (nI cn)] G [(mo, .inr (4, [.int (nI L), .int (nI n), .ref mc_, .ref mv_, .int (nI x0), .int (nI y0), .int (nI x1), .int (nI y1), .ref mk_, .ref mx_])), (mc_, .inl (G.2.1, 500, .inl (fun zz => nI (C zz))))] (fun r => ∃ k, fnd n C cn k ∧ r = nI k) := by
  refine MetR.mk (by decide +kernel) (Nat.le_of_ble_eq_true rfl) ?_
  intro p e s m below meth c Q ls S hP hk hs hret hl
  have hx := S.1
  have hb := S.2.1
  have hl : lv_has ls 3 [(0, .ref mo), (1, .int (nI cn))] := hl
  refine lv_iconst (v := nI 0) hx hb d_Mo_find_0 (by decide) ?_
  refine lv_istore_n hx hb d_Mo_find_1 rfl hl (by decide) rfl (fun ls hl => ?_)
  have hl : lv_has ls 3 [(2, .int (nI 0)), (0, .ref mo), (1, .int (nI cn))] := hl
  refine (?_ : ∀ (d : Nat) (q : Nat) (ls : Array Slot), n - q < d → lv_has ls 3 [(2, .int (nI q)), (0, .ref mo), (1, .int (nI cn))] → (q ≤ n) → (∀ i, i < q → C i ≠ cn) → W p la e _ s m _ below meth c s.heap [] 0 0 Q (F0 m 2 ls [])) (n - 0 + 1) 0 ls (Nat.lt_succ_self _) hl (Nat.zero_le _) (fun i h => absurd h (Nat.not_lt_zero _))
  intro d
  induction d with
  | zero => intro q ls hd; exact absurd hd (Nat.not_lt_zero _)
  | succ d ih =>
    intro q ls hd hl hq hlt
    refine lv_iload_n hx hb d_Mo_find_2 rfl (lv_at hl 0 rfl) ?_
    refine lv_aload_n hx hb d_Mo_find_3 rfl (lv_at hl 1 rfl) ?_
    refine y_get S hk hP 0 rfl f_Mo_30 rfl d_Mo_find_4 ?_
    refine x_icmp_ge hx hb d_Mo_find_7 (tgt := 26) (by decide) (by omega) (by omega) (fun h7 => ?_) (fun h7 => ?_)
    · refine lv_iload_n hx hb d_Mo_find_26 rfl (lv_at hl 0 rfl) ?_
      exact hret _ _ _ rfl (⟨q, ⟨hq, hlt, fun h => by first | exact absurd h (by omega) | exact h17⟩, rfl⟩) d_Mo_find_27
    · refine lv_aload_n hx hb d_Mo_find_10 rfl (lv_at hl 1 rfl) ?_
      refine y_get S hk hP 0 rfl f_Mo_13 rfl d_Mo_find_11 ?_
      refine lv_iload_n hx hb d_Mo_find_14 rfl (lv_at hl 0 rfl) ?_
      refine y_ald hx hb hk hP 1 rfl (by omega) (by decide) d_Mo_find_15 ?_
      refine lv_iload_n hx hb d_Mo_find_16 rfl (lv_at hl 2 rfl) ?_
      refine x_icmp_eq hx hb d_Mo_find_17 (tgt := 26) (by decide) (hC _) (hcn) (fun h17 => ?_) (fun h17 => ?_)
      · refine lv_iload_n hx hb d_Mo_find_26 rfl (lv_at hl 0 rfl) ?_
        exact hret _ _ _ rfl (⟨q, ⟨hq, hlt, fun h => by first | exact absurd h (by omega) | exact h17⟩, rfl⟩) d_Mo_find_27
      · refine lv_iinc (v := nI (q + 1)) hx hb d_Mo_find_20 hl (k := 0) rfl (ii_p _ 1) (by decide) rfl (fun ls hl => ?_)
        have hl : lv_has ls 3 [(2, .int (nI (q + 1))), (0, .ref mo), (1, .int (nI cn))] := hl
        refine lv_goto hx hb d_Mo_find_23 (tgt := 2) (by decide) ?_
        have hl := lv_sub hl [0, 1, 2] rfl
        exact ih (q + 1) _ (by omega) hl (by omega) (fun i h => by rcases Nat.lt_or_ge i q with g | g; exact hlt i g; obtain rfl : i = q := (by omega); exact h17)
set_option maxHeartbeats 4000000 in
set_option maxRecDepth 100000 in
theorem c_Mo_isInside (la : Launch) (G : gG) (mo mc_ mv_ mk_ mx_ L n x0 y0 x1 y1 : Nat) (C : Nat → Nat) (k : Nat) (hL : L ≤ 15) (hC : bd C) (h0 : x0 < 32768) (h1 : y0 < 32768) (h2 : x1 < 32768) (h3 : y1 < 32768) (hk' : k < 500) : MetR la y_Mo_isInside b_Mo_isInside 4 .boolean 1 20 [.ref mo, .int (nI k)] G [(mo, .inr (4, [.int (nI L), .int (nI n), .ref mc_, .ref mv_, .int (nI x0), .int (nI y0), .int (nI x1), .int (nI y1), .ref mk_, .ref mx_])), (mc_, .inl (G.2.1, 500, .inl (fun zz => nI (C zz))))] (fun r => (r = 1 ∧ inc L (x0, y0, x1, y1) (C k) = true) ∨ (r = 0 ∧ inc L (x0, y0, x1, y1) (C k) = false)) := by
  refine MetR.mk (by decide +kernel) (Nat.le_of_ble_eq_true rfl) ?_
  intro p e s m below meth c Q ls S hP hk hs hret hl
  have hx := S.1
  have hb := S.2.1
  have hp := p2_15 hL
  have hpp := Nat.two_pow_pos L
  have hck := hC k
  have hd1 : C k / 2 ^ L ≤ C k := Nat.div_le_self _ _
  have hd2 : C k % 2 ^ L ≤ C k := Nat.mod_le _ _
  have hl : lv_has ls 4 [(0, .ref mo), (1, .int (nI k))] := hl
  refine lv_aload_n hx hb d_Mo_isInside_0 rfl (lv_at hl 0 rfl) ?_
  refine y_get S hk hP 0 rfl f_Mo_13 rfl d_Mo_isInside_1 ?_
  refine lv_iload_n hx hb d_Mo_isInside_4 rfl (lv_at hl 1 rfl) ?_
  refine y_ald hx hb hk hP 1 rfl (by omega) (by decide) d_Mo_isInside_5 ?_
  refine lv_aload_n hx hb d_Mo_isInside_6 rfl (lv_at hl 0 rfl) ?_
  refine vp_callSi (va_Run.run (run_V S v_Mo_26 (c_Mo_side la G mo mc_ mv_ mk_ mx_ L n x0 y0 x1 y1 hL) ⟨rfl, rfl⟩ ⟨Nat.le_of_ble_eq_true rfl, Nat.le_of_ble_eq_true rfl⟩ (preR_V hP hk hs [0] rfl 0 rfl rfl) (rest := [.int (nI (C k))]) rfl hl.1 rfl (Nat.le_of_ble_eq_true rfl) d_Mo_isInside_7 ⟨Nat.le_refl _, Nat.le_refl _⟩)) (fun r7 hr7 => ?_)
  subst hr7
  refine x_idiv hx hb d_Mo_isInside_10 (by omega) (by omega) (by omega) ?_
  refine lv_istore_n hx hb d_Mo_isInside_11 rfl hl (by decide) rfl (fun ls hl => ?_)
  have hl : lv_has ls 4 [(2, .int (nI ((C k) / (2 ^ L)))), (0, .ref mo), (1, .int (nI k))] := hl
  refine lv_aload_n hx hb d_Mo_isInside_12 rfl (lv_at hl 1 rfl) ?_
  refine y_get S hk hP 0 rfl f_Mo_13 rfl d_Mo_isInside_13 ?_
  refine lv_iload_n hx hb d_Mo_isInside_16 rfl (lv_at hl 2 rfl) ?_
  refine y_ald hx hb hk hP 1 rfl (by omega) (by decide) d_Mo_isInside_17 ?_
  refine lv_aload_n hx hb d_Mo_isInside_18 rfl (lv_at hl 1 rfl) ?_
  refine vp_callSi (va_Run.run (run_V S v_Mo_26 (c_Mo_side la G mo mc_ mv_ mk_ mx_ L n x0 y0 x1 y1 hL) ⟨rfl, rfl⟩ ⟨Nat.le_of_ble_eq_true rfl, Nat.le_of_ble_eq_true rfl⟩ (preR_V hP hk hs [0] rfl 0 rfl rfl) (rest := [.int (nI (C k))]) rfl hl.1 rfl (Nat.le_of_ble_eq_true rfl) d_Mo_isInside_19 ⟨Nat.le_refl _, Nat.le_refl _⟩)) (fun r19 hr19 => ?_)
  subst hr19
  refine x_irem hx hb d_Mo_isInside_22 (by omega) (by omega) (by omega) ?_
  refine lv_istore_n hx hb d_Mo_isInside_23 rfl hl (by decide) rfl (fun ls hl => ?_)
  have hl : lv_has ls 4 [(3, .int (nI ((C k) % (2 ^ L)))), (2, .int (nI ((C k) / (2 ^ L)))), (0, .ref mo), (1, .int (nI k))] := hl
  refine lv_iload_n hx hb d_Mo_isInside_24 rfl (lv_at hl 1 rfl) ?_
  refine lv_aload_n hx hb d_Mo_isInside_25 rfl (lv_at hl 2 rfl) ?_
  refine y_get S hk hP 0 rfl f_Mo_33 rfl d_Mo_isInside_26 ?_
  refine x_icmp_lt hx hb d_Mo_isInside_29 (tgt := 60) (by decide) (by omega) (by omega) (fun h29 => ?_) (fun h29 => ?_)
  · refine lv_iconst (v := nI 0) hx hb d_Mo_isInside_60 (by decide) ?_
    exact hret _ _ _ (by decide) (Or.inr ⟨by decide, decide_eq_false (by (try dsimp only); omega)⟩) d_Mo_isInside_61
  · refine lv_iload_n hx hb d_Mo_isInside_32 rfl (lv_at hl 1 rfl) ?_
    refine lv_aload_n hx hb d_Mo_isInside_33 rfl (lv_at hl 2 rfl) ?_
    refine y_get S hk hP 0 rfl f_Mo_39 rfl d_Mo_isInside_34 ?_
    refine x_icmp_gt hx hb d_Mo_isInside_37 (tgt := 60) (by decide) (by omega) (by omega) (fun h37 => ?_) (fun h37 => ?_)
    · refine lv_iconst (v := nI 0) hx hb d_Mo_isInside_60 (by decide) ?_
      exact hret _ _ _ (by decide) (Or.inr ⟨by decide, decide_eq_false (by (try dsimp only); omega)⟩) d_Mo_isInside_61
    · refine lv_iload_n hx hb d_Mo_isInside_40 rfl (lv_at hl 0 rfl) ?_
      refine lv_aload_n hx hb d_Mo_isInside_41 rfl (lv_at hl 2 rfl) ?_
      refine y_get S hk hP 0 rfl f_Mo_36 rfl d_Mo_isInside_42 ?_
      refine x_icmp_lt hx hb d_Mo_isInside_45 (tgt := 60) (by decide) (by omega) (by omega) (fun h45 => ?_) (fun h45 => ?_)
      · refine lv_iconst (v := nI 0) hx hb d_Mo_isInside_60 (by decide) ?_
        exact hret _ _ _ (by decide) (Or.inr ⟨by decide, decide_eq_false (by (try dsimp only); omega)⟩) d_Mo_isInside_61
      · refine lv_iload_n hx hb d_Mo_isInside_48 rfl (lv_at hl 0 rfl) ?_
        refine lv_aload_n hx hb d_Mo_isInside_49 rfl (lv_at hl 2 rfl) ?_
        refine y_get S hk hP 0 rfl f_Mo_42 rfl d_Mo_isInside_50 ?_
        refine x_icmp_gt hx hb d_Mo_isInside_53 (tgt := 60) (by decide) (by omega) (by omega) (fun h53 => ?_) (fun h53 => ?_)
        · refine lv_iconst (v := nI 0) hx hb d_Mo_isInside_60 (by decide) ?_
          exact hret _ _ _ (by decide) (Or.inr ⟨by decide, decide_eq_false (by (try dsimp only); omega)⟩) d_Mo_isInside_61
        · refine lv_iconst (v := nI 1) hx hb d_Mo_isInside_56 (by decide) ?_
          refine lv_goto hx hb d_Mo_isInside_57 (tgt := 61) (by decide) ?_
          exact hret _ _ _ (by decide) (Or.inl ⟨by decide, decide_eq_true (by (try dsimp only); omega)⟩) d_Mo_isInside_61
set_option maxHeartbeats 4000000 in
set_option maxRecDepth 100000 in
theorem c_Mo_keyAt (la : Launch) (G : gG) (mo mc_ mv_ mk_ mx_ L n x0 y0 x1 y1 : Nat) (C : Nat → Nat) (cu k : Nat) (hL : L ≤ 15) (hL1 : 1 ≤ L) (hC : bd C) (hcu : cu < 2) (hk' : k < 500) (hck : C k < 2 ^ L * 2 ^ L) : MetR la y_Mo_keyAt b_Mo_keyAt 3 .int 2 48 [.ref mo, .int (nI cu), .int (nI k)] G [(mo, .inr (4, [.int (nI L), .int (nI n), .ref mc_, .ref mv_, .int (nI x0), .int (nI y0), .int (nI x1), .int (nI y1), .ref mk_, .ref mx_])), (mc_, .inl (G.2.1, 500, .inl (fun zz => nI (C zz))))] (fun r => r = nI (ke cu L (C k))) := by
  refine MetR.mk (by decide +kernel) (Nat.le_of_ble_eq_true rfl) ?_
  intro p e s m below meth c Q ls S hP hk hs hret hl
  have hx := S.1
  have hb := S.2.1
  have hp := p2_15 hL
  have hpp := Nat.two_pow_pos L
  have hck' := hC k
  obtain ⟨hc1, hc2⟩ := cl_of hck
  have hl : lv_has ls 3 [(0, .ref mo), (1, .int (nI cu)), (2, .int (nI k))] := hl
  refine lv_aload_n hx hb d_Mo_keyAt_0 rfl (lv_at hl 0 rfl) ?_
  refine lv_iload_n hx hb d_Mo_keyAt_1 rfl (lv_at hl 1 rfl) ?_
  refine lv_aload_n hx hb d_Mo_keyAt_2 rfl (lv_at hl 0 rfl) ?_
  refine y_get S hk hP 0 rfl f_Mo_13 rfl d_Mo_keyAt_3 ?_
  refine lv_iload_n hx hb d_Mo_keyAt_6 rfl (lv_at hl 2 rfl) ?_
  refine y_ald hx hb hk hP 1 rfl (by omega) (by decide) d_Mo_keyAt_7 ?_
  refine lv_aload_n hx hb d_Mo_keyAt_8 rfl (lv_at hl 0 rfl) ?_
  refine vp_callSi (va_Run.run (run_V S v_Mo_26 (c_Mo_side la G mo mc_ mv_ mk_ mx_ L n x0 y0 x1 y1 hL) ⟨rfl, rfl⟩ ⟨Nat.le_of_ble_eq_true rfl, Nat.le_of_ble_eq_true rfl⟩ (preR_V hP hk hs [0] rfl 0 rfl rfl) (rest := [.int (nI (C k)), .int (nI cu), .ref mo]) rfl hl.1 rfl (Nat.le_of_ble_eq_true rfl) d_Mo_keyAt_9 ⟨Nat.le_refl _, Nat.le_refl _⟩)) (fun r9 hr9 => ?_)
  subst hr9
  refine x_idiv hx hb d_Mo_keyAt_12 (by omega) (by omega) (by omega) ?_
  refine lv_aload_n hx hb d_Mo_keyAt_13 rfl (lv_at hl 0 rfl) ?_
  refine y_get S hk hP 0 rfl f_Mo_13 rfl d_Mo_keyAt_14 ?_
  refine lv_iload_n hx hb d_Mo_keyAt_17 rfl (lv_at hl 2 rfl) ?_
  refine y_ald hx hb hk hP 1 rfl (by omega) (by decide) d_Mo_keyAt_18 ?_
  refine lv_aload_n hx hb d_Mo_keyAt_19 rfl (lv_at hl 0 rfl) ?_
  refine vp_callSi (va_Run.run (run_V S v_Mo_26 (c_Mo_side la G mo mc_ mv_ mk_ mx_ L n x0 y0 x1 y1 hL) ⟨rfl, rfl⟩ ⟨Nat.le_of_ble_eq_true rfl, Nat.le_of_ble_eq_true rfl⟩ (preR_V hP hk hs [0] rfl 0 rfl rfl) (rest := [.int (nI (C k)), .int (nI ((C k) / (2 ^ L))), .int (nI cu), .ref mo]) rfl hl.1 rfl (Nat.le_of_ble_eq_true rfl) d_Mo_keyAt_20 ⟨Nat.le_refl _, Nat.le_refl _⟩)) (fun r20 hr20 => ?_)
  subst hr20
  refine x_irem hx hb d_Mo_keyAt_23 (by omega) (by omega) (by omega) ?_
  refine vp_callSi (va_Run.run (run_V S v_Mo_53 (c_Mo_keyOf la G mo mc_ mv_ mk_ mx_ L n x0 y0 x1 y1 cu (C k / 2 ^ L) (C k % 2 ^ L) hL hL1 hcu hc1 hc2) ⟨rfl, rfl⟩ ⟨Nat.le_of_ble_eq_true rfl, Nat.le_of_ble_eq_true rfl⟩ (preR_V hP hk hs [0] rfl 0 rfl rfl) (rest := []) rfl hl.1 rfl (Nat.le_of_ble_eq_true rfl) d_Mo_keyAt_24 ⟨Nat.le_refl _, Nat.le_refl _⟩)) (fun r1 hr1 => ?_)
  subst hr1
  exact hret _ _ _ rfl (rfl) d_Mo_keyAt_27
set_option maxHeartbeats 4000000 in
set_option maxRecDepth 100000 in
theorem c_Mo_key (la : Launch) (G : gG) (mo mc_ mv_ mk_ mx_ L n x0 y0 x1 y1 : Nat) (C V K X : Nat → Nat) (cu x y : Int32) (hM : okMo (L, (n, C, V), (x0, y0, x1, y1), (K, X))) : MetR la y_Mo_key b_Mo_key 4 .int 2 48 [.ref mo, .int cu, .int x, .int y] G [(mo, .inr (4, [.int (nI L), .int (nI n), .ref mc_, .ref mv_, .int (nI x0), .int (nI y0), .int (nI x1), .int (nI y1), .ref mk_, .ref mx_])), (mc_, .inl (G.2.1, 500, .inl (fun zz => nI (C zz)))), (mv_, .inl (G.2.1, 500, .inl (fun zz => nI (V zz)))), (mk_, .inl (G.2.1, 4096, .inl (fun zz => nI (K zz)))), (mx_, .inl (G.2.1, 4096, .inl (fun zz => nI (X zz))))] (fun r => keyS L cu x y r) := by
  refine MetR.mk (by decide +kernel) (Nat.le_of_ble_eq_true rfl) ?_
  intro p e s m below meth c Q ls S hP hk hs hret hl
  have hx := S.1
  have hb := S.2.1
  have hM' := hM
  obtain ⟨⟨hL1, hL⟩, hm, ⟨hC, hV⟩, hF, hK, hX⟩ := hM
  dsimp only at hL1 hL hm hC hV hF hK hX
  have hFb := hF.b hL
  obtain ⟨hf1, hf2, hf3, hf4⟩ := hF
  dsimp only at hf1 hf2 hf3 hf4 hFb
  have hp2 := p2_15 hL
  have hp4 := p4_15 hL
  have hpp := Nat.two_pow_pos L
  have hn5 := hm.1
  have hl : lv_has ls 4 [(0, .ref mo), (1, .int cu), (2, .int x), (3, .int y)] := hl
  refine lv_iload_n hx hb d_Mo_key_0 rfl (lv_at hl 1 rfl) ?_
  refine vp_callSi (va_Run.run (run_S S v_Mo_45 (c_Mo_isCurve la G cu) ⟨rfl, rfl⟩ ⟨Nat.le_of_ble_eq_true rfl, Nat.le_of_ble_eq_true rfl⟩ (preR_S hP hk hs [] rfl) (rest := []) rfl hl.1 rfl (Nat.le_of_ble_eq_true rfl) d_Mo_key_1 ⟨Nat.le_refl _, Nat.le_refl _⟩)) (fun r1 hr1 => ?_)
  rcases hr1 with ⟨rfl, k, hk', rfl⟩ | ⟨rfl, q1⟩
  · have hl : lv_has ls 4 [(0, .ref mo), (1, .int (nI k)), (2, .int x), (3, .int y)] := hl
    refine lv_if_eq hx hb d_Mo_key_4 (tgt := 26) (by decide) (fun h => absurd h (by decide)) (fun _ => ?_)
    refine lv_aload_n hx hb d_Mo_key_7 rfl (lv_at hl 0 rfl) ?_
    refine lv_iload_n hx hb d_Mo_key_8 rfl (lv_at hl 2 rfl) ?_
    refine lv_iload_n hx hb d_Mo_key_9 rfl (lv_at hl 3 rfl) ?_
    refine vp_callSi (va_Run.run (run_V S v_Mo_49 (c_Mo_isCell la G mo mc_ mv_ mk_ mx_ L n x0 y0 x1 y1 x y hL) ⟨rfl, rfl⟩ ⟨Nat.le_of_ble_eq_true rfl, Nat.le_of_ble_eq_true rfl⟩ (preR_V hP hk hs [0] rfl 0 rfl rfl) (rest := []) rfl hl.1 rfl (Nat.le_of_ble_eq_true rfl) d_Mo_key_10 ⟨Nat.le_refl _, Nat.le_refl _⟩)) (fun r2 hr2 => ?_)
    rcases hr2 with ⟨rfl, a, b, ha, hb', rfl, rfl⟩ | ⟨rfl, q2⟩
    · have hl : lv_has ls 4 [(0, .ref mo), (1, .int (nI k)), (2, .int (nI a)), (3, .int (nI b))] := hl
      refine lv_if_eq hx hb d_Mo_key_13 (tgt := 26) (by decide) (fun h => absurd h (by decide)) (fun _ => ?_)
      refine lv_aload_n hx hb d_Mo_key_16 rfl (lv_at hl 0 rfl) ?_
      refine lv_iload_n hx hb d_Mo_key_17 rfl (lv_at hl 1 rfl) ?_
      refine lv_iload_n hx hb d_Mo_key_18 rfl (lv_at hl 2 rfl) ?_
      refine lv_iload_n hx hb d_Mo_key_19 rfl (lv_at hl 3 rfl) ?_
      refine vp_callSi (va_Run.run (run_V S v_Mo_53 (c_Mo_keyOf la G mo mc_ mv_ mk_ mx_ L n x0 y0 x1 y1 k a b hL hL1 hk' ha hb') ⟨rfl, rfl⟩ ⟨Nat.le_of_ble_eq_true rfl, Nat.le_of_ble_eq_true rfl⟩ (preR_V hP hk hs [0] rfl 0 rfl rfl) (rest := []) rfl hl.1 rfl (Nat.le_of_ble_eq_true rfl) d_Mo_key_20 ⟨Nat.le_refl _, Nat.le_refl _⟩)) (fun r3 hr3 => ?_)
      subst hr3
      refine lv_goto hx hb d_Mo_key_23 (tgt := 27) (by decide) ?_
      exact hret _ _ _ rfl (Or.inl ⟨k, a, b, hk', ha, hb', rfl, rfl, rfl, rfl⟩) d_Mo_key_27
    · refine lv_if_eq hx hb d_Mo_key_13 (tgt := 26) (by decide) (fun _ => ?_) (fun h => absurd (by decide) h)
      refine lv_iconst (v := (-1)) hx hb d_Mo_key_26 (by decide) ?_
      exact hret _ _ _ rfl (Or.inr ⟨by first | exact fun z => q1 z.1 | exact fun z => q2 z.2, rfl⟩) d_Mo_key_27
  · refine lv_if_eq hx hb d_Mo_key_4 (tgt := 26) (by decide) (fun _ => ?_) (fun h => absurd (by decide) h)
    refine lv_iconst (v := (-1)) hx hb d_Mo_key_26 (by decide) ?_
    exact hret _ _ _ rfl (Or.inr ⟨by first | exact fun z => q1 z.1 | exact fun z => q2 z.2, rfl⟩) d_Mo_key_27
set_option maxHeartbeats 4000000 in
set_option maxRecDepth 100000 in
theorem c_Mo_cell (la : Launch) (G : gG) (mo mc_ mv_ mk_ mx_ L n x0 y0 x1 y1 : Nat) (C V K X : Nat → Nat) (cu x : Int32) (hM : okMo (L, (n, C, V), (x0, y0, x1, y1), (K, X))) : MetR la y_Mo_cell b_Mo_cell 3 .int 2 48 [.ref mo, .int cu, .int x] G [(mo, .inr (4, [.int (nI L), .int (nI n), .ref mc_, .ref mv_, .int (nI x0), .int (nI y0), .int (nI x1), .int (nI y1), .ref mk_, .ref mx_])), (mc_, .inl (G.2.1, 500, .inl (fun zz => nI (C zz)))), (mv_, .inl (G.2.1, 500, .inl (fun zz => nI (V zz)))), (mk_, .inl (G.2.1, 4096, .inl (fun zz => nI (K zz)))), (mx_, .inl (G.2.1, 4096, .inl (fun zz => nI (X zz))))] (fun r => cellS L cu x r) := by
  refine MetR.mk (by decide +kernel) (Nat.le_of_ble_eq_true rfl) ?_
  intro p e s m below meth c Q ls S hP hk hs hret hl
  have hx := S.1
  have hb := S.2.1
  have hM' := hM
  obtain ⟨⟨hL1, hL⟩, hm, ⟨hC, hV⟩, hF, hK, hX⟩ := hM
  dsimp only at hL1 hL hm hC hV hF hK hX
  have hFb := hF.b hL
  obtain ⟨hf1, hf2, hf3, hf4⟩ := hF
  dsimp only at hf1 hf2 hf3 hf4 hFb
  have hp2 := p2_15 hL
  have hp4 := p4_15 hL
  have hpp := Nat.two_pow_pos L
  have hn5 := hm.1
  rcases ng x with hx0 | ⟨j, hj, rfl⟩
  · have hl : lv_has ls 3 [(0, .ref mo), (1, .int cu), (2, .int x)] := hl
    refine lv_iload_n hx hb d_Mo_cell_0 rfl (lv_at hl 1 rfl) ?_
    refine vp_callSi (va_Run.run (run_S S v_Mo_45 (c_Mo_isCurve la G cu) ⟨rfl, rfl⟩ ⟨Nat.le_of_ble_eq_true rfl, Nat.le_of_ble_eq_true rfl⟩ (preR_S hP hk hs [] rfl) (rest := []) rfl hl.1 rfl (Nat.le_of_ble_eq_true rfl) d_Mo_cell_1 ⟨Nat.le_refl _, Nat.le_refl _⟩)) (fun r1 hr1 => ?_)
    rcases hr1 with ⟨rfl, k, hk', rfl⟩ | ⟨rfl, q1⟩
    · have hl : lv_has ls 3 [(0, .ref mo), (1, .int (nI k)), (2, .int x)] := hl
      refine lv_if_eq hx hb d_Mo_cell_4 (tgt := 33) (by decide) (fun h => absurd h (by decide)) (fun _ => ?_)
      refine lv_iload_n hx hb d_Mo_cell_7 rfl (lv_at hl 2 rfl) ?_
      refine lv_if_lt hx hb d_Mo_cell_8 (tgt := 33) (by decide) (fun _ => ?_) (fun h => absurd hx0 h)
      refine lv_iconst (v := (-1)) hx hb d_Mo_cell_33 (by decide) ?_
      exact hret _ _ _ rfl (Or.inr ⟨by first | exact fun z => q1 z.1 | (rintro ⟨-, i, hi, rfl⟩; exact nI_pos (by omega) hx0) | (rintro ⟨-, i, hi, e⟩; rw [nI_eq hj (by omega)] at e; omega), rfl⟩) d_Mo_cell_34
    · refine lv_if_eq hx hb d_Mo_cell_4 (tgt := 33) (by decide) (fun _ => ?_) (fun h => absurd (by decide) h)
      refine lv_iconst (v := (-1)) hx hb d_Mo_cell_33 (by decide) ?_
      exact hret _ _ _ rfl (Or.inr ⟨by first | exact fun z => q1 z.1 | (rintro ⟨-, i, hi, rfl⟩; exact nI_pos (by omega) hx0) | (rintro ⟨-, i, hi, e⟩; rw [nI_eq hj (by omega)] at e; omega), rfl⟩) d_Mo_cell_34
  · have hl : lv_has ls 3 [(0, .ref mo), (1, .int cu), (2, .int (nI j))] := hl
    refine lv_iload_n hx hb d_Mo_cell_0 rfl (lv_at hl 1 rfl) ?_
    refine vp_callSi (va_Run.run (run_S S v_Mo_45 (c_Mo_isCurve la G cu) ⟨rfl, rfl⟩ ⟨Nat.le_of_ble_eq_true rfl, Nat.le_of_ble_eq_true rfl⟩ (preR_S hP hk hs [] rfl) (rest := []) rfl hl.1 rfl (Nat.le_of_ble_eq_true rfl) d_Mo_cell_1 ⟨Nat.le_refl _, Nat.le_refl _⟩)) (fun r1 hr1 => ?_)
    rcases hr1 with ⟨rfl, k, hk', rfl⟩ | ⟨rfl, q1⟩
    · have hl : lv_has ls 3 [(0, .ref mo), (1, .int (nI k)), (2, .int (nI j))] := hl
      refine lv_if_eq hx hb d_Mo_cell_4 (tgt := 33) (by decide) (fun h => absurd h (by decide)) (fun _ => ?_)
      refine lv_iload_n hx hb d_Mo_cell_7 rfl (lv_at hl 2 rfl) ?_
      refine lv_if_lt hx hb d_Mo_cell_8 (tgt := 33) (by decide) (fun h => absurd h (nI_pos (by omega))) (fun _ => ?_)
      refine lv_iload_n hx hb d_Mo_cell_11 rfl (lv_at hl 2 rfl) ?_
      refine lv_aload_n hx hb d_Mo_cell_12 rfl (lv_at hl 0 rfl) ?_
      refine vp_callSi (va_Run.run (run_V S v_Mo_26 (c_Mo_side la G mo mc_ mv_ mk_ mx_ L n x0 y0 x1 y1 hL) ⟨rfl, rfl⟩ ⟨Nat.le_of_ble_eq_true rfl, Nat.le_of_ble_eq_true rfl⟩ (preR_V hP hk hs [0] rfl 0 rfl rfl) (rest := [.int (nI j)]) rfl hl.1 rfl (Nat.le_of_ble_eq_true rfl) d_Mo_cell_13 ⟨Nat.le_refl _, Nat.le_refl _⟩)) (fun r13 hr13 => ?_)
      subst hr13
      refine lv_aload_n hx hb d_Mo_cell_16 rfl (lv_at hl 0 rfl) ?_
      refine vp_callSi (va_Run.run (run_V S v_Mo_26 (c_Mo_side la G mo mc_ mv_ mk_ mx_ L n x0 y0 x1 y1 hL) ⟨rfl, rfl⟩ ⟨Nat.le_of_ble_eq_true rfl, Nat.le_of_ble_eq_true rfl⟩ (preR_V hP hk hs [0] rfl 0 rfl rfl) (rest := [.int (nI (2 ^ L)), .int (nI j)]) rfl hl.1 rfl (Nat.le_of_ble_eq_true rfl) d_Mo_cell_17 ⟨Nat.le_refl _, Nat.le_refl _⟩)) (fun r17 hr17 => ?_)
      subst hr17
      refine x_imul hx hb d_Mo_cell_20 ?_
      refine x_icmp_ge hx hb d_Mo_cell_21 (tgt := 33) (by decide) (by omega) (by omega) (fun h21 => ?_) (fun h21 => ?_)
      · refine lv_iconst (v := (-1)) hx hb d_Mo_cell_33 (by decide) ?_
        exact hret _ _ _ rfl (Or.inr ⟨by first | exact fun z => q1 z.1 | (rintro ⟨-, i, hi, rfl⟩; exact nI_pos (by omega) hx0) | (rintro ⟨-, i, hi, e⟩; rw [nI_eq hj (by omega)] at e; omega), rfl⟩) d_Mo_cell_34
      · refine lv_aload_n hx hb d_Mo_cell_24 rfl (lv_at hl 0 rfl) ?_
        refine lv_iload_n hx hb d_Mo_cell_25 rfl (lv_at hl 1 rfl) ?_
        refine lv_iload_n hx hb d_Mo_cell_26 rfl (lv_at hl 2 rfl) ?_
        refine vp_callSi (va_Run.run (run_V S v_Mo_57 (c_Mo_cellOf la G mo mc_ mv_ mk_ mx_ L n x0 y0 x1 y1 k j hL hk' (by omega)) ⟨rfl, rfl⟩ ⟨Nat.le_of_ble_eq_true rfl, Nat.le_of_ble_eq_true rfl⟩ (preR_V hP hk hs [0] rfl 0 rfl rfl) (rest := []) rfl hl.1 rfl (Nat.le_of_ble_eq_true rfl) d_Mo_cell_27 ⟨Nat.le_refl _, Nat.le_refl _⟩)) (fun r3 hr3 => ?_)
        subst hr3
        refine lv_goto hx hb d_Mo_cell_30 (tgt := 34) (by decide) ?_
        exact hret _ _ _ rfl (Or.inl ⟨k, j, hk', by omega, rfl, rfl, rfl⟩) d_Mo_cell_34
    · refine lv_if_eq hx hb d_Mo_cell_4 (tgt := 33) (by decide) (fun _ => ?_) (fun h => absurd (by decide) h)
      refine lv_iconst (v := (-1)) hx hb d_Mo_cell_33 (by decide) ?_
      exact hret _ _ _ rfl (Or.inr ⟨by first | exact fun z => q1 z.1 | (rintro ⟨-, i, hi, rfl⟩; exact nI_pos (by omega) hx0) | (rintro ⟨-, i, hi, e⟩; rw [nI_eq hj (by omega)] at e; omega), rfl⟩) d_Mo_cell_34
set_option maxHeartbeats 4000000 in
set_option maxRecDepth 100000 in
theorem c_Mo_many (la : Launch) (G : gG) (mo mc_ mv_ mk_ mx_ L n x0 y0 x1 y1 : Nat) (C V K X : Nat → Nat)  (hM : okMo (L, (n, C, V), (x0, y0, x1, y1), (K, X))) : MetR la y_Mo_many b_Mo_many 1 .int 0 0 [.ref mo] G [(mo, .inr (4, [.int (nI L), .int (nI n), .ref mc_, .ref mv_, .int (nI x0), .int (nI y0), .int (nI x1), .int (nI y1), .ref mk_, .ref mx_])), (mc_, .inl (G.2.1, 500, .inl (fun zz => nI (C zz)))), (mv_, .inl (G.2.1, 500, .inl (fun zz => nI (V zz)))), (mk_, .inl (G.2.1, 4096, .inl (fun zz => nI (K zz)))), (mx_, .inl (G.2.1, 4096, .inl (fun zz => nI (X zz))))] (fun r => r = nI n) := by
  refine MetR.mk (by decide +kernel) (Nat.le_of_ble_eq_true rfl) ?_
  intro p e s m below meth c Q ls S hP hk hs hret hl
  have hx := S.1
  have hb := S.2.1
  have hM' := hM
  obtain ⟨⟨hL1, hL⟩, hm, ⟨hC, hV⟩, hF, hK, hX⟩ := hM
  dsimp only at hL1 hL hm hC hV hF hK hX
  have hFb := hF.b hL
  obtain ⟨hf1, hf2, hf3, hf4⟩ := hF
  dsimp only at hf1 hf2 hf3 hf4 hFb
  have hp2 := p2_15 hL
  have hp4 := p4_15 hL
  have hpp := Nat.two_pow_pos L
  have hn5 := hm.1
  have hl : lv_has ls 1 [(0, .ref mo)] := hl
  refine lv_aload_n hx hb d_Mo_many_0 rfl (lv_at hl 0 rfl) ?_
  refine y_get S hk hP 0 rfl f_Mo_30 rfl d_Mo_many_1 ?_
  exact hret _ _ _ rfl (rfl) d_Mo_many_4
set_option maxHeartbeats 4000000 in
set_option maxRecDepth 100000 in
theorem c_Mo_at (la : Launch) (G : gG) (mo mc_ mv_ mk_ mx_ L n x0 y0 x1 y1 : Nat) (C V K X : Nat → Nat) (x y : Int32) (hM : okMo (L, (n, C, V), (x0, y0, x1, y1), (K, X))) : MetR la y_Mo_at b_Mo_at 4 .int 2 42 [.ref mo, .int x, .int y] G [(mo, .inr (4, [.int (nI L), .int (nI n), .ref mc_, .ref mv_, .int (nI x0), .int (nI y0), .int (nI x1), .int (nI y1), .ref mk_, .ref mx_])), (mc_, .inl (G.2.1, 500, .inl (fun zz => nI (C zz)))), (mv_, .inl (G.2.1, 500, .inl (fun zz => nI (V zz)))), (mk_, .inl (G.2.1, 4096, .inl (fun zz => nI (K zz)))), (mx_, .inl (G.2.1, 4096, .inl (fun zz => nI (X zz))))] (fun r => atS L n C V x y r) := by
  refine MetR.mk (by decide +kernel) (Nat.le_of_ble_eq_true rfl) ?_
  intro p e s m below meth c Q ls S hP hk hs hret hl
  have hx := S.1
  have hb := S.2.1
  have hM' := hM
  obtain ⟨⟨hL1, hL⟩, hm, ⟨hC, hV⟩, hF, hK, hX⟩ := hM
  dsimp only at hL1 hL hm hC hV hF hK hX
  have hFb := hF.b hL
  obtain ⟨hf1, hf2, hf3, hf4⟩ := hF
  dsimp only at hf1 hf2 hf3 hf4 hFb
  have hp2 := p2_15 hL
  have hp4 := p4_15 hL
  have hpp := Nat.two_pow_pos L
  have hn5 := hm.1
  have hl : lv_has ls 4 [(0, .ref mo), (1, .int x), (2, .int y)] := hl
  refine lv_aload_n hx hb d_Mo_at_0 rfl (lv_at hl 0 rfl) ?_
  refine lv_iload_n hx hb d_Mo_at_1 rfl (lv_at hl 1 rfl) ?_
  refine lv_iload_n hx hb d_Mo_at_2 rfl (lv_at hl 2 rfl) ?_
  refine vp_callSi (va_Run.run (run_V S v_Mo_49 (c_Mo_isCell la G mo mc_ mv_ mk_ mx_ L n x0 y0 x1 y1 x y hL) ⟨rfl, rfl⟩ ⟨Nat.le_of_ble_eq_true rfl, Nat.le_of_ble_eq_true rfl⟩ (preR_V hP hk hs [0] rfl 0 rfl rfl) (rest := []) rfl hl.1 rfl (Nat.le_of_ble_eq_true rfl) d_Mo_at_3 ⟨Nat.le_refl _, Nat.le_refl _⟩)) (fun r1 hr1 => ?_)
  rcases hr1 with ⟨rfl, a, b, ha, hb', rfl, rfl⟩ | ⟨rfl, q1⟩
  · have hl : lv_has ls 4 [(0, .ref mo), (1, .int (nI a)), (2, .int (nI b))] := hl
    have hcm := (cl_mk ha hb').1
    refine lv_if_ne hx hb d_Mo_at_6 (tgt := 11) (by decide) (fun _ => ?_) (fun h => absurd h (by decide))
    refine lv_aload_n hx hb d_Mo_at_11 rfl (lv_at hl 0 rfl) ?_
    refine lv_iload_n hx hb d_Mo_at_12 rfl (lv_at hl 1 rfl) ?_
    refine lv_aload_n hx hb d_Mo_at_13 rfl (lv_at hl 0 rfl) ?_
    refine vp_callSi (va_Run.run (run_V S v_Mo_26 (c_Mo_side la G mo mc_ mv_ mk_ mx_ L n x0 y0 x1 y1 hL) ⟨rfl, rfl⟩ ⟨Nat.le_of_ble_eq_true rfl, Nat.le_of_ble_eq_true rfl⟩ (preR_V hP hk hs [0] rfl 0 rfl rfl) (rest := [.int (nI a), .ref mo]) rfl hl.1 rfl (Nat.le_of_ble_eq_true rfl) d_Mo_at_14 ⟨Nat.le_refl _, Nat.le_refl _⟩)) (fun r14 hr14 => ?_)
    subst hr14
    refine x_imul hx hb d_Mo_at_17 ?_
    refine lv_iload_n hx hb d_Mo_at_18 rfl (lv_at hl 2 rfl) ?_
    refine x_iadd hx hb d_Mo_at_19 ?_
    refine vp_callSi (va_Run.run (run_V S v_Mo_61 (c_Mo_find la G mo mc_ mv_ mk_ mx_ L n x0 y0 x1 y1 C (a * 2 ^ L + b) hn5 hC (by omega)) ⟨rfl, rfl⟩ ⟨Nat.le_of_ble_eq_true rfl, Nat.le_of_ble_eq_true rfl⟩ (preR_V hP hk hs [0, 1] rfl 0 rfl rfl) (rest := []) rfl hl.1 rfl (Nat.le_of_ble_eq_true rfl) d_Mo_at_20 ⟨Nat.le_refl _, Nat.le_refl _⟩)) (fun r2 hr2 => ?_)
    obtain ⟨q, hfd, rfl⟩ := hr2
    have hq := hfd.1
    refine lv_istore_n hx hb d_Mo_at_23 rfl hl (by decide) rfl (fun ls hl => ?_)
    have hl : lv_has ls 4 [(3, .int (nI q)), (0, .ref mo), (1, .int (nI a)), (2, .int (nI b))] := hl
    refine lv_iload_n hx hb d_Mo_at_24 rfl (lv_at hl 0 rfl) ?_
    refine lv_aload_n hx hb d_Mo_at_25 rfl (lv_at hl 1 rfl) ?_
    refine y_get S hk hP 0 rfl f_Mo_30 rfl d_Mo_at_26 ?_
    refine x_icmp_ge hx hb d_Mo_at_29 (tgt := 41) (by decide) (by omega) (by omega) (fun h29 => ?_) (fun h29 => ?_)
    · refine lv_iconst (v := nI 0) hx hb d_Mo_at_41 (by decide) ?_
      exact hret _ _ _ rfl (Or.inl ⟨a, b, ha, hb', rfl, rfl, by first | rw [hm.wt1 hfd h29] | rw [hfd.wt0 (by omega)]⟩) d_Mo_at_42
    · refine lv_aload_n hx hb d_Mo_at_32 rfl (lv_at hl 1 rfl) ?_
      refine y_get S hk hP 0 rfl f_Mo_17 rfl d_Mo_at_33 ?_
      refine lv_iload_n hx hb d_Mo_at_36 rfl (lv_at hl 0 rfl) ?_
      refine y_ald hx hb hk hP 2 rfl (by omega) (by decide) d_Mo_at_37 ?_
      refine lv_goto hx hb d_Mo_at_38 (tgt := 42) (by decide) ?_
      exact hret _ _ _ rfl (Or.inl ⟨a, b, ha, hb', rfl, rfl, by first | rw [hm.wt1 hfd h29] | rw [hfd.wt0 (by omega)]⟩) d_Mo_at_42
  · refine lv_if_ne hx hb d_Mo_at_6 (tgt := 11) (by decide) (fun h => absurd rfl h) (fun _ => ?_)
    refine lv_iconst (v := (-1)) hx hb d_Mo_at_9 (by decide) ?_
    exact hret _ _ _ rfl (Or.inr ⟨q1, rfl⟩) d_Mo_at_10
set_option maxHeartbeats 4000000 in
set_option maxRecDepth 100000 in
theorem c_Mo_inside (la : Launch) (G : gG) (mo mc_ mv_ mk_ mx_ L n x0 y0 x1 y1 : Nat) (C V K X : Nat → Nat)  (hM : okMo (L, (n, C, V), (x0, y0, x1, y1), (K, X))) : MetR la y_Mo_inside b_Mo_inside 3 .int 2 43 [.ref mo] G [(mo, .inr (4, [.int (nI L), .int (nI n), .ref mc_, .ref mv_, .int (nI x0), .int (nI y0), .int (nI x1), .int (nI y1), .ref mk_, .ref mx_])), (mc_, .inl (G.2.1, 500, .inl (fun zz => nI (C zz)))), (mv_, .inl (G.2.1, 500, .inl (fun zz => nI (V zz)))), (mk_, .inl (G.2.1, 4096, .inl (fun zz => nI (K zz)))), (mx_, .inl (G.2.1, 4096, .inl (fun zz => nI (X zz))))] (fun r => r = nI (ins L (x0, y0, x1, y1) n C)) := by
  refine MetR.mk (by decide +kernel) (Nat.le_of_ble_eq_true rfl) ?_
  intro p e s m below meth c Q ls S hP hk hs hret hl
  have hx := S.1
  have hb := S.2.1
  have hM' := hM
  obtain ⟨⟨hL1, hL⟩, hm, ⟨hC, hV⟩, hF, hK, hX⟩ := hM
  dsimp only at hL1 hL hm hC hV hF hK hX
  have hFb := hF.b hL
  obtain ⟨hf1, hf2, hf3, hf4⟩ := hF
  dsimp only at hf1 hf2 hf3 hf4 hFb
  have hp2 := p2_15 hL
  have hp4 := p4_15 hL
  have hpp := Nat.two_pow_pos L
  have hn5 := hm.1
  have hl : lv_has ls 3 [(0, .ref mo)] := hl
  refine lv_iconst (v := nI 0) hx hb d_Mo_inside_0 (by decide) ?_
  refine lv_istore_n hx hb d_Mo_inside_1 rfl hl (by decide) rfl (fun ls hl => ?_)
  have hl : lv_has ls 3 [(1, .int (nI 0)), (0, .ref mo)] := hl
  refine lv_iconst (v := nI 0) hx hb d_Mo_inside_2 (by decide) ?_
  refine lv_istore_n hx hb d_Mo_inside_3 rfl hl (by decide) rfl (fun ls hl => ?_)
  have hl : lv_has ls 3 [(2, .int (nI 0)), (1, .int (nI 0)), (0, .ref mo)] := hl
  refine (?_ : ∀ (d : Nat) (q : Nat) (g : Nat) (ls : Array Slot), n - q < d → lv_has ls 3 [(2, .int (nI q)), (1, .int (nI g)), (0, .ref mo)] → (q ≤ n) → (g = ins L (x0, y0, x1, y1) q C) → W p la e _ s m _ below meth c s.heap [] 0 0 Q (F0 m 4 ls [])) (n - 0 + 1) 0 0 ls (Nat.lt_succ_self _) hl (Nat.zero_le _) (rfl)
  intro d
  induction d with
  | zero => intro q g ls hd; exact absurd hd (Nat.not_lt_zero _)
  | succ d ih =>
    intro q g ls hd hl hq hg
    refine lv_iload_n hx hb d_Mo_inside_4 rfl (lv_at hl 0 rfl) ?_
    refine lv_aload_n hx hb d_Mo_inside_5 rfl (lv_at hl 2 rfl) ?_
    refine y_get S hk hP 0 rfl f_Mo_30 rfl d_Mo_inside_6 ?_
    refine x_icmp_ge hx hb d_Mo_inside_9 (tgt := 34) (by decide) (by omega) (by omega) (fun h9 => ?_) (fun h9 => ?_)
    · refine lv_iload_n hx hb d_Mo_inside_34 rfl (lv_at hl 1 rfl) ?_
      exact hret _ _ _ rfl (by rw [hg, show q = n by omega]) d_Mo_inside_35
    · refine lv_aload_n hx hb d_Mo_inside_12 rfl (lv_at hl 2 rfl) ?_
      refine lv_iload_n hx hb d_Mo_inside_13 rfl (lv_at hl 0 rfl) ?_
      refine vp_callSi (va_Run.run (run_V S v_Mo_65 (c_Mo_isInside la G mo mc_ mv_ mk_ mx_ L n x0 y0 x1 y1 C q hL hC (by omega) (by omega) (by omega) (by omega) (by omega)) ⟨rfl, rfl⟩ ⟨Nat.le_of_ble_eq_true rfl, Nat.le_of_ble_eq_true rfl⟩ (preR_V hP hk hs [0, 1] rfl 0 rfl rfl) (rest := []) rfl hl.1 rfl (Nat.le_of_ble_eq_true rfl) d_Mo_inside_14 ⟨Nat.le_refl _, Nat.le_refl _⟩)) (fun r1 hr1 => ?_)
      rcases hr1 with ⟨rfl, q1⟩ | ⟨rfl, q1⟩
      · refine lv_if_eq hx hb d_Mo_inside_17 (tgt := 26) (by decide) (fun h => absurd h (by decide)) (fun _ => ?_)
        refine lv_iload_n hx hb d_Mo_inside_20 rfl (lv_at hl 1 rfl) ?_
        refine lv_iconst (v := nI 1) hx hb d_Mo_inside_21 (by decide) ?_
        refine x_iadd hx hb d_Mo_inside_22 ?_
        refine lv_goto hx hb d_Mo_inside_23 (tgt := 27) (by decide) ?_
        refine lv_istore_n hx hb d_Mo_inside_27 rfl hl (by decide) rfl (fun ls hl => ?_)
        have hl : lv_has ls 3 [(1, .int (nI (g + 1))), (2, .int (nI q)), (0, .ref mo)] := hl
        refine lv_iinc (v := nI (q + 1)) hx hb d_Mo_inside_28 hl (k := 1) rfl (ii_p _ 1) (by decide) rfl (fun ls hl => ?_)
        have hl : lv_has ls 3 [(2, .int (nI (q + 1))), (1, .int (nI (g + 1))), (0, .ref mo)] := hl
        refine lv_goto hx hb d_Mo_inside_31 (tgt := 4) (by decide) ?_
        have hl := lv_sub hl [0, 1, 2] rfl
        exact ih (q + 1) _ _ (by omega) hl (by omega) (by first | rw [hg, ins_1 q1] | rw [hg, ins_0 q1])
      · refine lv_if_eq hx hb d_Mo_inside_17 (tgt := 26) (by decide) (fun _ => ?_) (fun h => absurd (by decide) h)
        refine lv_iload_n hx hb d_Mo_inside_26 rfl (lv_at hl 1 rfl) ?_
        refine lv_istore_n hx hb d_Mo_inside_27 rfl hl (by decide) rfl (fun ls hl => ?_)
        have hl : lv_has ls 3 [(1, .int (nI g)), (2, .int (nI q)), (0, .ref mo)] := hl
        refine lv_iinc (v := nI (q + 1)) hx hb d_Mo_inside_28 hl (k := 1) rfl (ii_p _ 1) (by decide) rfl (fun ls hl => ?_)
        have hl : lv_has ls 3 [(2, .int (nI (q + 1))), (1, .int (nI g)), (0, .ref mo)] := hl
        refine lv_goto hx hb d_Mo_inside_31 (tgt := 4) (by decide) ?_
        have hl := lv_sub hl [0, 1, 2] rfl
        exact ih (q + 1) _ _ (by omega) hl (by omega) (by first | rw [hg, ins_1 q1] | rw [hg, ins_0 q1])
set_option maxHeartbeats 4000000 in
set_option maxRecDepth 100000 in
theorem c_Mo_sum (la : Launch) (G : gG) (mo mc_ mv_ mk_ mx_ L n x0 y0 x1 y1 : Nat) (C V K X : Nat → Nat)  (hM : okMo (L, (n, C, V), (x0, y0, x1, y1), (K, X))) : MetR la y_Mo_sum b_Mo_sum 3 .int 2 43 [.ref mo] G [(mo, .inr (4, [.int (nI L), .int (nI n), .ref mc_, .ref mv_, .int (nI x0), .int (nI y0), .int (nI x1), .int (nI y1), .ref mk_, .ref mx_])), (mc_, .inl (G.2.1, 500, .inl (fun zz => nI (C zz)))), (mv_, .inl (G.2.1, 500, .inl (fun zz => nI (V zz)))), (mk_, .inl (G.2.1, 4096, .inl (fun zz => nI (K zz)))), (mx_, .inl (G.2.1, 4096, .inl (fun zz => nI (X zz))))] (fun r => r = nI (sum L (x0, y0, x1, y1) n C V)) := by
  refine MetR.mk (by decide +kernel) (Nat.le_of_ble_eq_true rfl) ?_
  intro p e s m below meth c Q ls S hP hk hs hret hl
  have hx := S.1
  have hb := S.2.1
  have hM' := hM
  obtain ⟨⟨hL1, hL⟩, hm, ⟨hC, hV⟩, hF, hK, hX⟩ := hM
  dsimp only at hL1 hL hm hC hV hF hK hX
  have hFb := hF.b hL
  obtain ⟨hf1, hf2, hf3, hf4⟩ := hF
  dsimp only at hf1 hf2 hf3 hf4 hFb
  have hp2 := p2_15 hL
  have hp4 := p4_15 hL
  have hpp := Nat.two_pow_pos L
  have hn5 := hm.1
  have hl : lv_has ls 3 [(0, .ref mo)] := hl
  refine lv_iconst (v := nI 0) hx hb d_Mo_sum_0 (by decide) ?_
  refine lv_istore_n hx hb d_Mo_sum_1 rfl hl (by decide) rfl (fun ls hl => ?_)
  have hl : lv_has ls 3 [(1, .int (nI 0)), (0, .ref mo)] := hl
  refine lv_iconst (v := nI 0) hx hb d_Mo_sum_2 (by decide) ?_
  refine lv_istore_n hx hb d_Mo_sum_3 rfl hl (by decide) rfl (fun ls hl => ?_)
  have hl : lv_has ls 3 [(2, .int (nI 0)), (1, .int (nI 0)), (0, .ref mo)] := hl
  refine (?_ : ∀ (d : Nat) (q : Nat) (g : Nat) (ls : Array Slot), n - q < d → lv_has ls 3 [(2, .int (nI q)), (1, .int (nI g)), (0, .ref mo)] → (q ≤ n) → (g = sum L (x0, y0, x1, y1) q C V) → W p la e _ s m _ below meth c s.heap [] 0 0 Q (F0 m 4 ls [])) (n - 0 + 1) 0 0 ls (Nat.lt_succ_self _) hl (Nat.zero_le _) (rfl)
  intro d
  induction d with
  | zero => intro q g ls hd; exact absurd hd (Nat.not_lt_zero _)
  | succ d ih =>
    intro q g ls hd hl hq hg
    refine lv_iload_n hx hb d_Mo_sum_4 rfl (lv_at hl 0 rfl) ?_
    refine lv_aload_n hx hb d_Mo_sum_5 rfl (lv_at hl 2 rfl) ?_
    refine y_get S hk hP 0 rfl f_Mo_30 rfl d_Mo_sum_6 ?_
    refine x_icmp_ge hx hb d_Mo_sum_9 (tgt := 39) (by decide) (by omega) (by omega) (fun h9 => ?_) (fun h9 => ?_)
    · refine lv_iload_n hx hb d_Mo_sum_39 rfl (lv_at hl 1 rfl) ?_
      exact hret _ _ _ rfl (by rw [hg, show q = n by omega]) d_Mo_sum_40
    · refine lv_aload_n hx hb d_Mo_sum_12 rfl (lv_at hl 2 rfl) ?_
      refine lv_iload_n hx hb d_Mo_sum_13 rfl (lv_at hl 0 rfl) ?_
      refine vp_callSi (va_Run.run (run_V S v_Mo_65 (c_Mo_isInside la G mo mc_ mv_ mk_ mx_ L n x0 y0 x1 y1 C q hL hC (by omega) (by omega) (by omega) (by omega) (by omega)) ⟨rfl, rfl⟩ ⟨Nat.le_of_ble_eq_true rfl, Nat.le_of_ble_eq_true rfl⟩ (preR_V hP hk hs [0, 1] rfl 0 rfl rfl) (rest := []) rfl hl.1 rfl (Nat.le_of_ble_eq_true rfl) d_Mo_sum_14 ⟨Nat.le_refl _, Nat.le_refl _⟩)) (fun r1 hr1 => ?_)
      rcases hr1 with ⟨rfl, q1⟩ | ⟨rfl, q1⟩
      · refine lv_if_eq hx hb d_Mo_sum_17 (tgt := 31) (by decide) (fun h => absurd h (by decide)) (fun _ => ?_)
        refine lv_iload_n hx hb d_Mo_sum_20 rfl (lv_at hl 1 rfl) ?_
        refine lv_aload_n hx hb d_Mo_sum_21 rfl (lv_at hl 2 rfl) ?_
        refine y_get S hk hP 0 rfl f_Mo_17 rfl d_Mo_sum_22 ?_
        refine lv_iload_n hx hb d_Mo_sum_25 rfl (lv_at hl 0 rfl) ?_
        refine y_ald hx hb hk hP 2 rfl (by omega) (by decide) d_Mo_sum_26 ?_
        refine x_iadd hx hb d_Mo_sum_27 ?_
        refine lv_goto hx hb d_Mo_sum_28 (tgt := 32) (by decide) ?_
        refine lv_istore_n hx hb d_Mo_sum_32 rfl hl (by decide) rfl (fun ls hl => ?_)
        have hl : lv_has ls 3 [(1, .int (nI (g + (V q)))), (2, .int (nI q)), (0, .ref mo)] := hl
        refine lv_iinc (v := nI (q + 1)) hx hb d_Mo_sum_33 hl (k := 1) rfl (ii_p _ 1) (by decide) rfl (fun ls hl => ?_)
        have hl : lv_has ls 3 [(2, .int (nI (q + 1))), (1, .int (nI (g + (V q)))), (0, .ref mo)] := hl
        refine lv_goto hx hb d_Mo_sum_36 (tgt := 4) (by decide) ?_
        have hl := lv_sub hl [0, 1, 2] rfl
        exact ih (q + 1) _ _ (by omega) hl (by omega) (by first | rw [hg, sum_1 q1] | rw [hg, sum_0 q1])
      · refine lv_if_eq hx hb d_Mo_sum_17 (tgt := 31) (by decide) (fun _ => ?_) (fun h => absurd (by decide) h)
        refine lv_iload_n hx hb d_Mo_sum_31 rfl (lv_at hl 1 rfl) ?_
        refine lv_istore_n hx hb d_Mo_sum_32 rfl hl (by decide) rfl (fun ls hl => ?_)
        have hl : lv_has ls 3 [(1, .int (nI g)), (2, .int (nI q)), (0, .ref mo)] := hl
        refine lv_iinc (v := nI (q + 1)) hx hb d_Mo_sum_33 hl (k := 1) rfl (ii_p _ 1) (by decide) rfl (fun ls hl => ?_)
        have hl : lv_has ls 3 [(2, .int (nI (q + 1))), (1, .int (nI g)), (0, .ref mo)] := hl
        refine lv_goto hx hb d_Mo_sum_36 (tgt := 4) (by decide) ?_
        have hl := lv_sub hl [0, 1, 2] rfl
        exact ih (q + 1) _ _ (by omega) hl (by omega) (by first | rw [hg, sum_1 q1] | rw [hg, sum_0 q1])
set_option maxHeartbeats 4000000 in
set_option maxRecDepth 100000 in
theorem c_Mo_nth (la : Launch) (G : gG) (mo mc_ mv_ mk_ mx_ L n x0 y0 x1 y1 : Nat) (C V K X : Nat → Nat) (cu i : Int32) (hM : okMo (L, (n, C, V), (x0, y0, x1, y1), (K, X))) : MetR la y_Mo_nth b_Mo_nth 7 .int 3 70 [.ref mo, .int cu, .int i] G [(mo, .inr (4, [.int (nI L), .int (nI n), .ref mc_, .ref mv_, .int (nI x0), .int (nI y0), .int (nI x1), .int (nI y1), .ref mk_, .ref mx_])), (mc_, .inl (G.2.1, 500, .inl (fun zz => nI (C zz)))), (mv_, .inl (G.2.1, 500, .inl (fun zz => nI (V zz)))), (mk_, .inl (G.2.1, 4096, .inl (fun zz => nI (K zz)))), (mx_, .inl (G.2.1, 4096, .inl (fun zz => nI (X zz))))] (fun r => nthQ L (x0, y0, x1, y1) n C n C cu i r) := by
  refine MetR.mk (by decide +kernel) (Nat.le_of_ble_eq_true rfl) ?_
  intro p e s m below meth c Q ls S hP hk hs hret hl
  have hx := S.1
  have hb := S.2.1
  have hM' := hM
  obtain ⟨⟨hL1, hL⟩, hm, ⟨hC, hV⟩, hF, hK, hX⟩ := hM
  dsimp only at hL1 hL hm hC hV hF hK hX
  have hFb := hF.b hL
  obtain ⟨hf1, hf2, hf3, hf4⟩ := hF
  dsimp only at hf1 hf2 hf3 hf4 hFb
  have hp2 := p2_15 hL
  have hp4 := p4_15 hL
  have hpp := Nat.two_pow_pos L
  have hn5 := hm.1
  rcases ng i with hi0 | ⟨iv, hiv, rfl⟩
  · have hl : lv_has ls 7 [(0, .ref mo), (1, .int cu), (2, .int i)] := hl
    refine lv_iload_n hx hb d_Mo_nth_0 rfl (lv_at hl 1 rfl) ?_
    refine vp_callSi (va_Run.run (run_S S v_Mo_45 (c_Mo_isCurve la G cu) ⟨rfl, rfl⟩ ⟨Nat.le_of_ble_eq_true rfl, Nat.le_of_ble_eq_true rfl⟩ (preR_S hP hk hs [] rfl) (rest := []) rfl hl.1 rfl (Nat.le_of_ble_eq_true rfl) d_Mo_nth_1 ⟨Nat.le_refl _, Nat.le_refl _⟩)) (fun r1 hr1 => ?_)
    rcases hr1 with ⟨rfl, k, hk', rfl⟩ | ⟨rfl, q1⟩
    · have hl : lv_has ls 7 [(0, .ref mo), (1, .int (nI k)), (2, .int i)] := hl
      refine lv_if_eq hx hb d_Mo_nth_4 (tgt := 11) (by decide) (fun h => absurd h (by decide)) (fun _ => ?_)
      refine lv_iload_n hx hb d_Mo_nth_7 rfl (lv_at hl 2 rfl) ?_
      refine lv_if_ge hx hb d_Mo_nth_8 (tgt := 13) (by decide) (fun h => absurd h (ng_ge hi0)) (fun _ => ?_)
      refine lv_iconst (v := (-1)) hx hb d_Mo_nth_11 (by decide) ?_
      exact hret _ _ _ rfl (by first | exact Or.inr (Or.inr ⟨q1, rfl⟩) | exact nth_neg ⟨k, hk', rfl⟩ hn5 hi0) d_Mo_nth_12
    · refine lv_if_eq hx hb d_Mo_nth_4 (tgt := 11) (by decide) (fun _ => ?_) (fun h => absurd (by decide) h)
      refine lv_iconst (v := (-1)) hx hb d_Mo_nth_11 (by decide) ?_
      exact hret _ _ _ rfl (by first | exact Or.inr (Or.inr ⟨q1, rfl⟩) | exact nth_neg ⟨k, hk', rfl⟩ hn5 hi0) d_Mo_nth_12
  · have hl : lv_has ls 7 [(0, .ref mo), (1, .int cu), (2, .int (nI iv))] := hl
    refine lv_iload_n hx hb d_Mo_nth_0 rfl (lv_at hl 1 rfl) ?_
    refine vp_callSi (va_Run.run (run_S S v_Mo_45 (c_Mo_isCurve la G cu) ⟨rfl, rfl⟩ ⟨Nat.le_of_ble_eq_true rfl, Nat.le_of_ble_eq_true rfl⟩ (preR_S hP hk hs [] rfl) (rest := []) rfl hl.1 rfl (Nat.le_of_ble_eq_true rfl) d_Mo_nth_1 ⟨Nat.le_refl _, Nat.le_refl _⟩)) (fun r1 hr1 => ?_)
    rcases hr1 with ⟨rfl, k, hk', rfl⟩ | ⟨rfl, q1⟩
    · have hl : lv_has ls 7 [(0, .ref mo), (1, .int (nI k)), (2, .int (nI iv))] := hl
      refine lv_if_eq hx hb d_Mo_nth_4 (tgt := 11) (by decide) (fun h => absurd h (by decide)) (fun _ => ?_)
      refine lv_iload_n hx hb d_Mo_nth_7 rfl (lv_at hl 2 rfl) ?_
      refine lv_if_ge hx hb d_Mo_nth_8 (tgt := 13) (by decide) (fun _ => ?_) (fun h => absurd (nI_pos' (by omega)) h)
      refine lv_iconst (v := nI 0) hx hb d_Mo_nth_13 (by decide) ?_
      refine lv_istore_n hx hb d_Mo_nth_14 rfl hl (by decide) rfl (fun ls hl => ?_)
      have hl : lv_has ls 7 [(3, .int (nI 0)), (0, .ref mo), (1, .int (nI k)), (2, .int (nI iv))] := hl
      have hcl : ∀ j, j < n → C j < 2 ^ L * 2 ^ L := fun j hj => (hm.2.1 j hj).1
      have hkl : ∀ j, j < n → ke k L (C j) < 2147483648 := fun j hj => ke_31 hL (hcl j hj)
      refine (?_ : ∀ (d : Nat) (q : Nat) (ls : Array Slot), n - q < d → lv_has ls 7 [(3, .int (nI q)), (0, .ref mo), (1, .int (nI k)), (2, .int (nI iv))] → (q ≤ n) → (∀ j, j < q → inc L (x0, y0, x1, y1) (C j) = true → nI (rk k L (x0, y0, x1, y1) n C (ke k L (C j))) ≠ nI iv) → W p la e _ s m _ below meth c s.heap [] 0 0 Q (F0 m 15 ls [])) (n - 0 + 1) 0 ls (Nat.lt_succ_self _) hl (Nat.zero_le _) (fun j h => absurd h (Nat.not_lt_zero _))
      intro d
      induction d with
      | zero => intro q ls hd; exact absurd hd (Nat.not_lt_zero _)
      | succ d ih =>
        intro q ls hd hl hq hno
        refine lv_iload_n hx hb d_Mo_nth_15 rfl (lv_at hl 0 rfl) ?_
        refine lv_aload_n hx hb d_Mo_nth_16 rfl (lv_at hl 1 rfl) ?_
        refine y_get S hk hP 0 rfl f_Mo_30 rfl d_Mo_nth_17 ?_
        refine x_icmp_ge hx hb d_Mo_nth_20 (tgt := 111) (by decide) (by omega) (by omega) (fun h20 => ?_) (fun h20 => ?_)
        · refine lv_iconst (v := (-1)) hx hb d_Mo_nth_111 (by decide) ?_
          exact hret _ _ _ rfl (nthQ_k hk' (Or.inr ⟨fun j hj hin => hno j (by omega) hin, rfl⟩)) d_Mo_nth_112
        · refine lv_aload_n hx hb d_Mo_nth_23 rfl (lv_at hl 1 rfl) ?_
          refine lv_iload_n hx hb d_Mo_nth_24 rfl (lv_at hl 0 rfl) ?_
          refine vp_callSi (va_Run.run (run_V S v_Mo_65 (c_Mo_isInside la G mo mc_ mv_ mk_ mx_ L n x0 y0 x1 y1 C q hL hC (by omega) (by omega) (by omega) (by omega) (by omega)) ⟨rfl, rfl⟩ ⟨Nat.le_of_ble_eq_true rfl, Nat.le_of_ble_eq_true rfl⟩ (preR_V hP hk hs [0, 1] rfl 0 rfl rfl) (rest := []) rfl hl.1 rfl (Nat.le_of_ble_eq_true rfl) d_Mo_nth_25 ⟨Nat.le_refl _, Nat.le_refl _⟩)) (fun r2 hr2 => ?_)
          rcases hr2 with ⟨rfl, q2⟩ | ⟨rfl, q2⟩
          · refine lv_if_eq hx hb d_Mo_nth_28 (tgt := 105) (by decide) (fun h => absurd h (by decide)) (fun _ => ?_)
            refine lv_iconst (v := nI 0) hx hb d_Mo_nth_31 (by decide) ?_
            refine lv_istore hx hb d_Mo_nth_32 hl (by decide) rfl (fun ls hl => ?_)
            have hl : lv_has ls 7 [(4, .int (nI 0)), (3, .int (nI q)), (0, .ref mo), (1, .int (nI k)), (2, .int (nI iv))] := hl
            refine lv_aload_n hx hb d_Mo_nth_34 rfl (lv_at hl 2 rfl) ?_
            refine lv_iload_n hx hb d_Mo_nth_35 rfl (lv_at hl 3 rfl) ?_
            refine lv_iload_n hx hb d_Mo_nth_36 rfl (lv_at hl 1 rfl) ?_
            refine vp_callSi (va_Run.run (run_V S v_Mo_68 (c_Mo_keyAt la G mo mc_ mv_ mk_ mx_ L n x0 y0 x1 y1 C k q hL hL1 hC hk' (by omega) (hcl q (by omega))) ⟨rfl, rfl⟩ ⟨Nat.le_of_ble_eq_true rfl, Nat.le_of_ble_eq_true rfl⟩ (preR_V hP hk hs [0, 1] rfl 0 rfl rfl) (rest := []) rfl hl.1 rfl (Nat.le_of_ble_eq_true rfl) d_Mo_nth_37 ⟨Nat.le_refl _, Nat.le_refl _⟩)) (fun r3 hr3 => ?_)
            subst hr3
            refine lv_istore hx hb d_Mo_nth_40 hl (by decide) rfl (fun ls hl => ?_)
            have hl : lv_has ls 7 [(5, .int (nI (ke k L (C q)))), (4, .int (nI 0)), (3, .int (nI q)), (0, .ref mo), (1, .int (nI k)), (2, .int (nI iv))] := hl
            refine lv_iconst (v := nI 0) hx hb d_Mo_nth_42 (by decide) ?_
            refine lv_istore hx hb d_Mo_nth_43 hl (by decide) rfl (fun ls hl => ?_)
            have hl : lv_has ls 7 [(6, .int (nI 0)), (5, .int (nI (ke k L (C q)))), (4, .int (nI 0)), (3, .int (nI q)), (0, .ref mo), (1, .int (nI k)), (2, .int (nI iv))] := hl
            have hl := lv_sub hl [0, 1, 2, 3, 4, 5, 6] rfl
            have ihq := ih
            refine (?_ : ∀ (d : Nat) (t : Nat) (gg : Nat) (ls : Array Slot), n - t < d → lv_has ls 7 [(6, .int (nI t)), (5, .int (nI (ke k L (C q)))), (4, .int (nI gg)), (3, .int (nI q)), (0, .ref mo), (1, .int (nI k)), (2, .int (nI iv))] → (t ≤ n) → (gg = rk k L (x0, y0, x1, y1) t C (ke k L (C q))) → W p la e _ s m _ below meth c s.heap [] 0 0 Q (F0 m 45 ls [])) (n - 0 + 1) 0 0 ls (Nat.lt_succ_self _) hl (Nat.zero_le _) (rfl)
            intro d
            induction d with
            | zero => intro t gg ls hd; exact absurd hd (Nat.not_lt_zero _)
            | succ d ih =>
              intro t gg ls hd hl ht hgg
              have hkq := hkl q (by omega)
              have hgl : gg ≤ t := by rw [hgg]; exact rk_le
              refine lv_iload hx hb d_Mo_nth_45 (lv_at hl 0 rfl) ?_
              refine lv_aload_n hx hb d_Mo_nth_47 rfl (lv_at hl 4 rfl) ?_
              refine y_get S hk hP 0 rfl f_Mo_30 rfl d_Mo_nth_48 ?_
              refine x_icmp_ge hx hb d_Mo_nth_51 (tgt := 92) (by decide) (by omega) (by omega) (fun h51 => ?_) (fun h51 => ?_)
              · refine lv_iload hx hb d_Mo_nth_92 (lv_at hl 2 rfl) ?_
                refine lv_iload_n hx hb d_Mo_nth_94 rfl (lv_at hl 6 rfl) ?_
                refine x_icmp_ne hx hb d_Mo_nth_95 (tgt := 105) (by decide) (by omega) (by omega) (fun h95 => ?_) (fun h95 => ?_)
                · refine lv_iinc (v := nI (q + 1)) hx hb d_Mo_nth_105 hl (k := 3) rfl (ii_p _ 1) (by decide) rfl (fun ls hl => ?_)
                  have hl : lv_has ls 7 [(3, .int (nI (q + 1))), (6, .int (nI t)), (5, .int (nI (ke k L (C q)))), (4, .int (nI gg)), (0, .ref mo), (1, .int (nI k)), (2, .int (nI iv))] := hl
                  refine lv_goto hx hb d_Mo_nth_108 (tgt := 15) (by decide) ?_
                  have hl := lv_sub hl [0, 4, 5, 6] rfl
                  exact ihq (q + 1) _ (by omega) hl (by omega) (fun j hj hin => by rcases Nat.lt_or_ge j q with z | z; exact hno j z hin; obtain rfl : j = q := (by omega); exact fun e => h95 (by rw [nI_eq (by have := rk_le (cu := k) (N := L) (F := (x0, y0, x1, y1)) (n := n) (C := C) (k := ke k L (C j)); omega) (by omega)] at e; rw [hgg, show t = n by omega]; exact e))
                · refine lv_aload_n hx hb d_Mo_nth_98 rfl (lv_at hl 4 rfl) ?_
                  refine y_get S hk hP 0 rfl f_Mo_13 rfl d_Mo_nth_99 ?_
                  refine lv_iload_n hx hb d_Mo_nth_102 rfl (lv_at hl 3 rfl) ?_
                  refine y_ald hx hb hk hP 1 rfl (by omega) (by decide) d_Mo_nth_103 ?_
                  exact hret _ _ _ rfl (nthQ_k hk' (Or.inl ⟨q, by omega, q2, by rw [← h95, hgg, show t = n by omega], rfl⟩)) d_Mo_nth_104
              · refine lv_aload_n hx hb d_Mo_nth_54 rfl (lv_at hl 4 rfl) ?_
                refine lv_iload hx hb d_Mo_nth_55 (lv_at hl 0 rfl) ?_
                refine vp_callSi (va_Run.run (run_V S v_Mo_65 (c_Mo_isInside la G mo mc_ mv_ mk_ mx_ L n x0 y0 x1 y1 C t hL hC (by omega) (by omega) (by omega) (by omega) (by omega)) ⟨rfl, rfl⟩ ⟨Nat.le_of_ble_eq_true rfl, Nat.le_of_ble_eq_true rfl⟩ (preR_V hP hk hs [0, 1] rfl 0 rfl rfl) (rest := []) rfl hl.1 rfl (Nat.le_of_ble_eq_true rfl) d_Mo_nth_57 ⟨Nat.le_refl _, Nat.le_refl _⟩)) (fun r4 hr4 => ?_)
                rcases hr4 with ⟨rfl, q4⟩ | ⟨rfl, q4⟩
                · refine lv_if_eq hx hb d_Mo_nth_60 (tgt := 82) (by decide) (fun h => absurd h (by decide)) (fun _ => ?_)
                  refine lv_aload_n hx hb d_Mo_nth_63 rfl (lv_at hl 4 rfl) ?_
                  refine lv_iload_n hx hb d_Mo_nth_64 rfl (lv_at hl 5 rfl) ?_
                  refine lv_iload hx hb d_Mo_nth_65 (lv_at hl 0 rfl) ?_
                  refine vp_callSi (va_Run.run (run_V S v_Mo_68 (c_Mo_keyAt la G mo mc_ mv_ mk_ mx_ L n x0 y0 x1 y1 C k t hL hL1 hC hk' (by omega) (hcl t (by omega))) ⟨rfl, rfl⟩ ⟨Nat.le_of_ble_eq_true rfl, Nat.le_of_ble_eq_true rfl⟩ (preR_V hP hk hs [0, 1] rfl 0 rfl rfl) (rest := []) rfl hl.1 rfl (Nat.le_of_ble_eq_true rfl) d_Mo_nth_67 ⟨Nat.le_refl _, Nat.le_refl _⟩)) (fun r5 hr5 => ?_)
                  subst hr5
                  have hkt := hkl t (by omega)
                  refine lv_iload hx hb d_Mo_nth_70 (lv_at hl 1 rfl) ?_
                  refine x_icmp_ge hx hb d_Mo_nth_72 (tgt := 82) (by decide) (by omega) (by omega) (fun h72 => ?_) (fun h72 => ?_)
                  · refine lv_iload hx hb d_Mo_nth_82 (lv_at hl 2 rfl) ?_
                    refine lv_istore hx hb d_Mo_nth_84 hl (by decide) rfl (fun ls hl => ?_)
                    have hl : lv_has ls 7 [(4, .int (nI gg)), (6, .int (nI t)), (5, .int (nI (ke k L (C q)))), (3, .int (nI q)), (0, .ref mo), (1, .int (nI k)), (2, .int (nI iv))] := hl
                    refine lv_iinc (v := nI (t + 1)) hx hb d_Mo_nth_86 hl (k := 1) rfl (ii_p _ 1) (by decide) rfl (fun ls hl => ?_)
                    have hl : lv_has ls 7 [(6, .int (nI (t + 1))), (4, .int (nI gg)), (5, .int (nI (ke k L (C q)))), (3, .int (nI q)), (0, .ref mo), (1, .int (nI k)), (2, .int (nI iv))] := hl
                    refine lv_goto hx hb d_Mo_nth_89 (tgt := 45) (by decide) ?_
                    have hl := lv_sub hl [0, 2, 1, 3, 4, 5, 6] rfl
                    exact ih (t + 1) _ _ (by omega) hl (by omega) (by first | rw [hgg, rk_s1 q4 h72] | rw [hgg, rk_s0a h72] | rw [hgg, rk_s0b q4])
                  · refine lv_iload hx hb d_Mo_nth_75 (lv_at hl 2 rfl) ?_
                    refine lv_iconst (v := nI 1) hx hb d_Mo_nth_77 (by decide) ?_
                    refine x_iadd hx hb d_Mo_nth_78 ?_
                    refine lv_goto hx hb d_Mo_nth_79 (tgt := 84) (by decide) ?_
                    refine lv_istore hx hb d_Mo_nth_84 hl (by decide) rfl (fun ls hl => ?_)
                    have hl : lv_has ls 7 [(4, .int (nI (gg + 1))), (6, .int (nI t)), (5, .int (nI (ke k L (C q)))), (3, .int (nI q)), (0, .ref mo), (1, .int (nI k)), (2, .int (nI iv))] := hl
                    refine lv_iinc (v := nI (t + 1)) hx hb d_Mo_nth_86 hl (k := 1) rfl (ii_p _ 1) (by decide) rfl (fun ls hl => ?_)
                    have hl : lv_has ls 7 [(6, .int (nI (t + 1))), (4, .int (nI (gg + 1))), (5, .int (nI (ke k L (C q)))), (3, .int (nI q)), (0, .ref mo), (1, .int (nI k)), (2, .int (nI iv))] := hl
                    refine lv_goto hx hb d_Mo_nth_89 (tgt := 45) (by decide) ?_
                    have hl := lv_sub hl [0, 2, 1, 3, 4, 5, 6] rfl
                    exact ih (t + 1) _ _ (by omega) hl (by omega) (by first | rw [hgg, rk_s1 q4 h72] | rw [hgg, rk_s0a h72] | rw [hgg, rk_s0b q4])
                · refine lv_if_eq hx hb d_Mo_nth_60 (tgt := 82) (by decide) (fun _ => ?_) (fun h => absurd (by decide) h)
                  refine lv_iload hx hb d_Mo_nth_82 (lv_at hl 2 rfl) ?_
                  refine lv_istore hx hb d_Mo_nth_84 hl (by decide) rfl (fun ls hl => ?_)
                  have hl : lv_has ls 7 [(4, .int (nI gg)), (6, .int (nI t)), (5, .int (nI (ke k L (C q)))), (3, .int (nI q)), (0, .ref mo), (1, .int (nI k)), (2, .int (nI iv))] := hl
                  refine lv_iinc (v := nI (t + 1)) hx hb d_Mo_nth_86 hl (k := 1) rfl (ii_p _ 1) (by decide) rfl (fun ls hl => ?_)
                  have hl : lv_has ls 7 [(6, .int (nI (t + 1))), (4, .int (nI gg)), (5, .int (nI (ke k L (C q)))), (3, .int (nI q)), (0, .ref mo), (1, .int (nI k)), (2, .int (nI iv))] := hl
                  refine lv_goto hx hb d_Mo_nth_89 (tgt := 45) (by decide) ?_
                  have hl := lv_sub hl [0, 2, 1, 3, 4, 5, 6] rfl
                  exact ih (t + 1) _ _ (by omega) hl (by omega) (by first | rw [hgg, rk_s1 q4 h72] | rw [hgg, rk_s0a h72] | rw [hgg, rk_s0b q4])
          · refine lv_if_eq hx hb d_Mo_nth_28 (tgt := 105) (by decide) (fun _ => ?_) (fun h => absurd (by decide) h)
            refine lv_iinc (v := nI (q + 1)) hx hb d_Mo_nth_105 hl (k := 0) rfl (ii_p _ 1) (by decide) rfl (fun ls hl => ?_)
            have hl : lv_has ls 7 [(3, .int (nI (q + 1))), (0, .ref mo), (1, .int (nI k)), (2, .int (nI iv))] := hl
            refine lv_goto hx hb d_Mo_nth_108 (tgt := 15) (by decide) ?_
            have hl := lv_sub hl [0, 1, 2, 3] rfl
            exact ih (q + 1) _ (by omega) hl (by omega) (fun j hj hin => by rcases Nat.lt_or_ge j q with z | z; exact hno j z hin; obtain rfl : j = q := (by omega); exact absurd (hin.symm.trans q2) (by decide))
    · refine lv_if_eq hx hb d_Mo_nth_4 (tgt := 11) (by decide) (fun _ => ?_) (fun h => absurd (by decide) h)
      refine lv_iconst (v := (-1)) hx hb d_Mo_nth_11 (by decide) ?_
      exact hret _ _ _ rfl (by first | exact Or.inr (Or.inr ⟨q1, rfl⟩) | exact nth_neg ⟨k, hk', rfl⟩ hn5 hi0) d_Mo_nth_12
set_option maxHeartbeats 4000000 in
set_option maxRecDepth 100000 in
theorem c_Mo_nearest (la : Launch) (G : gG) (mo mc_ mv_ mk_ mx_ L n x0 y0 x1 y1 : Nat) (C V K X : Nat → Nat) (x y : Int32) (hM : okMo (L, (n, C, V), (x0, y0, x1, y1), (K, X))) : MetR la y_Mo_nearest b_Mo_nearest 13 .int 3 70 [.ref mo, .int x, .int y] G [(mo, .inr (4, [.int (nI L), .int (nI n), .ref mc_, .ref mv_, .int (nI x0), .int (nI y0), .int (nI x1), .int (nI y1), .ref mk_, .ref mx_])), (mc_, .inl (G.2.1, 500, .inl (fun zz => nI (C zz)))), (mv_, .inl (G.2.1, 500, .inl (fun zz => nI (V zz)))), (mk_, .inl (G.2.1, 4096, .inl (fun zz => nI (K zz)))), (mx_, .inl (G.2.1, 4096, .inl (fun zz => nI (X zz))))] (fun r => nearQ L n C x y r) := by
  refine MetR.mk (by decide +kernel) (Nat.le_of_ble_eq_true rfl) ?_
  intro p e s m below meth c Q ls S hP hk hs hret hl
  have hx := S.1
  have hb := S.2.1
  have hM' := hM
  obtain ⟨⟨hL1, hL⟩, hm, ⟨hC, hV⟩, hF, hK, hX⟩ := hM
  dsimp only at hL1 hL hm hC hV hF hK hX
  have hFb := hF.b hL
  obtain ⟨hf1, hf2, hf3, hf4⟩ := hF
  dsimp only at hf1 hf2 hf3 hf4 hFb
  have hp2 := p2_15 hL
  have hp4 := p4_15 hL
  have hpp := Nat.two_pow_pos L
  have hn5 := hm.1
  have hl : lv_has ls 13 [(0, .ref mo), (1, .int x), (2, .int y)] := hl
  refine lv_aload_n hx hb d_Mo_nearest_0 rfl (lv_at hl 0 rfl) ?_
  refine lv_iload_n hx hb d_Mo_nearest_1 rfl (lv_at hl 1 rfl) ?_
  refine lv_iload_n hx hb d_Mo_nearest_2 rfl (lv_at hl 2 rfl) ?_
  refine vp_callSi (va_Run.run (run_V S v_Mo_49 (c_Mo_isCell la G mo mc_ mv_ mk_ mx_ L n x0 y0 x1 y1 x y hL) ⟨rfl, rfl⟩ ⟨Nat.le_of_ble_eq_true rfl, Nat.le_of_ble_eq_true rfl⟩ (preR_V hP hk hs [0] rfl 0 rfl rfl) (rest := []) rfl hl.1 rfl (Nat.le_of_ble_eq_true rfl) d_Mo_nearest_3 ⟨Nat.le_refl _, Nat.le_refl _⟩)) (fun r1 hr1 => ?_)
  rcases hr1 with ⟨rfl, a, b, ha, hb', rfl, rfl⟩ | ⟨rfl, q1⟩
  · have hl : lv_has ls 13 [(0, .ref mo), (1, .int (nI a)), (2, .int (nI b))] := hl
    refine lv_if_ne hx hb d_Mo_nearest_6 (tgt := 11) (by decide) (fun _ => ?_) (fun h => absurd h (by decide))
    refine lv_iconst (v := (-1)) hx hb d_Mo_nearest_11 (by decide) ?_
    refine lv_istore_n hx hb d_Mo_nearest_12 rfl hl (by decide) rfl (fun ls hl => ?_)
    have hl : lv_has ls 13 [(3, .int (-1)), (0, .ref mo), (1, .int (nI a)), (2, .int (nI b))] := hl
    refine lv_lconst (v := lN 0) hx hb d_Mo_nearest_13 (by decide) ?_
    refine lv_lstore hx hb d_Mo_nearest_14 hl (by decide) rfl (fun ls hl => ?_)
    have hl : lv_has ls 13 [(4, .long (lN 0)), (3, .int (-1)), (0, .ref mo), (1, .int (nI a)), (2, .int (nI b))] := hl
    refine lv_iconst (v := nI 0) hx hb d_Mo_nearest_16 (by decide) ?_
    refine lv_istore hx hb d_Mo_nearest_17 hl (by decide) rfl (fun ls hl => ?_)
    have hl : lv_has ls 13 [(6, .int (nI 0)), (4, .long (lN 0)), (3, .int (-1)), (0, .ref mo), (1, .int (nI a)), (2, .int (nI b))] := hl
    have hl := lv_sub hl [0, 1, 2, 4, 5, 3] rfl
    have hcl : ∀ j, j < n → C j < 2 ^ L * 2 ^ L := fun j hj => (hm.2.1 j hj).1
    have hdq : ∀ j, j < n → dq L a b (C j) < 2 ^ 40 := fun j hj => dq_lt hL ha hb' (hcl j hj)
    have hkl : ∀ j, j < n → ke 1 L (C j) < 2147483648 := fun j hj => ke_31 hL (hcl j hj)
    refine (?_ : ∀ (d : Nat) (q : Nat) (bb : Int32) (dd : Int64) (ls : Array Slot), n - q < d → lv_has ls 13 [(6, .int (nI q)), (4, .long dd), (3, .int bb), (1, .int (nI a)), (2, .int (nI b)), (0, .ref mo)] → (q ≤ n) → (nrM L a b C q bb dd) → W p la e _ s m _ below meth c s.heap [] 0 0 Q (F0 m 19 ls [])) (n - 0 + 1) 0 (-1) (lN 0) ls (Nat.lt_succ_self _) hl (Nat.zero_le _) (Or.inl ⟨rfl, rfl⟩)
    intro d
    induction d with
    | zero => intro q bb dd ls hd; exact absurd hd (Nat.not_lt_zero _)
    | succ d ih =>
      intro q bb dd ls hd hl hq hi
      rcases nrM_neg hi with hbn | ⟨j, hj, rfl, -⟩
      · refine lv_iload hx hb d_Mo_nearest_19 (lv_at hl 0 rfl) ?_
        refine lv_aload_n hx hb d_Mo_nearest_21 rfl (lv_at hl 5 rfl) ?_
        refine y_get S hk hP 0 rfl f_Mo_30 rfl d_Mo_nearest_22 ?_
        refine x_icmp_ge hx hb d_Mo_nearest_25 (tgt := 124) (by decide) (by omega) (by omega) (fun h25 => ?_) (fun h25 => ?_)
        · refine lv_iload_n hx hb d_Mo_nearest_124 rfl (lv_at hl 2 rfl) ?_
          refine lv_if_ge hx hb d_Mo_nearest_125 (tgt := 132) (by decide) (fun h => absurd h (ng_ge hbn)) (fun _ => ?_)
          refine lv_iconst (v := (-1)) hx hb d_Mo_nearest_128 (by decide) ?_
          refine lv_goto hx hb d_Mo_nearest_129 (tgt := 138) (by decide) ?_
          exact hret _ _ _ rfl (Or.inl ⟨a, b, ha, hb', rfl, rfl, nrM_none (by rw [show n = q by omega]; exact hi) (by omega) hbn⟩) d_Mo_nearest_138
        · refine lv_aload_n hx hb d_Mo_nearest_28 rfl (lv_at hl 5 rfl) ?_
          refine y_get S hk hP 0 rfl f_Mo_13 rfl d_Mo_nearest_29 ?_
          refine lv_iload hx hb d_Mo_nearest_32 (lv_at hl 0 rfl) ?_
          refine y_ald hx hb hk hP 1 rfl (by omega) (by decide) d_Mo_nearest_34 ?_
          have hcq := hC q
          obtain ⟨hc1, hc2⟩ := cl_of (hcl q (by omega))
          refine lv_aload_n hx hb d_Mo_nearest_35 rfl (lv_at hl 5 rfl) ?_
          refine vp_callSi (va_Run.run (run_V S v_Mo_26 (c_Mo_side la G mo mc_ mv_ mk_ mx_ L n x0 y0 x1 y1 hL) ⟨rfl, rfl⟩ ⟨Nat.le_of_ble_eq_true rfl, Nat.le_of_ble_eq_true rfl⟩ (preR_V hP hk hs [0] rfl 0 rfl rfl) (rest := [.int (nI (C q))]) rfl hl.1 rfl (Nat.le_of_ble_eq_true rfl) d_Mo_nearest_36 ⟨Nat.le_refl _, Nat.le_refl _⟩)) (fun r36 hr36 => ?_)
          subst hr36
          refine x_idiv hx hb d_Mo_nearest_39 (by omega) (by omega) (by omega) ?_
          refine lv_iload_n hx hb d_Mo_nearest_40 rfl (lv_at hl 3 rfl) ?_
          refine lv_isub hx hb d_Mo_nearest_41 ?_
          refine lv_i2l hx hb d_Mo_nearest_42 rfl ?_
          refine lv_lstore hx hb d_Mo_nearest_43 hl (by decide) rfl (fun ls hl => ?_)
          have hl : lv_has ls 13 [(7, .long (((nI ((C q) / (2 ^ L))) - (nI a)).toInt64)), (6, .int (nI q)), (4, .long dd), (3, .int bb), (1, .int (nI a)), (2, .int (nI b)), (0, .ref mo)] := hl
          refine lv_aload_n hx hb d_Mo_nearest_45 rfl (lv_at hl 6 rfl) ?_
          refine y_get S hk hP 0 rfl f_Mo_13 rfl d_Mo_nearest_46 ?_
          refine lv_iload hx hb d_Mo_nearest_49 (lv_at hl 1 rfl) ?_
          refine y_ald hx hb hk hP 1 rfl (by omega) (by decide) d_Mo_nearest_51 ?_
          refine lv_aload_n hx hb d_Mo_nearest_52 rfl (lv_at hl 6 rfl) ?_
          refine vp_callSi (va_Run.run (run_V S v_Mo_26 (c_Mo_side la G mo mc_ mv_ mk_ mx_ L n x0 y0 x1 y1 hL) ⟨rfl, rfl⟩ ⟨Nat.le_of_ble_eq_true rfl, Nat.le_of_ble_eq_true rfl⟩ (preR_V hP hk hs [0] rfl 0 rfl rfl) (rest := [.int (nI (C q))]) rfl hl.1 rfl (Nat.le_of_ble_eq_true rfl) d_Mo_nearest_53 ⟨Nat.le_refl _, Nat.le_refl _⟩)) (fun r53 hr53 => ?_)
          subst hr53
          refine x_irem hx hb d_Mo_nearest_56 (by omega) (by omega) (by omega) ?_
          refine lv_iload_n hx hb d_Mo_nearest_57 rfl (lv_at hl 5 rfl) ?_
          refine lv_isub hx hb d_Mo_nearest_58 ?_
          refine lv_i2l hx hb d_Mo_nearest_59 rfl ?_
          refine lv_lstore hx hb d_Mo_nearest_60 hl (by decide) rfl (fun ls hl => ?_)
          have hl : lv_has ls 13 [(9, .long (((nI ((C q) % (2 ^ L))) - (nI b)).toInt64)), (7, .long (((nI ((C q) / (2 ^ L))) - (nI a)).toInt64)), (6, .int (nI q)), (4, .long dd), (3, .int bb), (1, .int (nI a)), (2, .int (nI b)), (0, .ref mo)] := hl
          refine lv_lload hx hb d_Mo_nearest_62 (lv_at hl 1 rfl) ?_
          refine lv_lload hx hb d_Mo_nearest_64 (lv_at hl 1 rfl) ?_
          refine lv_lmul hx hb d_Mo_nearest_66 ?_
          refine lv_lload hx hb d_Mo_nearest_67 (lv_at hl 0 rfl) ?_
          refine lv_lload hx hb d_Mo_nearest_69 (lv_at hl 0 rfl) ?_
          refine lv_lmul hx hb d_Mo_nearest_71 ?_
          refine lv_ladd hx hb d_Mo_nearest_72 ?_
          have edq : (nI (C q / 2 ^ L) - nI a).toInt64 * (nI (C q / 2 ^ L) - nI a).toInt64 + (nI (C q % 2 ^ L) - nI b).toInt64 * (nI (C q % 2 ^ L) - nI b).toInt64 = lN (dq L a b (C q)) := by rw [sqd_l' (by omega) (by omega), sqd_l' (by omega) (by omega), lN_add]; rfl
          refine x_reL edq ?_
          refine lv_lstore hx hb d_Mo_nearest_73 hl (by decide) rfl (fun ls hl => ?_)
          have hl : lv_has ls 13 [(11, .long (lN (dq L a b (C q)))), (9, .long (((nI ((C q) % (2 ^ L))) - (nI b)).toInt64)), (7, .long (((nI ((C q) / (2 ^ L))) - (nI a)).toInt64)), (6, .int (nI q)), (4, .long dd), (3, .int bb), (1, .int (nI a)), (2, .int (nI b)), (0, .ref mo)] := hl
          refine lv_iload_n hx hb d_Mo_nearest_75 rfl (lv_at hl 5 rfl) ?_
          refine lv_if_lt hx hb d_Mo_nearest_76 (tgt := 111) (by decide) (fun _ => ?_) (fun h => absurd hbn h)
          refine lv_iload hx hb d_Mo_nearest_111 (lv_at hl 3 rfl) ?_
          refine lv_istore_n hx hb d_Mo_nearest_113 rfl hl (by decide) rfl (fun ls hl => ?_)
          have hl : lv_has ls 13 [(3, .int (nI q)), (11, .long (lN (dq L a b (C q)))), (9, .long (((nI ((C q) % (2 ^ L))) - (nI b)).toInt64)), (7, .long (((nI ((C q) / (2 ^ L))) - (nI a)).toInt64)), (6, .int (nI q)), (4, .long dd), (1, .int (nI a)), (2, .int (nI b)), (0, .ref mo)] := hl
          refine lv_lload hx hb d_Mo_nearest_114 (lv_at hl 1 rfl) ?_
          refine lv_lstore hx hb d_Mo_nearest_116 hl (by decide) rfl (fun ls hl => ?_)
          have hl : lv_has ls 13 [(4, .long (lN (dq L a b (C q)))), (3, .int (nI q)), (11, .long (lN (dq L a b (C q)))), (9, .long (((nI ((C q) % (2 ^ L))) - (nI b)).toInt64)), (7, .long (((nI ((C q) / (2 ^ L))) - (nI a)).toInt64)), (6, .int (nI q)), (1, .int (nI a)), (2, .int (nI b)), (0, .ref mo)] := hl
          refine lv_iinc (v := nI (q + 1)) hx hb d_Mo_nearest_118 hl (k := 5) rfl (ii_p _ 1) (by decide) rfl (fun ls hl => ?_)
          have hl : lv_has ls 13 [(6, .int (nI (q + 1))), (4, .long (lN (dq L a b (C q)))), (3, .int (nI q)), (11, .long (lN (dq L a b (C q)))), (9, .long (((nI ((C q) % (2 ^ L))) - (nI b)).toInt64)), (7, .long (((nI ((C q) / (2 ^ L))) - (nI a)).toInt64)), (1, .int (nI a)), (2, .int (nI b)), (0, .ref mo)] := hl
          refine lv_goto hx hb d_Mo_nearest_121 (tgt := 19) (by decide) ?_
          have hl := lv_sub hl [0, 1, 2, 6, 7, 8] rfl
          exact ih (q + 1) _ _ _ (by omega) hl (by omega) (nrM_new hi (by omega) hbn)
      · obtain ⟨edd, hmin⟩ := nrM_at hi hj (by omega)
        have hl : lv_has ls 13 [(6, .int (nI q)), (4, .long dd), (3, .int (nI j)), (1, .int (nI a)), (2, .int (nI b)), (0, .ref mo)] := hl
        refine lv_iload hx hb d_Mo_nearest_19 (lv_at hl 0 rfl) ?_
        refine lv_aload_n hx hb d_Mo_nearest_21 rfl (lv_at hl 5 rfl) ?_
        refine y_get S hk hP 0 rfl f_Mo_30 rfl d_Mo_nearest_22 ?_
        refine x_icmp_ge hx hb d_Mo_nearest_25 (tgt := 124) (by decide) (by omega) (by omega) (fun h25 => ?_) (fun h25 => ?_)
        · refine lv_iload_n hx hb d_Mo_nearest_124 rfl (lv_at hl 2 rfl) ?_
          refine lv_if_ge hx hb d_Mo_nearest_125 (tgt := 132) (by decide) (fun _ => ?_) (fun h => absurd (nI_pos' (by omega)) h)
          refine lv_aload_n hx hb d_Mo_nearest_132 rfl (lv_at hl 5 rfl) ?_
          refine y_get S hk hP 0 rfl f_Mo_13 rfl d_Mo_nearest_133 ?_
          refine lv_iload_n hx hb d_Mo_nearest_136 rfl (lv_at hl 2 rfl) ?_
          refine y_ald hx hb hk hP 1 rfl (by omega) (by decide) d_Mo_nearest_137 ?_
          exact hret _ _ _ rfl (Or.inl ⟨a, b, ha, hb', rfl, rfl, Or.inr ⟨j, by omega, rfl, fun k hk => hmin k (by omega)⟩⟩) d_Mo_nearest_138
        · refine lv_aload_n hx hb d_Mo_nearest_28 rfl (lv_at hl 5 rfl) ?_
          refine y_get S hk hP 0 rfl f_Mo_13 rfl d_Mo_nearest_29 ?_
          refine lv_iload hx hb d_Mo_nearest_32 (lv_at hl 0 rfl) ?_
          refine y_ald hx hb hk hP 1 rfl (by omega) (by decide) d_Mo_nearest_34 ?_
          have hcq := hC q
          obtain ⟨hc1, hc2⟩ := cl_of (hcl q (by omega))
          refine lv_aload_n hx hb d_Mo_nearest_35 rfl (lv_at hl 5 rfl) ?_
          refine vp_callSi (va_Run.run (run_V S v_Mo_26 (c_Mo_side la G mo mc_ mv_ mk_ mx_ L n x0 y0 x1 y1 hL) ⟨rfl, rfl⟩ ⟨Nat.le_of_ble_eq_true rfl, Nat.le_of_ble_eq_true rfl⟩ (preR_V hP hk hs [0] rfl 0 rfl rfl) (rest := [.int (nI (C q))]) rfl hl.1 rfl (Nat.le_of_ble_eq_true rfl) d_Mo_nearest_36 ⟨Nat.le_refl _, Nat.le_refl _⟩)) (fun r36 hr36 => ?_)
          subst hr36
          refine x_idiv hx hb d_Mo_nearest_39 (by omega) (by omega) (by omega) ?_
          refine lv_iload_n hx hb d_Mo_nearest_40 rfl (lv_at hl 3 rfl) ?_
          refine lv_isub hx hb d_Mo_nearest_41 ?_
          refine lv_i2l hx hb d_Mo_nearest_42 rfl ?_
          refine lv_lstore hx hb d_Mo_nearest_43 hl (by decide) rfl (fun ls hl => ?_)
          have hl : lv_has ls 13 [(7, .long (((nI ((C q) / (2 ^ L))) - (nI a)).toInt64)), (6, .int (nI q)), (4, .long dd), (3, .int (nI j)), (1, .int (nI a)), (2, .int (nI b)), (0, .ref mo)] := hl
          refine lv_aload_n hx hb d_Mo_nearest_45 rfl (lv_at hl 6 rfl) ?_
          refine y_get S hk hP 0 rfl f_Mo_13 rfl d_Mo_nearest_46 ?_
          refine lv_iload hx hb d_Mo_nearest_49 (lv_at hl 1 rfl) ?_
          refine y_ald hx hb hk hP 1 rfl (by omega) (by decide) d_Mo_nearest_51 ?_
          refine lv_aload_n hx hb d_Mo_nearest_52 rfl (lv_at hl 6 rfl) ?_
          refine vp_callSi (va_Run.run (run_V S v_Mo_26 (c_Mo_side la G mo mc_ mv_ mk_ mx_ L n x0 y0 x1 y1 hL) ⟨rfl, rfl⟩ ⟨Nat.le_of_ble_eq_true rfl, Nat.le_of_ble_eq_true rfl⟩ (preR_V hP hk hs [0] rfl 0 rfl rfl) (rest := [.int (nI (C q))]) rfl hl.1 rfl (Nat.le_of_ble_eq_true rfl) d_Mo_nearest_53 ⟨Nat.le_refl _, Nat.le_refl _⟩)) (fun r53 hr53 => ?_)
          subst hr53
          refine x_irem hx hb d_Mo_nearest_56 (by omega) (by omega) (by omega) ?_
          refine lv_iload_n hx hb d_Mo_nearest_57 rfl (lv_at hl 5 rfl) ?_
          refine lv_isub hx hb d_Mo_nearest_58 ?_
          refine lv_i2l hx hb d_Mo_nearest_59 rfl ?_
          refine lv_lstore hx hb d_Mo_nearest_60 hl (by decide) rfl (fun ls hl => ?_)
          have hl : lv_has ls 13 [(9, .long (((nI ((C q) % (2 ^ L))) - (nI b)).toInt64)), (7, .long (((nI ((C q) / (2 ^ L))) - (nI a)).toInt64)), (6, .int (nI q)), (4, .long dd), (3, .int (nI j)), (1, .int (nI a)), (2, .int (nI b)), (0, .ref mo)] := hl
          refine lv_lload hx hb d_Mo_nearest_62 (lv_at hl 1 rfl) ?_
          refine lv_lload hx hb d_Mo_nearest_64 (lv_at hl 1 rfl) ?_
          refine lv_lmul hx hb d_Mo_nearest_66 ?_
          refine lv_lload hx hb d_Mo_nearest_67 (lv_at hl 0 rfl) ?_
          refine lv_lload hx hb d_Mo_nearest_69 (lv_at hl 0 rfl) ?_
          refine lv_lmul hx hb d_Mo_nearest_71 ?_
          refine lv_ladd hx hb d_Mo_nearest_72 ?_
          have edq : (nI (C q / 2 ^ L) - nI a).toInt64 * (nI (C q / 2 ^ L) - nI a).toInt64 + (nI (C q % 2 ^ L) - nI b).toInt64 * (nI (C q % 2 ^ L) - nI b).toInt64 = lN (dq L a b (C q)) := by rw [sqd_l' (by omega) (by omega), sqd_l' (by omega) (by omega), lN_add]; rfl
          refine x_reL edq ?_
          refine lv_lstore hx hb d_Mo_nearest_73 hl (by decide) rfl (fun ls hl => ?_)
          have hl : lv_has ls 13 [(11, .long (lN (dq L a b (C q)))), (9, .long (((nI ((C q) % (2 ^ L))) - (nI b)).toInt64)), (7, .long (((nI ((C q) / (2 ^ L))) - (nI a)).toInt64)), (6, .int (nI q)), (4, .long dd), (3, .int (nI j)), (1, .int (nI a)), (2, .int (nI b)), (0, .ref mo)] := hl
          refine lv_iload_n hx hb d_Mo_nearest_75 rfl (lv_at hl 5 rfl) ?_
          refine lv_if_lt hx hb d_Mo_nearest_76 (tgt := 111) (by decide) (fun h => absurd h (nI_pos (by omega))) (fun _ => ?_)
          refine lv_lload hx hb d_Mo_nearest_79 (lv_at hl 0 rfl) ?_
          refine lv_lload hx hb d_Mo_nearest_81 (lv_at hl 4 rfl) ?_
          refine W.lcmp hx hb d_Mo_nearest_83 ?_
          refine lv_if_lt hx hb d_Mo_nearest_84 (tgt := 111) (by decide) (fun h84 => ?_) (fun h84 => ?_)
          · refine lv_iload hx hb d_Mo_nearest_111 (lv_at hl 3 rfl) ?_
            refine lv_istore_n hx hb d_Mo_nearest_113 rfl hl (by decide) rfl (fun ls hl => ?_)
            have hl : lv_has ls 13 [(3, .int (nI q)), (11, .long (lN (dq L a b (C q)))), (9, .long (((nI ((C q) % (2 ^ L))) - (nI b)).toInt64)), (7, .long (((nI ((C q) / (2 ^ L))) - (nI a)).toInt64)), (6, .int (nI q)), (4, .long dd), (1, .int (nI a)), (2, .int (nI b)), (0, .ref mo)] := hl
            refine lv_lload hx hb d_Mo_nearest_114 (lv_at hl 1 rfl) ?_
            refine lv_lstore hx hb d_Mo_nearest_116 hl (by decide) rfl (fun ls hl => ?_)
            have hl : lv_has ls 13 [(4, .long (lN (dq L a b (C q)))), (3, .int (nI q)), (11, .long (lN (dq L a b (C q)))), (9, .long (((nI ((C q) % (2 ^ L))) - (nI b)).toInt64)), (7, .long (((nI ((C q) / (2 ^ L))) - (nI a)).toInt64)), (6, .int (nI q)), (1, .int (nI a)), (2, .int (nI b)), (0, .ref mo)] := hl
            refine lv_iinc (v := nI (q + 1)) hx hb d_Mo_nearest_118 hl (k := 5) rfl (ii_p _ 1) (by decide) rfl (fun ls hl => ?_)
            have hl : lv_has ls 13 [(6, .int (nI (q + 1))), (4, .long (lN (dq L a b (C q)))), (3, .int (nI q)), (11, .long (lN (dq L a b (C q)))), (9, .long (((nI ((C q) % (2 ^ L))) - (nI b)).toInt64)), (7, .long (((nI ((C q) / (2 ^ L))) - (nI a)).toInt64)), (1, .int (nI a)), (2, .int (nI b)), (0, .ref mo)] := hl
            refine lv_goto hx hb d_Mo_nearest_121 (tgt := 19) (by decide) ?_
            have hl := lv_sub hl [0, 1, 2, 6, 7, 8] rfl
            exact ih (q + 1) _ _ _ (by omega) hl (by omega) (nrM_take hmin (Or.inl (by rw [edd, lg_cmp_lt, pk_lLT (by have := hdq q (by omega); omega) (by have := hdq j (by omega); omega)] at h84; exact h84)))
          · refine lv_lload hx hb d_Mo_nearest_87 (lv_at hl 0 rfl) ?_
            refine lv_lload hx hb d_Mo_nearest_89 (lv_at hl 4 rfl) ?_
            refine W.lcmp hx hb d_Mo_nearest_91 ?_
            refine lv_if_ne hx hb d_Mo_nearest_92 (tgt := 118) (by decide) (fun h92 => ?_) (fun h92 => ?_)
            · refine lv_iinc (v := nI (q + 1)) hx hb d_Mo_nearest_118 hl (k := 3) rfl (ii_p _ 1) (by decide) rfl (fun ls hl => ?_)
              have hl : lv_has ls 13 [(6, .int (nI (q + 1))), (11, .long (lN (dq L a b (C q)))), (9, .long (((nI ((C q) % (2 ^ L))) - (nI b)).toInt64)), (7, .long (((nI ((C q) / (2 ^ L))) - (nI a)).toInt64)), (4, .long dd), (3, .int (nI j)), (1, .int (nI a)), (2, .int (nI b)), (0, .ref mo)] := hl
              refine lv_goto hx hb d_Mo_nearest_121 (tgt := 19) (by decide) ?_
              have hl := lv_sub hl [0, 4, 5, 6, 7, 8] rfl
              exact ih (q + 1) _ _ _ (by omega) hl (by omega) (by rw [edd]; exact nrM_stay hj hmin (Or.inl (by rw [edd, lg_cmp_eq, pk_lEQ (by have := hdq q (by omega); omega) (by have := hdq j (by omega); omega)] at h92; rw [edd, lg_cmp_lt, pk_lLT (by have := hdq q (by omega); omega) (by have := hdq j (by omega); omega)] at h84; omega)))
            · refine lv_aload_n hx hb d_Mo_nearest_95 rfl (lv_at hl 8 rfl) ?_
              refine lv_iconst (v := nI 1) hx hb d_Mo_nearest_96 (by decide) ?_
              refine lv_iload hx hb d_Mo_nearest_97 (lv_at hl 3 rfl) ?_
              refine vp_callSi (va_Run.run (run_V S v_Mo_68 (c_Mo_keyAt la G mo mc_ mv_ mk_ mx_ L n x0 y0 x1 y1 C 1 q hL hL1 hC (by omega) (by omega) (hcl q (by omega))) ⟨rfl, rfl⟩ ⟨Nat.le_of_ble_eq_true rfl, Nat.le_of_ble_eq_true rfl⟩ (preR_V hP hk hs [0, 1] rfl 0 rfl rfl) (rest := []) rfl hl.1 rfl (Nat.le_of_ble_eq_true rfl) d_Mo_nearest_99 ⟨Nat.le_refl _, Nat.le_refl _⟩)) (fun r5 hr5 => ?_)
              subst hr5
              have hk1 := hkl q (by omega)
              refine lv_aload_n hx hb d_Mo_nearest_102 rfl (lv_at hl 8 rfl) ?_
              refine lv_iconst (v := nI 1) hx hb d_Mo_nearest_103 (by decide) ?_
              refine lv_iload_n hx hb d_Mo_nearest_104 rfl (lv_at hl 5 rfl) ?_
              refine vp_callSi (va_Run.run (run_V S v_Mo_68 (c_Mo_keyAt la G mo mc_ mv_ mk_ mx_ L n x0 y0 x1 y1 C 1 j hL hL1 hC (by omega) (by omega) (hcl j (by omega))) ⟨rfl, rfl⟩ ⟨Nat.le_of_ble_eq_true rfl, Nat.le_of_ble_eq_true rfl⟩ (preR_V hP hk hs [0, 1] rfl 0 rfl rfl) (rest := [.int (nI (ke 1 L (C q)))]) rfl hl.1 rfl (Nat.le_of_ble_eq_true rfl) d_Mo_nearest_105 ⟨Nat.le_refl _, Nat.le_refl _⟩)) (fun r6 hr6 => ?_)
              subst hr6
              have hk2 := hkl j (by omega)
              refine x_icmp_ge hx hb d_Mo_nearest_108 (tgt := 118) (by decide) (by omega) (by omega) (fun h108 => ?_) (fun h108 => ?_)
              · refine lv_iinc (v := nI (q + 1)) hx hb d_Mo_nearest_118 hl (k := 3) rfl (ii_p _ 1) (by decide) rfl (fun ls hl => ?_)
                have hl : lv_has ls 13 [(6, .int (nI (q + 1))), (11, .long (lN (dq L a b (C q)))), (9, .long (((nI ((C q) % (2 ^ L))) - (nI b)).toInt64)), (7, .long (((nI ((C q) / (2 ^ L))) - (nI a)).toInt64)), (4, .long dd), (3, .int (nI j)), (1, .int (nI a)), (2, .int (nI b)), (0, .ref mo)] := hl
                refine lv_goto hx hb d_Mo_nearest_121 (tgt := 19) (by decide) ?_
                have hl := lv_sub hl [0, 4, 5, 6, 7, 8] rfl
                exact ih (q + 1) _ _ _ (by omega) hl (by omega) (by rw [edd]; exact nrM_stay hj hmin (Or.inr ⟨(by rw [edd, lg_cmp_eq, pk_lEQ (by have := hdq q (by omega); omega) (by have := hdq j (by omega); omega)] at h92; omega), h108⟩))
              · refine lv_iload hx hb d_Mo_nearest_111 (lv_at hl 3 rfl) ?_
                refine lv_istore_n hx hb d_Mo_nearest_113 rfl hl (by decide) rfl (fun ls hl => ?_)
                have hl : lv_has ls 13 [(3, .int (nI q)), (11, .long (lN (dq L a b (C q)))), (9, .long (((nI ((C q) % (2 ^ L))) - (nI b)).toInt64)), (7, .long (((nI ((C q) / (2 ^ L))) - (nI a)).toInt64)), (6, .int (nI q)), (4, .long dd), (1, .int (nI a)), (2, .int (nI b)), (0, .ref mo)] := hl
                refine lv_lload hx hb d_Mo_nearest_114 (lv_at hl 1 rfl) ?_
                refine lv_lstore hx hb d_Mo_nearest_116 hl (by decide) rfl (fun ls hl => ?_)
                have hl : lv_has ls 13 [(4, .long (lN (dq L a b (C q)))), (3, .int (nI q)), (11, .long (lN (dq L a b (C q)))), (9, .long (((nI ((C q) % (2 ^ L))) - (nI b)).toInt64)), (7, .long (((nI ((C q) / (2 ^ L))) - (nI a)).toInt64)), (6, .int (nI q)), (1, .int (nI a)), (2, .int (nI b)), (0, .ref mo)] := hl
                refine lv_iinc (v := nI (q + 1)) hx hb d_Mo_nearest_118 hl (k := 5) rfl (ii_p _ 1) (by decide) rfl (fun ls hl => ?_)
                have hl : lv_has ls 13 [(6, .int (nI (q + 1))), (4, .long (lN (dq L a b (C q)))), (3, .int (nI q)), (11, .long (lN (dq L a b (C q)))), (9, .long (((nI ((C q) % (2 ^ L))) - (nI b)).toInt64)), (7, .long (((nI ((C q) / (2 ^ L))) - (nI a)).toInt64)), (1, .int (nI a)), (2, .int (nI b)), (0, .ref mo)] := hl
                refine lv_goto hx hb d_Mo_nearest_121 (tgt := 19) (by decide) ?_
                have hl := lv_sub hl [0, 1, 2, 6, 7, 8] rfl
                exact ih (q + 1) _ _ _ (by omega) hl (by omega) (nrM_take hmin (Or.inr ⟨(by rw [edd, lg_cmp_eq, pk_lEQ (by have := hdq q (by omega); omega) (by have := hdq j (by omega); omega)] at h92; omega), h108⟩))
  · refine lv_if_ne hx hb d_Mo_nearest_6 (tgt := 11) (by decide) (fun h => absurd rfl h) (fun _ => ?_)
    refine lv_iconst (v := (-1)) hx hb d_Mo_nearest_9 (by decide) ?_
    exact hret _ _ _ rfl (Or.inr ⟨q1, rfl⟩) d_Mo_nearest_10
set_option maxHeartbeats 4000000 in
set_option maxRecDepth 100000 in
theorem c_Mo_begin (la : Launch) (G : gG) (mo mc_ mv_ mk_ mx_ L n x0 y0 x1 y1 : Nat) (C V K X : Nat → Nat) (x : Int32) (hM : okMo (L, (n, C, V), (x0, y0, x1, y1), (K, X))) : MetW la y_Mo_begin b_Mo_begin 2 .boolean 0 0 0 0 [.ref mo, .int x] G [(mo, .inr (4, [.int (nI L), .int (nI n), .ref mc_, .ref mv_, .int (nI x0), .int (nI y0), .int (nI x1), .int (nI y1), .ref mk_, .ref mx_])), (mc_, .inl (G.2.1, 500, .inl (fun zz => nI (C zz)))), (mv_, .inl (G.2.1, 500, .inl (fun zz => nI (V zz)))), (mk_, .inl (G.2.1, 4096, .inl (fun zz => nI (K zz)))), (mx_, .inl (G.2.1, 4096, .inl (fun zz => nI (X zz))))] (S := mS) (fun r u => (∃ j, 1 ≤ j ∧ j ≤ 15 ∧ x = nI j ∧ r = 1 ∧ u = (j, (0, C, V), (0, 0, 0, 0), (K, X))) ∨ (¬ begO x ∧ r = 0 ∧ u = (L, (n, C, V), (x0, y0, x1, y1), (K, X)))) (fun u => [(mo, .inr (4, [.int (nI u.1), .int (nI u.2.1.1), .ref mc_, .ref mv_, .int (nI u.2.2.1.1), .int (nI u.2.2.1.2.1), .int (nI u.2.2.1.2.2.1), .int (nI u.2.2.1.2.2.2), .ref mk_, .ref mx_])), (mc_, .inl (G.2.1, 500, .inl (fun zz => nI (u.2.1.2.1 zz)))), (mv_, .inl (G.2.1, 500, .inl (fun zz => nI (u.2.1.2.2 zz)))), (mk_, .inl (G.2.1, 4096, .inl (fun zz => nI (u.2.2.2.1 zz)))), (mx_, .inl (G.2.1, 4096, .inl (fun zz => nI (u.2.2.2.2 zz))))]) := by
  refine MetW.mk (by decide +kernel) (Nat.le_of_ble_eq_true rfl) ?_
  intro p e s m below meth c Q A ls S hP hD hA hS hk hs hret hl
  have hx := S.1
  have hb := S.2.1
  have hP : va_P G.1 cls [(mo, .inr (4, [.int (nI L), .int (nI n), .ref mc_, .ref mv_, .int (nI x0), .int (nI y0), .int (nI x1), .int (nI y1), .ref mk_, .ref mx_])), (mc_, .inl (G.2.1, 500, .inl (fun zz => nI (C zz)))), (mv_, .inl (G.2.1, 500, .inl (fun zz => nI (V zz)))), (mk_, .inl (G.2.1, 4096, .inl (fun zz => nI (K zz)))), (mx_, .inl (G.2.1, 4096, .inl (fun zz => nI (X zz))))] s.heap := hP
  have hD : va_D A [(mo, .inr (4, [.int (nI L), .int (nI n), .ref mc_, .ref mv_, .int (nI x0), .int (nI y0), .int (nI x1), .int (nI y1), .ref mk_, .ref mx_])), (mc_, .inl (G.2.1, 500, .inl (fun zz => nI (C zz)))), (mv_, .inl (G.2.1, 500, .inl (fun zz => nI (V zz)))), (mk_, .inl (G.2.1, 4096, .inl (fun zz => nI (K zz)))), (mx_, .inl (G.2.1, 4096, .inl (fun zz => nI (X zz))))] := hD
  have hM' := hM
  obtain ⟨⟨hL1, hL⟩, hm, ⟨hC, hV⟩, hF, hK, hX⟩ := hM
  dsimp only at hL1 hL hm hC hV hF hK hX
  have hFb := hF.b hL
  obtain ⟨hf1, hf2, hf3, hf4⟩ := hF
  dsimp only at hf1 hf2 hf3 hf4 hFb
  have hp2 := p2_15 hL
  have hp4 := p4_15 hL
  have hpp := Nat.two_pow_pos L
  have hn5 := hm.1
  rcases ng x with hx0 | ⟨a, ha, rfl⟩
  · have hl : lv_has ls 2 [(0, .ref mo), (1, .int x)] := hl
    refine lv_iload_n hx hb d_Mo_begin_0 rfl (lv_at hl 1 rfl) ?_
    refine lv_iconst (v := nI 1) hx hb d_Mo_begin_1 (by decide) ?_
    refine lv_icmp_lt hx hb d_Mo_begin_2 (tgt := 11) (by decide) (fun _ => ?_) (fun h => absurd (ng_lt hx0 (by omega)) h)
    refine lv_iconst (v := nI 0) hx hb d_Mo_begin_11 (by decide) ?_
    exact hret _ _ _ (L, (n, C, V), (x0, y0, x1, y1), (K, X)) _ _ (by decide) (Or.inr ⟨by first | exact begO_ng hx0 | exact fun z => absurd (begO_nI ha z) (by omega), by decide, rfl⟩) hP hD hS d_Mo_begin_12
  · have hl : lv_has ls 2 [(0, .ref mo), (1, .int (nI a))] := hl
    refine lv_iload_n hx hb d_Mo_begin_0 rfl (lv_at hl 1 rfl) ?_
    refine lv_iconst (v := nI 1) hx hb d_Mo_begin_1 (by decide) ?_
    refine x_icmp_lt hx hb d_Mo_begin_2 (tgt := 11) (by decide) (by omega) (by omega) (fun h2 => ?_) (fun h2 => ?_)
    · refine lv_iconst (v := nI 0) hx hb d_Mo_begin_11 (by decide) ?_
      exact hret _ _ _ (L, (n, C, V), (x0, y0, x1, y1), (K, X)) _ _ (by decide) (Or.inr ⟨by first | exact begO_ng hx0 | exact fun z => absurd (begO_nI ha z) (by omega), by decide, rfl⟩) hP hD hS d_Mo_begin_12
    · refine lv_iload_n hx hb d_Mo_begin_5 rfl (lv_at hl 1 rfl) ?_
      refine lv_bipush (v := nI 15) hx hb d_Mo_begin_6 (by decide) ?_
      refine x_icmp_le hx hb d_Mo_begin_8 (tgt := 13) (by decide) (by omega) (by omega) (fun h8 => ?_) (fun h8 => ?_)
      · refine lv_aload_n hx hb d_Mo_begin_13 rfl (lv_at hl 0 rfl) ?_
        refine lv_iload_n hx hb d_Mo_begin_14 rfl (lv_at hl 1 rfl) ?_
        refine y_put S hk hP hD hS 0 rfl f_Mo_7 T_4 M_4_0 rfl rfl (Nat.le_of_ble_eq_true rfl) d_Mo_begin_15 (fun H locs hP hD hS => ?_)
        have hP : va_P G.1 cls [(mo, .inr (4, [.int (nI a), .int (nI n), .ref mc_, .ref mv_, .int (nI x0), .int (nI y0), .int (nI x1), .int (nI y1), .ref mk_, .ref mx_])), (mc_, .inl (G.2.1, 500, .inl (fun zz => nI (C zz)))), (mv_, .inl (G.2.1, 500, .inl (fun zz => nI (V zz)))), (mk_, .inl (G.2.1, 4096, .inl (fun zz => nI (K zz)))), (mx_, .inl (G.2.1, 4096, .inl (fun zz => nI (X zz))))] H := hP
        have hD : va_D A [(mo, .inr (4, [.int (nI a), .int (nI n), .ref mc_, .ref mv_, .int (nI x0), .int (nI y0), .int (nI x1), .int (nI y1), .ref mk_, .ref mx_])), (mc_, .inl (G.2.1, 500, .inl (fun zz => nI (C zz)))), (mv_, .inl (G.2.1, 500, .inl (fun zz => nI (V zz)))), (mk_, .inl (G.2.1, 4096, .inl (fun zz => nI (K zz)))), (mx_, .inl (G.2.1, 4096, .inl (fun zz => nI (X zz))))] := hD
        refine lv_aload_n hx hb d_Mo_begin_18 rfl (lv_at hl 0 rfl) ?_
        refine lv_iconst (v := nI 0) hx hb d_Mo_begin_19 (by decide) ?_
        refine y_put S hk hP hD hS 0 rfl f_Mo_30 T_4 M_4_1 rfl rfl (Nat.le_of_ble_eq_true rfl) d_Mo_begin_20 (fun H locs hP hD hS => ?_)
        have hP : va_P G.1 cls [(mo, .inr (4, [.int (nI a), .int (nI 0), .ref mc_, .ref mv_, .int (nI x0), .int (nI y0), .int (nI x1), .int (nI y1), .ref mk_, .ref mx_])), (mc_, .inl (G.2.1, 500, .inl (fun zz => nI (C zz)))), (mv_, .inl (G.2.1, 500, .inl (fun zz => nI (V zz)))), (mk_, .inl (G.2.1, 4096, .inl (fun zz => nI (K zz)))), (mx_, .inl (G.2.1, 4096, .inl (fun zz => nI (X zz))))] H := hP
        have hD : va_D A [(mo, .inr (4, [.int (nI a), .int (nI 0), .ref mc_, .ref mv_, .int (nI x0), .int (nI y0), .int (nI x1), .int (nI y1), .ref mk_, .ref mx_])), (mc_, .inl (G.2.1, 500, .inl (fun zz => nI (C zz)))), (mv_, .inl (G.2.1, 500, .inl (fun zz => nI (V zz)))), (mk_, .inl (G.2.1, 4096, .inl (fun zz => nI (K zz)))), (mx_, .inl (G.2.1, 4096, .inl (fun zz => nI (X zz))))] := hD
        refine lv_aload_n hx hb d_Mo_begin_23 rfl (lv_at hl 0 rfl) ?_
        refine lv_iconst (v := nI 0) hx hb d_Mo_begin_24 (by decide) ?_
        refine y_put S hk hP hD hS 0 rfl f_Mo_33 T_4 M_4_4 rfl rfl (Nat.le_of_ble_eq_true rfl) d_Mo_begin_25 (fun H locs hP hD hS => ?_)
        have hP : va_P G.1 cls [(mo, .inr (4, [.int (nI a), .int (nI 0), .ref mc_, .ref mv_, .int (nI 0), .int (nI y0), .int (nI x1), .int (nI y1), .ref mk_, .ref mx_])), (mc_, .inl (G.2.1, 500, .inl (fun zz => nI (C zz)))), (mv_, .inl (G.2.1, 500, .inl (fun zz => nI (V zz)))), (mk_, .inl (G.2.1, 4096, .inl (fun zz => nI (K zz)))), (mx_, .inl (G.2.1, 4096, .inl (fun zz => nI (X zz))))] H := hP
        have hD : va_D A [(mo, .inr (4, [.int (nI a), .int (nI 0), .ref mc_, .ref mv_, .int (nI 0), .int (nI y0), .int (nI x1), .int (nI y1), .ref mk_, .ref mx_])), (mc_, .inl (G.2.1, 500, .inl (fun zz => nI (C zz)))), (mv_, .inl (G.2.1, 500, .inl (fun zz => nI (V zz)))), (mk_, .inl (G.2.1, 4096, .inl (fun zz => nI (K zz)))), (mx_, .inl (G.2.1, 4096, .inl (fun zz => nI (X zz))))] := hD
        refine lv_aload_n hx hb d_Mo_begin_28 rfl (lv_at hl 0 rfl) ?_
        refine lv_iconst (v := nI 0) hx hb d_Mo_begin_29 (by decide) ?_
        refine y_put S hk hP hD hS 0 rfl f_Mo_36 T_4 M_4_5 rfl rfl (Nat.le_of_ble_eq_true rfl) d_Mo_begin_30 (fun H locs hP hD hS => ?_)
        have hP : va_P G.1 cls [(mo, .inr (4, [.int (nI a), .int (nI 0), .ref mc_, .ref mv_, .int (nI 0), .int (nI 0), .int (nI x1), .int (nI y1), .ref mk_, .ref mx_])), (mc_, .inl (G.2.1, 500, .inl (fun zz => nI (C zz)))), (mv_, .inl (G.2.1, 500, .inl (fun zz => nI (V zz)))), (mk_, .inl (G.2.1, 4096, .inl (fun zz => nI (K zz)))), (mx_, .inl (G.2.1, 4096, .inl (fun zz => nI (X zz))))] H := hP
        have hD : va_D A [(mo, .inr (4, [.int (nI a), .int (nI 0), .ref mc_, .ref mv_, .int (nI 0), .int (nI 0), .int (nI x1), .int (nI y1), .ref mk_, .ref mx_])), (mc_, .inl (G.2.1, 500, .inl (fun zz => nI (C zz)))), (mv_, .inl (G.2.1, 500, .inl (fun zz => nI (V zz)))), (mk_, .inl (G.2.1, 4096, .inl (fun zz => nI (K zz)))), (mx_, .inl (G.2.1, 4096, .inl (fun zz => nI (X zz))))] := hD
        refine lv_aload_n hx hb d_Mo_begin_33 rfl (lv_at hl 0 rfl) ?_
        refine lv_iconst (v := nI 0) hx hb d_Mo_begin_34 (by decide) ?_
        refine y_put S hk hP hD hS 0 rfl f_Mo_39 T_4 M_4_6 rfl rfl (Nat.le_of_ble_eq_true rfl) d_Mo_begin_35 (fun H locs hP hD hS => ?_)
        have hP : va_P G.1 cls [(mo, .inr (4, [.int (nI a), .int (nI 0), .ref mc_, .ref mv_, .int (nI 0), .int (nI 0), .int (nI 0), .int (nI y1), .ref mk_, .ref mx_])), (mc_, .inl (G.2.1, 500, .inl (fun zz => nI (C zz)))), (mv_, .inl (G.2.1, 500, .inl (fun zz => nI (V zz)))), (mk_, .inl (G.2.1, 4096, .inl (fun zz => nI (K zz)))), (mx_, .inl (G.2.1, 4096, .inl (fun zz => nI (X zz))))] H := hP
        have hD : va_D A [(mo, .inr (4, [.int (nI a), .int (nI 0), .ref mc_, .ref mv_, .int (nI 0), .int (nI 0), .int (nI 0), .int (nI y1), .ref mk_, .ref mx_])), (mc_, .inl (G.2.1, 500, .inl (fun zz => nI (C zz)))), (mv_, .inl (G.2.1, 500, .inl (fun zz => nI (V zz)))), (mk_, .inl (G.2.1, 4096, .inl (fun zz => nI (K zz)))), (mx_, .inl (G.2.1, 4096, .inl (fun zz => nI (X zz))))] := hD
        refine lv_aload_n hx hb d_Mo_begin_38 rfl (lv_at hl 0 rfl) ?_
        refine lv_iconst (v := nI 0) hx hb d_Mo_begin_39 (by decide) ?_
        refine y_put S hk hP hD hS 0 rfl f_Mo_42 T_4 M_4_7 rfl rfl (Nat.le_of_ble_eq_true rfl) d_Mo_begin_40 (fun H locs hP hD hS => ?_)
        have hP : va_P G.1 cls [(mo, .inr (4, [.int (nI a), .int (nI 0), .ref mc_, .ref mv_, .int (nI 0), .int (nI 0), .int (nI 0), .int (nI 0), .ref mk_, .ref mx_])), (mc_, .inl (G.2.1, 500, .inl (fun zz => nI (C zz)))), (mv_, .inl (G.2.1, 500, .inl (fun zz => nI (V zz)))), (mk_, .inl (G.2.1, 4096, .inl (fun zz => nI (K zz)))), (mx_, .inl (G.2.1, 4096, .inl (fun zz => nI (X zz))))] H := hP
        have hD : va_D A [(mo, .inr (4, [.int (nI a), .int (nI 0), .ref mc_, .ref mv_, .int (nI 0), .int (nI 0), .int (nI 0), .int (nI 0), .ref mk_, .ref mx_])), (mc_, .inl (G.2.1, 500, .inl (fun zz => nI (C zz)))), (mv_, .inl (G.2.1, 500, .inl (fun zz => nI (V zz)))), (mk_, .inl (G.2.1, 4096, .inl (fun zz => nI (K zz)))), (mx_, .inl (G.2.1, 4096, .inl (fun zz => nI (X zz))))] := hD
        refine lv_iconst (v := nI 1) hx hb d_Mo_begin_43 (by decide) ?_
        exact hret _ _ _ (a, (0, C, V), (0, 0, 0, 0), (K, X)) _ _ (by decide) (Or.inl ⟨a, by omega, by omega, rfl, by decide, rfl⟩) hP hD hS d_Mo_begin_44
      · refine lv_iconst (v := nI 0) hx hb d_Mo_begin_11 (by decide) ?_
        exact hret _ _ _ (L, (n, C, V), (x0, y0, x1, y1), (K, X)) _ _ (by decide) (Or.inr ⟨by first | exact begO_ng hx0 | exact fun z => absurd (begO_nI ha z) (by omega), by decide, rfl⟩) hP hD hS d_Mo_begin_12
set_option maxHeartbeats 4000000 in
set_option maxRecDepth 100000 in
theorem c_Mo_window (la : Launch) (G : gG) (mo mc_ mv_ mk_ mx_ L n x0 y0 x1 y1 : Nat) (C V K X : Nat → Nat) (X0 Y0 X1 Y1 : Int32) (hM : okMo (L, (n, C, V), (x0, y0, x1, y1), (K, X))) : MetW la y_Mo_window b_Mo_window 5 .boolean 2 42 0 0 [.ref mo, .int X0, .int Y0, .int X1, .int Y1] G [(mo, .inr (4, [.int (nI L), .int (nI n), .ref mc_, .ref mv_, .int (nI x0), .int (nI y0), .int (nI x1), .int (nI y1), .ref mk_, .ref mx_])), (mc_, .inl (G.2.1, 500, .inl (fun zz => nI (C zz)))), (mv_, .inl (G.2.1, 500, .inl (fun zz => nI (V zz)))), (mk_, .inl (G.2.1, 4096, .inl (fun zz => nI (K zz)))), (mx_, .inl (G.2.1, 4096, .inl (fun zz => nI (X zz))))] (S := mS) (fun r u => (∃ a b a' b', a ≤ a' ∧ a' < 2 ^ L ∧ b ≤ b' ∧ b' < 2 ^ L ∧ X0 = nI a ∧ Y0 = nI b ∧ X1 = nI a' ∧ Y1 = nI b' ∧ r = 1 ∧ u = (L, (n, C, V), (a, b, a', b'), (K, X))) ∨ (¬ winO L X0 Y0 X1 Y1 ∧ r = 0 ∧ u = (L, (n, C, V), (x0, y0, x1, y1), (K, X)))) (fun u => [(mo, .inr (4, [.int (nI u.1), .int (nI u.2.1.1), .ref mc_, .ref mv_, .int (nI u.2.2.1.1), .int (nI u.2.2.1.2.1), .int (nI u.2.2.1.2.2.1), .int (nI u.2.2.1.2.2.2), .ref mk_, .ref mx_])), (mc_, .inl (G.2.1, 500, .inl (fun zz => nI (u.2.1.2.1 zz)))), (mv_, .inl (G.2.1, 500, .inl (fun zz => nI (u.2.1.2.2 zz)))), (mk_, .inl (G.2.1, 4096, .inl (fun zz => nI (u.2.2.2.1 zz)))), (mx_, .inl (G.2.1, 4096, .inl (fun zz => nI (u.2.2.2.2 zz))))]) := by
  refine MetW.mk (by decide +kernel) (Nat.le_of_ble_eq_true rfl) ?_
  intro p e s m below meth c Q A ls S hP hD hA hS hk hs hret hl
  have hx := S.1
  have hb := S.2.1
  have hP : va_P G.1 cls [(mo, .inr (4, [.int (nI L), .int (nI n), .ref mc_, .ref mv_, .int (nI x0), .int (nI y0), .int (nI x1), .int (nI y1), .ref mk_, .ref mx_])), (mc_, .inl (G.2.1, 500, .inl (fun zz => nI (C zz)))), (mv_, .inl (G.2.1, 500, .inl (fun zz => nI (V zz)))), (mk_, .inl (G.2.1, 4096, .inl (fun zz => nI (K zz)))), (mx_, .inl (G.2.1, 4096, .inl (fun zz => nI (X zz))))] s.heap := hP
  have hD : va_D A [(mo, .inr (4, [.int (nI L), .int (nI n), .ref mc_, .ref mv_, .int (nI x0), .int (nI y0), .int (nI x1), .int (nI y1), .ref mk_, .ref mx_])), (mc_, .inl (G.2.1, 500, .inl (fun zz => nI (C zz)))), (mv_, .inl (G.2.1, 500, .inl (fun zz => nI (V zz)))), (mk_, .inl (G.2.1, 4096, .inl (fun zz => nI (K zz)))), (mx_, .inl (G.2.1, 4096, .inl (fun zz => nI (X zz))))] := hD
  have hM' := hM
  obtain ⟨⟨hL1, hL⟩, hm, ⟨hC, hV⟩, hF, hK, hX⟩ := hM
  dsimp only at hL1 hL hm hC hV hF hK hX
  have hFb := hF.b hL
  obtain ⟨hf1, hf2, hf3, hf4⟩ := hF
  dsimp only at hf1 hf2 hf3 hf4 hFb
  have hp2 := p2_15 hL
  have hp4 := p4_15 hL
  have hpp := Nat.two_pow_pos L
  have hn5 := hm.1
  have hl : lv_has ls 5 [(0, .ref mo), (1, .int X0), (2, .int Y0), (3, .int X1), (4, .int Y1)] := hl
  refine lv_aload_n hx hb d_Mo_window_0 rfl (lv_at hl 0 rfl) ?_
  refine lv_iload_n hx hb d_Mo_window_1 rfl (lv_at hl 1 rfl) ?_
  refine lv_iload_n hx hb d_Mo_window_2 rfl (lv_at hl 2 rfl) ?_
  refine vp_callSi (va_Run.run (run_V S v_Mo_49 (c_Mo_isCell la G mo mc_ mv_ mk_ mx_ L n x0 y0 x1 y1 X0 Y0 hL) ⟨rfl, rfl⟩ ⟨Nat.le_of_ble_eq_true rfl, Nat.le_of_ble_eq_true rfl⟩ (preR_V hP hk (hs.kept (fun a h1 h2 => hS.2.1 a h1 h2)) [0] rfl 0 rfl rfl) (rest := []) rfl hl.1 rfl (Nat.le_of_ble_eq_true rfl) d_Mo_window_3 ⟨Nat.le_of_ble_eq_true rfl, Nat.le_of_ble_eq_true rfl⟩)) (fun r1 hr1 => ?_)
  rcases hr1 with ⟨rfl, a, b, ha, hb', rfl, rfl⟩ | ⟨rfl, q1⟩
  · have hl : lv_has ls 5 [(0, .ref mo), (1, .int (nI a)), (2, .int (nI b)), (3, .int X1), (4, .int Y1)] := hl
    refine lv_if_eq hx hb d_Mo_window_6 (tgt := 30) (by decide) (fun h => absurd h (by decide)) (fun _ => ?_)
    refine lv_aload_n hx hb d_Mo_window_9 rfl (lv_at hl 0 rfl) ?_
    refine lv_iload_n hx hb d_Mo_window_10 rfl (lv_at hl 3 rfl) ?_
    refine lv_iload hx hb d_Mo_window_11 (lv_at hl 4 rfl) ?_
    refine vp_callSi (va_Run.run (run_V S v_Mo_49 (c_Mo_isCell la G mo mc_ mv_ mk_ mx_ L n x0 y0 x1 y1 X1 Y1 hL) ⟨rfl, rfl⟩ ⟨Nat.le_of_ble_eq_true rfl, Nat.le_of_ble_eq_true rfl⟩ (preR_V hP hk (hs.kept (fun a h1 h2 => hS.2.1 a h1 h2)) [0] rfl 0 rfl rfl) (rest := []) rfl hl.1 rfl (Nat.le_of_ble_eq_true rfl) d_Mo_window_13 ⟨Nat.le_of_ble_eq_true rfl, Nat.le_of_ble_eq_true rfl⟩)) (fun r2 hr2 => ?_)
    rcases hr2 with ⟨rfl, a', b', ha2, hb2, rfl, rfl⟩ | ⟨rfl, q2⟩
    · have hl : lv_has ls 5 [(0, .ref mo), (1, .int (nI a)), (2, .int (nI b)), (3, .int (nI a')), (4, .int (nI b'))] := hl
      refine lv_if_eq hx hb d_Mo_window_16 (tgt := 30) (by decide) (fun h => absurd h (by decide)) (fun _ => ?_)
      refine lv_iload_n hx hb d_Mo_window_19 rfl (lv_at hl 3 rfl) ?_
      refine lv_iload_n hx hb d_Mo_window_20 rfl (lv_at hl 1 rfl) ?_
      refine x_icmp_lt hx hb d_Mo_window_21 (tgt := 30) (by decide) (by omega) (by omega) (fun h21 => ?_) (fun h21 => ?_)
      · refine lv_iconst (v := nI 0) hx hb d_Mo_window_30 (by decide) ?_
        exact hret _ _ _ (L, (n, C, V), (x0, y0, x1, y1), (K, X)) _ _ (by decide) (Or.inr ⟨by first | exact fun z => q1 (winO_1 z).1 | exact fun z => q2 (winO_1 z).2 | exact fun z => absurd (winO_nI hL ha hb' ha2 hb2 z) (by omega), by decide, rfl⟩) hP hD hS d_Mo_window_31
      · refine lv_iload hx hb d_Mo_window_24 (lv_at hl 4 rfl) ?_
        refine lv_iload_n hx hb d_Mo_window_26 rfl (lv_at hl 2 rfl) ?_
        refine x_icmp_ge hx hb d_Mo_window_27 (tgt := 32) (by decide) (by omega) (by omega) (fun h27 => ?_) (fun h27 => ?_)
        · refine lv_aload_n hx hb d_Mo_window_32 rfl (lv_at hl 0 rfl) ?_
          refine lv_iload_n hx hb d_Mo_window_33 rfl (lv_at hl 1 rfl) ?_
          refine y_put S hk hP hD hS 0 rfl f_Mo_33 T_4 M_4_4 rfl rfl (Nat.le_of_ble_eq_true rfl) d_Mo_window_34 (fun H locs hP hD hS => ?_)
          have hP : va_P G.1 cls [(mo, .inr (4, [.int (nI L), .int (nI n), .ref mc_, .ref mv_, .int (nI a), .int (nI y0), .int (nI x1), .int (nI y1), .ref mk_, .ref mx_])), (mc_, .inl (G.2.1, 500, .inl (fun zz => nI (C zz)))), (mv_, .inl (G.2.1, 500, .inl (fun zz => nI (V zz)))), (mk_, .inl (G.2.1, 4096, .inl (fun zz => nI (K zz)))), (mx_, .inl (G.2.1, 4096, .inl (fun zz => nI (X zz))))] H := hP
          have hD : va_D A [(mo, .inr (4, [.int (nI L), .int (nI n), .ref mc_, .ref mv_, .int (nI a), .int (nI y0), .int (nI x1), .int (nI y1), .ref mk_, .ref mx_])), (mc_, .inl (G.2.1, 500, .inl (fun zz => nI (C zz)))), (mv_, .inl (G.2.1, 500, .inl (fun zz => nI (V zz)))), (mk_, .inl (G.2.1, 4096, .inl (fun zz => nI (K zz)))), (mx_, .inl (G.2.1, 4096, .inl (fun zz => nI (X zz))))] := hD
          refine lv_aload_n hx hb d_Mo_window_37 rfl (lv_at hl 0 rfl) ?_
          refine lv_iload_n hx hb d_Mo_window_38 rfl (lv_at hl 2 rfl) ?_
          refine y_put S hk hP hD hS 0 rfl f_Mo_36 T_4 M_4_5 rfl rfl (Nat.le_of_ble_eq_true rfl) d_Mo_window_39 (fun H locs hP hD hS => ?_)
          have hP : va_P G.1 cls [(mo, .inr (4, [.int (nI L), .int (nI n), .ref mc_, .ref mv_, .int (nI a), .int (nI b), .int (nI x1), .int (nI y1), .ref mk_, .ref mx_])), (mc_, .inl (G.2.1, 500, .inl (fun zz => nI (C zz)))), (mv_, .inl (G.2.1, 500, .inl (fun zz => nI (V zz)))), (mk_, .inl (G.2.1, 4096, .inl (fun zz => nI (K zz)))), (mx_, .inl (G.2.1, 4096, .inl (fun zz => nI (X zz))))] H := hP
          have hD : va_D A [(mo, .inr (4, [.int (nI L), .int (nI n), .ref mc_, .ref mv_, .int (nI a), .int (nI b), .int (nI x1), .int (nI y1), .ref mk_, .ref mx_])), (mc_, .inl (G.2.1, 500, .inl (fun zz => nI (C zz)))), (mv_, .inl (G.2.1, 500, .inl (fun zz => nI (V zz)))), (mk_, .inl (G.2.1, 4096, .inl (fun zz => nI (K zz)))), (mx_, .inl (G.2.1, 4096, .inl (fun zz => nI (X zz))))] := hD
          refine lv_aload_n hx hb d_Mo_window_42 rfl (lv_at hl 0 rfl) ?_
          refine lv_iload_n hx hb d_Mo_window_43 rfl (lv_at hl 3 rfl) ?_
          refine y_put S hk hP hD hS 0 rfl f_Mo_39 T_4 M_4_6 rfl rfl (Nat.le_of_ble_eq_true rfl) d_Mo_window_44 (fun H locs hP hD hS => ?_)
          have hP : va_P G.1 cls [(mo, .inr (4, [.int (nI L), .int (nI n), .ref mc_, .ref mv_, .int (nI a), .int (nI b), .int (nI a'), .int (nI y1), .ref mk_, .ref mx_])), (mc_, .inl (G.2.1, 500, .inl (fun zz => nI (C zz)))), (mv_, .inl (G.2.1, 500, .inl (fun zz => nI (V zz)))), (mk_, .inl (G.2.1, 4096, .inl (fun zz => nI (K zz)))), (mx_, .inl (G.2.1, 4096, .inl (fun zz => nI (X zz))))] H := hP
          have hD : va_D A [(mo, .inr (4, [.int (nI L), .int (nI n), .ref mc_, .ref mv_, .int (nI a), .int (nI b), .int (nI a'), .int (nI y1), .ref mk_, .ref mx_])), (mc_, .inl (G.2.1, 500, .inl (fun zz => nI (C zz)))), (mv_, .inl (G.2.1, 500, .inl (fun zz => nI (V zz)))), (mk_, .inl (G.2.1, 4096, .inl (fun zz => nI (K zz)))), (mx_, .inl (G.2.1, 4096, .inl (fun zz => nI (X zz))))] := hD
          refine lv_aload_n hx hb d_Mo_window_47 rfl (lv_at hl 0 rfl) ?_
          refine lv_iload hx hb d_Mo_window_48 (lv_at hl 4 rfl) ?_
          refine y_put S hk hP hD hS 0 rfl f_Mo_42 T_4 M_4_7 rfl rfl (Nat.le_of_ble_eq_true rfl) d_Mo_window_50 (fun H locs hP hD hS => ?_)
          have hP : va_P G.1 cls [(mo, .inr (4, [.int (nI L), .int (nI n), .ref mc_, .ref mv_, .int (nI a), .int (nI b), .int (nI a'), .int (nI b'), .ref mk_, .ref mx_])), (mc_, .inl (G.2.1, 500, .inl (fun zz => nI (C zz)))), (mv_, .inl (G.2.1, 500, .inl (fun zz => nI (V zz)))), (mk_, .inl (G.2.1, 4096, .inl (fun zz => nI (K zz)))), (mx_, .inl (G.2.1, 4096, .inl (fun zz => nI (X zz))))] H := hP
          have hD : va_D A [(mo, .inr (4, [.int (nI L), .int (nI n), .ref mc_, .ref mv_, .int (nI a), .int (nI b), .int (nI a'), .int (nI b'), .ref mk_, .ref mx_])), (mc_, .inl (G.2.1, 500, .inl (fun zz => nI (C zz)))), (mv_, .inl (G.2.1, 500, .inl (fun zz => nI (V zz)))), (mk_, .inl (G.2.1, 4096, .inl (fun zz => nI (K zz)))), (mx_, .inl (G.2.1, 4096, .inl (fun zz => nI (X zz))))] := hD
          refine lv_iconst (v := nI 1) hx hb d_Mo_window_53 (by decide) ?_
          exact hret _ _ _ (L, (n, C, V), (a, b, a', b'), (K, X)) _ _ (by decide) (Or.inl ⟨a, b, a', b', by omega, ha2, by omega, hb2, rfl, rfl, rfl, rfl, by decide, rfl⟩) hP hD hS d_Mo_window_54
        · refine lv_iconst (v := nI 0) hx hb d_Mo_window_30 (by decide) ?_
          exact hret _ _ _ (L, (n, C, V), (x0, y0, x1, y1), (K, X)) _ _ (by decide) (Or.inr ⟨by first | exact fun z => q1 (winO_1 z).1 | exact fun z => q2 (winO_1 z).2 | exact fun z => absurd (winO_nI hL ha hb' ha2 hb2 z) (by omega), by decide, rfl⟩) hP hD hS d_Mo_window_31
    · refine lv_if_eq hx hb d_Mo_window_16 (tgt := 30) (by decide) (fun _ => ?_) (fun h => absurd (by decide) h)
      refine lv_iconst (v := nI 0) hx hb d_Mo_window_30 (by decide) ?_
      exact hret _ _ _ (L, (n, C, V), (x0, y0, x1, y1), (K, X)) _ _ (by decide) (Or.inr ⟨by first | exact fun z => q1 (winO_1 z).1 | exact fun z => q2 (winO_1 z).2 | exact fun z => absurd (winO_nI hL ha hb' ha2 hb2 z) (by omega), by decide, rfl⟩) hP hD hS d_Mo_window_31
  · refine lv_if_eq hx hb d_Mo_window_6 (tgt := 30) (by decide) (fun _ => ?_) (fun h => absurd (by decide) h)
    refine lv_iconst (v := nI 0) hx hb d_Mo_window_30 (by decide) ?_
    exact hret _ _ _ (L, (n, C, V), (x0, y0, x1, y1), (K, X)) _ _ (by decide) (Or.inr ⟨by first | exact fun z => q1 (winO_1 z).1 | exact fun z => q2 (winO_1 z).2 | exact fun z => absurd (winO_nI hL ha hb' ha2 hb2 z) (by omega), by decide, rfl⟩) hP hD hS d_Mo_window_31
set_option maxHeartbeats 4000000 in
set_option maxRecDepth 100000 in
theorem c_Mo_put (la : Launch) (G : gG) (mo mc_ mv_ mk_ mx_ L n x0 y0 x1 y1 : Nat) (C V K X : Nat → Nat) (x y w : Int32) (hM : okMo (L, (n, C, V), (x0, y0, x1, y1), (K, X))) : MetW la y_Mo_put b_Mo_put 6 .int 2 42 0 0 [.ref mo, .int x, .int y, .int w] G [(mo, .inr (4, [.int (nI L), .int (nI n), .ref mc_, .ref mv_, .int (nI x0), .int (nI y0), .int (nI x1), .int (nI y1), .ref mk_, .ref mx_])), (mc_, .inl (G.2.1, 500, .inl (fun zz => nI (C zz)))), (mv_, .inl (G.2.1, 500, .inl (fun zz => nI (V zz)))), (mk_, .inl (G.2.1, 4096, .inl (fun zz => nI (K zz)))), (mx_, .inl (G.2.1, 4096, .inl (fun zz => nI (X zz))))] (S := mS) (fun r u => (∃ a b k, a < 2 ^ L ∧ b < 2 ^ L ∧ 1 ≤ k ∧ k ≤ 999 ∧ x = nI a ∧ y = nI b ∧ w = nI k ∧ (wt n C V (a * 2 ^ L + b) ≠ 0 ∨ n < 500) ∧ r = nI (wt n C V (a * 2 ^ L + b)) ∧ putS n C V (a * 2 ^ L + b) k u.2.1.1 u.2.1.2.1 u.2.1.2.2 ∧ okMo u ∧ u.1 = L ∧ u.2.2.1 = (x0, y0, x1, y1)) ∨ (¬ putO L n C V x y w ∧ r = -1 ∧ u = (L, (n, C, V), (x0, y0, x1, y1), (K, X)))) (fun u => [(mo, .inr (4, [.int (nI u.1), .int (nI u.2.1.1), .ref mc_, .ref mv_, .int (nI u.2.2.1.1), .int (nI u.2.2.1.2.1), .int (nI u.2.2.1.2.2.1), .int (nI u.2.2.1.2.2.2), .ref mk_, .ref mx_])), (mc_, .inl (G.2.1, 500, .inl (fun zz => nI (u.2.1.2.1 zz)))), (mv_, .inl (G.2.1, 500, .inl (fun zz => nI (u.2.1.2.2 zz)))), (mk_, .inl (G.2.1, 4096, .inl (fun zz => nI (u.2.2.2.1 zz)))), (mx_, .inl (G.2.1, 4096, .inl (fun zz => nI (u.2.2.2.2 zz))))]) := by
  refine MetW.mk (by decide +kernel) (Nat.le_of_ble_eq_true rfl) ?_
  intro p e s m below meth c Q A ls S hP hD hA hS hk hs hret hl
  have hx := S.1
  have hb := S.2.1
  have hP : va_P G.1 cls [(mo, .inr (4, [.int (nI L), .int (nI n), .ref mc_, .ref mv_, .int (nI x0), .int (nI y0), .int (nI x1), .int (nI y1), .ref mk_, .ref mx_])), (mc_, .inl (G.2.1, 500, .inl (fun zz => nI (C zz)))), (mv_, .inl (G.2.1, 500, .inl (fun zz => nI (V zz)))), (mk_, .inl (G.2.1, 4096, .inl (fun zz => nI (K zz)))), (mx_, .inl (G.2.1, 4096, .inl (fun zz => nI (X zz))))] s.heap := hP
  have hD : va_D A [(mo, .inr (4, [.int (nI L), .int (nI n), .ref mc_, .ref mv_, .int (nI x0), .int (nI y0), .int (nI x1), .int (nI y1), .ref mk_, .ref mx_])), (mc_, .inl (G.2.1, 500, .inl (fun zz => nI (C zz)))), (mv_, .inl (G.2.1, 500, .inl (fun zz => nI (V zz)))), (mk_, .inl (G.2.1, 4096, .inl (fun zz => nI (K zz)))), (mx_, .inl (G.2.1, 4096, .inl (fun zz => nI (X zz))))] := hD
  have hM' := hM
  obtain ⟨⟨hL1, hL⟩, hm, ⟨hC, hV⟩, hF, hK, hX⟩ := hM
  dsimp only at hL1 hL hm hC hV hF hK hX
  have hFb := hF.b hL
  obtain ⟨hf1, hf2, hf3, hf4⟩ := hF
  dsimp only at hf1 hf2 hf3 hf4 hFb
  have hp2 := p2_15 hL
  have hp4 := p4_15 hL
  have hpp := Nat.two_pow_pos L
  have hn5 := hm.1
  rcases ng w with hw0 | ⟨k, hk', rfl⟩
  · have hl : lv_has ls 6 [(0, .ref mo), (1, .int x), (2, .int y), (3, .int w)] := hl
    refine lv_aload_n hx hb d_Mo_put_0 rfl (lv_at hl 0 rfl) ?_
    refine lv_iload_n hx hb d_Mo_put_1 rfl (lv_at hl 1 rfl) ?_
    refine lv_iload_n hx hb d_Mo_put_2 rfl (lv_at hl 2 rfl) ?_
    refine vp_callSi (va_Run.run (run_V S v_Mo_49 (c_Mo_isCell la G mo mc_ mv_ mk_ mx_ L n x0 y0 x1 y1 x y hL) ⟨rfl, rfl⟩ ⟨Nat.le_of_ble_eq_true rfl, Nat.le_of_ble_eq_true rfl⟩ (preR_V hP hk (hs.kept (fun a h1 h2 => hS.2.1 a h1 h2)) [0] rfl 0 rfl rfl) (rest := []) rfl hl.1 rfl (Nat.le_of_ble_eq_true rfl) d_Mo_put_3 ⟨Nat.le_of_ble_eq_true rfl, Nat.le_of_ble_eq_true rfl⟩)) (fun r1 hr1 => ?_)
    rcases hr1 with ⟨rfl, a, b, ha, hb', rfl, rfl⟩ | ⟨rfl, q1⟩
    · have hl : lv_has ls 6 [(0, .ref mo), (1, .int (nI a)), (2, .int (nI b)), (3, .int w)] := hl
      have hcm := (cl_mk ha hb').1
      refine lv_if_eq hx hb d_Mo_put_6 (tgt := 21) (by decide) (fun h => absurd h (by decide)) (fun _ => ?_)
      refine lv_iload_n hx hb d_Mo_put_9 rfl (lv_at hl 3 rfl) ?_
      refine lv_iconst (v := nI 1) hx hb d_Mo_put_10 (by decide) ?_
      refine lv_icmp_lt hx hb d_Mo_put_11 (tgt := 21) (by decide) (fun _ => ?_) (fun h => absurd (ng_lt hw0 (by omega)) h)
      refine lv_iconst (v := (-1)) hx hb d_Mo_put_21 (by decide) ?_
      exact hret _ _ _ (L, (n, C, V), (x0, y0, x1, y1), (K, X)) _ _ rfl (Or.inr ⟨by first | exact fun z => q1 (putO_c z).1 | exact fun z => absurd hw0 (putO_c z).2 | exact fun z => absurd (putO_nI hL ha hb' hk' z) (by omega), rfl, rfl⟩) hP hD hS d_Mo_put_22
    · refine lv_if_eq hx hb d_Mo_put_6 (tgt := 21) (by decide) (fun _ => ?_) (fun h => absurd (by decide) h)
      refine lv_iconst (v := (-1)) hx hb d_Mo_put_21 (by decide) ?_
      exact hret _ _ _ (L, (n, C, V), (x0, y0, x1, y1), (K, X)) _ _ rfl (Or.inr ⟨by first | exact fun z => q1 (putO_c z).1 | exact fun z => absurd hw0 (putO_c z).2 | exact fun z => absurd (putO_nI hL ha hb' hk' z) (by omega), rfl, rfl⟩) hP hD hS d_Mo_put_22
  · have hl : lv_has ls 6 [(0, .ref mo), (1, .int x), (2, .int y), (3, .int (nI k))] := hl
    refine lv_aload_n hx hb d_Mo_put_0 rfl (lv_at hl 0 rfl) ?_
    refine lv_iload_n hx hb d_Mo_put_1 rfl (lv_at hl 1 rfl) ?_
    refine lv_iload_n hx hb d_Mo_put_2 rfl (lv_at hl 2 rfl) ?_
    refine vp_callSi (va_Run.run (run_V S v_Mo_49 (c_Mo_isCell la G mo mc_ mv_ mk_ mx_ L n x0 y0 x1 y1 x y hL) ⟨rfl, rfl⟩ ⟨Nat.le_of_ble_eq_true rfl, Nat.le_of_ble_eq_true rfl⟩ (preR_V hP hk (hs.kept (fun a h1 h2 => hS.2.1 a h1 h2)) [0] rfl 0 rfl rfl) (rest := []) rfl hl.1 rfl (Nat.le_of_ble_eq_true rfl) d_Mo_put_3 ⟨Nat.le_of_ble_eq_true rfl, Nat.le_of_ble_eq_true rfl⟩)) (fun r1 hr1 => ?_)
    rcases hr1 with ⟨rfl, a, b, ha, hb', rfl, rfl⟩ | ⟨rfl, q1⟩
    · have hl : lv_has ls 6 [(0, .ref mo), (1, .int (nI a)), (2, .int (nI b)), (3, .int (nI k))] := hl
      have hcm := (cl_mk ha hb').1
      refine lv_if_eq hx hb d_Mo_put_6 (tgt := 21) (by decide) (fun h => absurd h (by decide)) (fun _ => ?_)
      refine lv_iload_n hx hb d_Mo_put_9 rfl (lv_at hl 3 rfl) ?_
      refine lv_iconst (v := nI 1) hx hb d_Mo_put_10 (by decide) ?_
      refine x_icmp_lt hx hb d_Mo_put_11 (tgt := 21) (by decide) (by omega) (by omega) (fun h11 => ?_) (fun h11 => ?_)
      · refine lv_iconst (v := (-1)) hx hb d_Mo_put_21 (by decide) ?_
        exact hret _ _ _ (L, (n, C, V), (x0, y0, x1, y1), (K, X)) _ _ rfl (Or.inr ⟨by first | exact fun z => q1 (putO_c z).1 | exact fun z => absurd hw0 (putO_c z).2 | exact fun z => absurd (putO_nI hL ha hb' hk' z) (by omega), rfl, rfl⟩) hP hD hS d_Mo_put_22
      · refine lv_iload_n hx hb d_Mo_put_14 rfl (lv_at hl 3 rfl) ?_
        refine lv_sipush (v := nI 999) hx hb d_Mo_put_15 (by decide) ?_
        refine x_icmp_le hx hb d_Mo_put_18 (tgt := 23) (by decide) (by omega) (by omega) (fun h18 => ?_) (fun h18 => ?_)
        · refine lv_aload_n hx hb d_Mo_put_23 rfl (lv_at hl 0 rfl) ?_
          refine lv_iload_n hx hb d_Mo_put_24 rfl (lv_at hl 1 rfl) ?_
          refine lv_aload_n hx hb d_Mo_put_25 rfl (lv_at hl 0 rfl) ?_
          refine vp_callSi (va_Run.run (run_V S v_Mo_26 (c_Mo_side la G mo mc_ mv_ mk_ mx_ L n x0 y0 x1 y1 hL) ⟨rfl, rfl⟩ ⟨Nat.le_of_ble_eq_true rfl, Nat.le_of_ble_eq_true rfl⟩ (preR_V hP hk (hs.kept (fun a h1 h2 => hS.2.1 a h1 h2)) [0] rfl 0 rfl rfl) (rest := [.int (nI a), .ref mo]) rfl hl.1 rfl (Nat.le_of_ble_eq_true rfl) d_Mo_put_26 ⟨Nat.le_of_ble_eq_true rfl, Nat.le_of_ble_eq_true rfl⟩)) (fun r26 hr26 => ?_)
          subst hr26
          refine x_imul hx hb d_Mo_put_29 ?_
          refine lv_iload_n hx hb d_Mo_put_30 rfl (lv_at hl 2 rfl) ?_
          refine x_iadd hx hb d_Mo_put_31 ?_
          refine vp_callSi (va_Run.run (run_V S v_Mo_61 (c_Mo_find la G mo mc_ mv_ mk_ mx_ L n x0 y0 x1 y1 C (a * 2 ^ L + b) hn5 hC (by omega)) ⟨rfl, rfl⟩ ⟨Nat.le_of_ble_eq_true rfl, Nat.le_of_ble_eq_true rfl⟩ (preR_V hP hk (hs.kept (fun a h1 h2 => hS.2.1 a h1 h2)) [0, 1] rfl 0 rfl rfl) (rest := []) rfl hl.1 rfl (Nat.le_of_ble_eq_true rfl) d_Mo_put_32 ⟨Nat.le_of_ble_eq_true rfl, Nat.le_of_ble_eq_true rfl⟩)) (fun r2 hr2 => ?_)
          obtain ⟨q, hfd, rfl⟩ := hr2
          have hq := hfd.1
          refine lv_istore hx hb d_Mo_put_35 hl (by decide) rfl (fun ls hl => ?_)
          have hl : lv_has ls 6 [(4, .int (nI q)), (0, .ref mo), (1, .int (nI a)), (2, .int (nI b)), (3, .int (nI k))] := hl
          refine lv_iload hx hb d_Mo_put_37 (lv_at hl 0 rfl) ?_
          refine lv_sipush (v := nI 500) hx hb d_Mo_put_39 (by decide) ?_
          refine x_icmp_ne hx hb d_Mo_put_42 (tgt := 47) (by decide) (by omega) (by omega) (fun h42 => ?_) (fun h42 => ?_)
          · refine lv_iload hx hb d_Mo_put_47 (lv_at hl 0 rfl) ?_
            refine lv_aload_n hx hb d_Mo_put_49 rfl (lv_at hl 1 rfl) ?_
            refine y_get S hk hP 0 rfl f_Mo_30 rfl d_Mo_put_50 ?_
            refine x_icmp_ge hx hb d_Mo_put_53 (tgt := 66) (by decide) (by omega) (by omega) (fun h53 => ?_) (fun h53 => ?_)
            · refine lv_iconst (v := nI 0) hx hb d_Mo_put_66 (by decide) ?_
              refine lv_istore hx hb d_Mo_put_67 hl (by decide) rfl (fun ls hl => ?_)
              have hl : lv_has ls 6 [(5, .int (nI 0)), (4, .int (nI q)), (0, .ref mo), (1, .int (nI a)), (2, .int (nI b)), (3, .int (nI k))] := hl
              refine lv_aload_n hx hb d_Mo_put_69 rfl (lv_at hl 2 rfl) ?_
              refine y_get S hk hP 0 rfl f_Mo_13 rfl d_Mo_put_70 ?_
              refine lv_iload hx hb d_Mo_put_73 (lv_at hl 1 rfl) ?_
              refine lv_iload_n hx hb d_Mo_put_75 rfl (lv_at hl 3 rfl) ?_
              refine lv_aload_n hx hb d_Mo_put_76 rfl (lv_at hl 2 rfl) ?_
              refine vp_callSi (va_Run.run (run_V S v_Mo_26 (c_Mo_side la G mo mc_ mv_ mk_ mx_ L n x0 y0 x1 y1 hL) ⟨rfl, rfl⟩ ⟨Nat.le_of_ble_eq_true rfl, Nat.le_of_ble_eq_true rfl⟩ (preR_V hP hk (hs.kept (fun a h1 h2 => hS.2.1 a h1 h2)) [0] rfl 0 rfl rfl) (rest := [.int (nI a), .int (nI q), .ref mc_]) rfl hl.1 rfl (Nat.le_of_ble_eq_true rfl) d_Mo_put_77 ⟨Nat.le_of_ble_eq_true rfl, Nat.le_of_ble_eq_true rfl⟩)) (fun r77 hr77 => ?_)
              subst hr77
              refine x_imul hx hb d_Mo_put_80 ?_
              refine lv_iload_n hx hb d_Mo_put_81 rfl (lv_at hl 4 rfl) ?_
              refine x_iadd hx hb d_Mo_put_82 ?_
              refine y_ast hx hb hk hP hD hS 1 rfl (by omega) (by decide) d_Mo_put_83 (fun H locs hP hD hS => ?_)
              have hP : va_P G.1 cls [(mo, .inr (4, [.int (nI L), .int (nI n), .ref mc_, .ref mv_, .int (nI x0), .int (nI y0), .int (nI x1), .int (nI y1), .ref mk_, .ref mx_])), (mc_, .inl (G.2.1, 500, .inl (fun zz => nI ((va_up C q ((a * (2 ^ L)) + b)) zz)))), (mv_, .inl (G.2.1, 500, .inl (fun zz => nI (V zz)))), (mk_, .inl (G.2.1, 4096, .inl (fun zz => nI (K zz)))), (mx_, .inl (G.2.1, 4096, .inl (fun zz => nI (X zz))))] H := hP
              have hD : va_D A [(mo, .inr (4, [.int (nI L), .int (nI n), .ref mc_, .ref mv_, .int (nI x0), .int (nI y0), .int (nI x1), .int (nI y1), .ref mk_, .ref mx_])), (mc_, .inl (G.2.1, 500, .inl (fun zz => nI ((va_up C q ((a * (2 ^ L)) + b)) zz)))), (mv_, .inl (G.2.1, 500, .inl (fun zz => nI (V zz)))), (mk_, .inl (G.2.1, 4096, .inl (fun zz => nI (K zz)))), (mx_, .inl (G.2.1, 4096, .inl (fun zz => nI (X zz))))] := hD
              refine lv_aload_n hx hb d_Mo_put_84 rfl (lv_at hl 2 rfl) ?_
              refine y_get S hk hP 0 rfl f_Mo_17 rfl d_Mo_put_85 ?_
              refine lv_iload hx hb d_Mo_put_88 (lv_at hl 1 rfl) ?_
              refine lv_iload_n hx hb d_Mo_put_90 rfl (lv_at hl 5 rfl) ?_
              refine y_ast hx hb hk hP hD hS 2 rfl (by omega) (by decide) d_Mo_put_91 (fun H locs hP hD hS => ?_)
              have hP : va_P G.1 cls [(mo, .inr (4, [.int (nI L), .int (nI n), .ref mc_, .ref mv_, .int (nI x0), .int (nI y0), .int (nI x1), .int (nI y1), .ref mk_, .ref mx_])), (mc_, .inl (G.2.1, 500, .inl (fun zz => nI ((va_up C q ((a * (2 ^ L)) + b)) zz)))), (mv_, .inl (G.2.1, 500, .inl (fun zz => nI ((va_up V q k) zz)))), (mk_, .inl (G.2.1, 4096, .inl (fun zz => nI (K zz)))), (mx_, .inl (G.2.1, 4096, .inl (fun zz => nI (X zz))))] H := hP
              have hD : va_D A [(mo, .inr (4, [.int (nI L), .int (nI n), .ref mc_, .ref mv_, .int (nI x0), .int (nI y0), .int (nI x1), .int (nI y1), .ref mk_, .ref mx_])), (mc_, .inl (G.2.1, 500, .inl (fun zz => nI ((va_up C q ((a * (2 ^ L)) + b)) zz)))), (mv_, .inl (G.2.1, 500, .inl (fun zz => nI ((va_up V q k) zz)))), (mk_, .inl (G.2.1, 4096, .inl (fun zz => nI (K zz)))), (mx_, .inl (G.2.1, 4096, .inl (fun zz => nI (X zz))))] := hD
              refine lv_aload_n hx hb d_Mo_put_92 rfl (lv_at hl 2 rfl) ?_
              refine lv_iload hx hb d_Mo_put_93 (lv_at hl 1 rfl) ?_
              refine lv_aload_n hx hb d_Mo_put_95 rfl (lv_at hl 2 rfl) ?_
              refine y_get S hk hP 0 rfl f_Mo_30 rfl d_Mo_put_96 ?_
              refine x_icmp_ne hx hb d_Mo_put_99 (tgt := 111) (by decide) (by omega) (by omega) (fun h99 => ?_) (fun h99 => ?_)
              · exact absurd h99 (by omega)
              · refine lv_aload_n hx hb d_Mo_put_102 rfl (lv_at hl 2 rfl) ?_
                refine y_get S hk hP 0 rfl f_Mo_30 rfl d_Mo_put_103 ?_
                refine lv_iconst (v := nI 1) hx hb d_Mo_put_106 (by decide) ?_
                refine x_iadd hx hb d_Mo_put_107 ?_
                refine lv_goto hx hb d_Mo_put_108 (tgt := 115) (by decide) ?_
                refine y_put S hk hP hD hS 0 rfl f_Mo_30 T_4 M_4_1 rfl rfl (Nat.le_of_ble_eq_true rfl) d_Mo_put_115 (fun H locs hP hD hS => ?_)
                have hP : va_P G.1 cls [(mo, .inr (4, [.int (nI L), .int (nI (n + 1)), .ref mc_, .ref mv_, .int (nI x0), .int (nI y0), .int (nI x1), .int (nI y1), .ref mk_, .ref mx_])), (mc_, .inl (G.2.1, 500, .inl (fun zz => nI ((va_up C q ((a * (2 ^ L)) + b)) zz)))), (mv_, .inl (G.2.1, 500, .inl (fun zz => nI ((va_up V q k) zz)))), (mk_, .inl (G.2.1, 4096, .inl (fun zz => nI (K zz)))), (mx_, .inl (G.2.1, 4096, .inl (fun zz => nI (X zz))))] H := hP
                have hD : va_D A [(mo, .inr (4, [.int (nI L), .int (nI (n + 1)), .ref mc_, .ref mv_, .int (nI x0), .int (nI y0), .int (nI x1), .int (nI y1), .ref mk_, .ref mx_])), (mc_, .inl (G.2.1, 500, .inl (fun zz => nI ((va_up C q ((a * (2 ^ L)) + b)) zz)))), (mv_, .inl (G.2.1, 500, .inl (fun zz => nI ((va_up V q k) zz)))), (mk_, .inl (G.2.1, 4096, .inl (fun zz => nI (K zz)))), (mx_, .inl (G.2.1, 4096, .inl (fun zz => nI (X zz))))] := hD
                refine lv_iload hx hb d_Mo_put_118 (lv_at hl 0 rfl) ?_
                exact hret _ _ _ (L, (n + 1, va_up C q (a * 2 ^ L + b), va_up V q k), (x0, y0, x1, y1), (K, X)) _ _ rfl (by obtain ⟨g1, g2⟩ := mput_ok hm hcm ⟨by omega, by omega⟩ hfd (k := q) (w := k) (by omega); rw [if_pos (by omega)] at g1 g2; exact Or.inl ⟨a, b, k, ha, hb', by omega, by omega, rfl, rfl, rfl, Or.inr (by omega), by rw [hfd.wt0 (V := V) (by omega)], g2, ⟨⟨hL1, hL⟩, g1, ⟨bd_up hC (by omega), bd_up hV hk'⟩, ⟨hf1, hf2, hf3, hf4⟩, hK, hX⟩, rfl, rfl⟩) hP hD hS d_Mo_put_120
            · refine lv_aload_n hx hb d_Mo_put_56 rfl (lv_at hl 1 rfl) ?_
              refine y_get S hk hP 0 rfl f_Mo_17 rfl d_Mo_put_57 ?_
              refine lv_iload hx hb d_Mo_put_60 (lv_at hl 0 rfl) ?_
              refine y_ald hx hb hk hP 2 rfl (by omega) (by decide) d_Mo_put_62 ?_
              refine lv_goto hx hb d_Mo_put_63 (tgt := 67) (by decide) ?_
              refine lv_istore hx hb d_Mo_put_67 hl (by decide) rfl (fun ls hl => ?_)
              have hl : lv_has ls 6 [(5, .int (nI (V q))), (4, .int (nI q)), (0, .ref mo), (1, .int (nI a)), (2, .int (nI b)), (3, .int (nI k))] := hl
              refine lv_aload_n hx hb d_Mo_put_69 rfl (lv_at hl 2 rfl) ?_
              refine y_get S hk hP 0 rfl f_Mo_13 rfl d_Mo_put_70 ?_
              refine lv_iload hx hb d_Mo_put_73 (lv_at hl 1 rfl) ?_
              refine lv_iload_n hx hb d_Mo_put_75 rfl (lv_at hl 3 rfl) ?_
              refine lv_aload_n hx hb d_Mo_put_76 rfl (lv_at hl 2 rfl) ?_
              refine vp_callSi (va_Run.run (run_V S v_Mo_26 (c_Mo_side la G mo mc_ mv_ mk_ mx_ L n x0 y0 x1 y1 hL) ⟨rfl, rfl⟩ ⟨Nat.le_of_ble_eq_true rfl, Nat.le_of_ble_eq_true rfl⟩ (preR_V hP hk (hs.kept (fun a h1 h2 => hS.2.1 a h1 h2)) [0] rfl 0 rfl rfl) (rest := [.int (nI a), .int (nI q), .ref mc_]) rfl hl.1 rfl (Nat.le_of_ble_eq_true rfl) d_Mo_put_77 ⟨Nat.le_of_ble_eq_true rfl, Nat.le_of_ble_eq_true rfl⟩)) (fun r77 hr77 => ?_)
              subst hr77
              refine x_imul hx hb d_Mo_put_80 ?_
              refine lv_iload_n hx hb d_Mo_put_81 rfl (lv_at hl 4 rfl) ?_
              refine x_iadd hx hb d_Mo_put_82 ?_
              refine y_ast hx hb hk hP hD hS 1 rfl (by omega) (by decide) d_Mo_put_83 (fun H locs hP hD hS => ?_)
              have hP : va_P G.1 cls [(mo, .inr (4, [.int (nI L), .int (nI n), .ref mc_, .ref mv_, .int (nI x0), .int (nI y0), .int (nI x1), .int (nI y1), .ref mk_, .ref mx_])), (mc_, .inl (G.2.1, 500, .inl (fun zz => nI ((va_up C q ((a * (2 ^ L)) + b)) zz)))), (mv_, .inl (G.2.1, 500, .inl (fun zz => nI (V zz)))), (mk_, .inl (G.2.1, 4096, .inl (fun zz => nI (K zz)))), (mx_, .inl (G.2.1, 4096, .inl (fun zz => nI (X zz))))] H := hP
              have hD : va_D A [(mo, .inr (4, [.int (nI L), .int (nI n), .ref mc_, .ref mv_, .int (nI x0), .int (nI y0), .int (nI x1), .int (nI y1), .ref mk_, .ref mx_])), (mc_, .inl (G.2.1, 500, .inl (fun zz => nI ((va_up C q ((a * (2 ^ L)) + b)) zz)))), (mv_, .inl (G.2.1, 500, .inl (fun zz => nI (V zz)))), (mk_, .inl (G.2.1, 4096, .inl (fun zz => nI (K zz)))), (mx_, .inl (G.2.1, 4096, .inl (fun zz => nI (X zz))))] := hD
              refine lv_aload_n hx hb d_Mo_put_84 rfl (lv_at hl 2 rfl) ?_
              refine y_get S hk hP 0 rfl f_Mo_17 rfl d_Mo_put_85 ?_
              refine lv_iload hx hb d_Mo_put_88 (lv_at hl 1 rfl) ?_
              refine lv_iload_n hx hb d_Mo_put_90 rfl (lv_at hl 5 rfl) ?_
              refine y_ast hx hb hk hP hD hS 2 rfl (by omega) (by decide) d_Mo_put_91 (fun H locs hP hD hS => ?_)
              have hP : va_P G.1 cls [(mo, .inr (4, [.int (nI L), .int (nI n), .ref mc_, .ref mv_, .int (nI x0), .int (nI y0), .int (nI x1), .int (nI y1), .ref mk_, .ref mx_])), (mc_, .inl (G.2.1, 500, .inl (fun zz => nI ((va_up C q ((a * (2 ^ L)) + b)) zz)))), (mv_, .inl (G.2.1, 500, .inl (fun zz => nI ((va_up V q k) zz)))), (mk_, .inl (G.2.1, 4096, .inl (fun zz => nI (K zz)))), (mx_, .inl (G.2.1, 4096, .inl (fun zz => nI (X zz))))] H := hP
              have hD : va_D A [(mo, .inr (4, [.int (nI L), .int (nI n), .ref mc_, .ref mv_, .int (nI x0), .int (nI y0), .int (nI x1), .int (nI y1), .ref mk_, .ref mx_])), (mc_, .inl (G.2.1, 500, .inl (fun zz => nI ((va_up C q ((a * (2 ^ L)) + b)) zz)))), (mv_, .inl (G.2.1, 500, .inl (fun zz => nI ((va_up V q k) zz)))), (mk_, .inl (G.2.1, 4096, .inl (fun zz => nI (K zz)))), (mx_, .inl (G.2.1, 4096, .inl (fun zz => nI (X zz))))] := hD
              refine lv_aload_n hx hb d_Mo_put_92 rfl (lv_at hl 2 rfl) ?_
              refine lv_iload hx hb d_Mo_put_93 (lv_at hl 1 rfl) ?_
              refine lv_aload_n hx hb d_Mo_put_95 rfl (lv_at hl 2 rfl) ?_
              refine y_get S hk hP 0 rfl f_Mo_30 rfl d_Mo_put_96 ?_
              refine x_icmp_ne hx hb d_Mo_put_99 (tgt := 111) (by decide) (by omega) (by omega) (fun h99 => ?_) (fun h99 => ?_)
              · refine lv_aload_n hx hb d_Mo_put_111 rfl (lv_at hl 2 rfl) ?_
                refine y_get S hk hP 0 rfl f_Mo_30 rfl d_Mo_put_112 ?_
                refine y_put S hk hP hD hS 0 rfl f_Mo_30 T_4 M_4_1 rfl rfl (Nat.le_of_ble_eq_true rfl) d_Mo_put_115 (fun H locs hP hD hS => ?_)
                have hP : va_P G.1 cls [(mo, .inr (4, [.int (nI L), .int (nI n), .ref mc_, .ref mv_, .int (nI x0), .int (nI y0), .int (nI x1), .int (nI y1), .ref mk_, .ref mx_])), (mc_, .inl (G.2.1, 500, .inl (fun zz => nI ((va_up C q ((a * (2 ^ L)) + b)) zz)))), (mv_, .inl (G.2.1, 500, .inl (fun zz => nI ((va_up V q k) zz)))), (mk_, .inl (G.2.1, 4096, .inl (fun zz => nI (K zz)))), (mx_, .inl (G.2.1, 4096, .inl (fun zz => nI (X zz))))] H := hP
                have hD : va_D A [(mo, .inr (4, [.int (nI L), .int (nI n), .ref mc_, .ref mv_, .int (nI x0), .int (nI y0), .int (nI x1), .int (nI y1), .ref mk_, .ref mx_])), (mc_, .inl (G.2.1, 500, .inl (fun zz => nI ((va_up C q ((a * (2 ^ L)) + b)) zz)))), (mv_, .inl (G.2.1, 500, .inl (fun zz => nI ((va_up V q k) zz)))), (mk_, .inl (G.2.1, 4096, .inl (fun zz => nI (K zz)))), (mx_, .inl (G.2.1, 4096, .inl (fun zz => nI (X zz))))] := hD
                refine lv_iload hx hb d_Mo_put_118 (lv_at hl 0 rfl) ?_
                exact hret _ _ _ (L, (n, va_up C q (a * 2 ^ L + b), va_up V q k), (x0, y0, x1, y1), (K, X)) _ _ rfl (by obtain ⟨g1, g2⟩ := mput_ok hm hcm ⟨by omega, by omega⟩ hfd (k := q) (w := k) (by omega); rw [if_neg (by omega)] at g1 g2; exact Or.inl ⟨a, b, k, ha, hb', by omega, by omega, rfl, rfl, rfl, Or.inl (by rw [hm.wt1 hfd h53]; have := (hm.2.1 q h53).2; omega), by rw [hm.wt1 hfd h53], g2, ⟨⟨hL1, hL⟩, g1, ⟨bd_up hC (by omega), bd_up hV hk'⟩, ⟨hf1, hf2, hf3, hf4⟩, hK, hX⟩, rfl, rfl⟩) hP hD hS d_Mo_put_120
              · exact absurd h99 (by omega)
          · refine lv_iconst (v := (-1)) hx hb d_Mo_put_45 (by decide) ?_
            exact hret _ _ _ (L, (n, C, V), (x0, y0, x1, y1), (K, X)) _ _ rfl (Or.inr ⟨fun z => by have := putO_nI hL ha hb' hk' z; rw [hfd.wt0 (by omega)] at this; omega, rfl, rfl⟩) hP hD hS d_Mo_put_46
        · refine lv_iconst (v := (-1)) hx hb d_Mo_put_21 (by decide) ?_
          exact hret _ _ _ (L, (n, C, V), (x0, y0, x1, y1), (K, X)) _ _ rfl (Or.inr ⟨by first | exact fun z => q1 (putO_c z).1 | exact fun z => absurd hw0 (putO_c z).2 | exact fun z => absurd (putO_nI hL ha hb' hk' z) (by omega), rfl, rfl⟩) hP hD hS d_Mo_put_22
    · refine lv_if_eq hx hb d_Mo_put_6 (tgt := 21) (by decide) (fun _ => ?_) (fun h => absurd (by decide) h)
      refine lv_iconst (v := (-1)) hx hb d_Mo_put_21 (by decide) ?_
      exact hret _ _ _ (L, (n, C, V), (x0, y0, x1, y1), (K, X)) _ _ rfl (Or.inr ⟨by first | exact fun z => q1 (putO_c z).1 | exact fun z => absurd hw0 (putO_c z).2 | exact fun z => absurd (putO_nI hL ha hb' hk' z) (by omega), rfl, rfl⟩) hP hD hS d_Mo_put_22
set_option maxHeartbeats 4000000 in
set_option maxRecDepth 100000 in
theorem c_Mo_take (la : Launch) (G : gG) (mo mc_ mv_ mk_ mx_ L n x0 y0 x1 y1 : Nat) (C V K X : Nat → Nat) (x y : Int32) (hM : okMo (L, (n, C, V), (x0, y0, x1, y1), (K, X))) : MetW la y_Mo_take b_Mo_take 5 .int 2 42 0 0 [.ref mo, .int x, .int y] G [(mo, .inr (4, [.int (nI L), .int (nI n), .ref mc_, .ref mv_, .int (nI x0), .int (nI y0), .int (nI x1), .int (nI y1), .ref mk_, .ref mx_])), (mc_, .inl (G.2.1, 500, .inl (fun zz => nI (C zz)))), (mv_, .inl (G.2.1, 500, .inl (fun zz => nI (V zz)))), (mk_, .inl (G.2.1, 4096, .inl (fun zz => nI (K zz)))), (mx_, .inl (G.2.1, 4096, .inl (fun zz => nI (X zz))))] (S := mS) (fun r u => (∃ a b, a < 2 ^ L ∧ b < 2 ^ L ∧ x = nI a ∧ y = nI b ∧ r = nI (wt n C V (a * 2 ^ L + b)) ∧ takS n C V (a * 2 ^ L + b) u.2.1.1 u.2.1.2.1 u.2.1.2.2 ∧ okMo u ∧ u.1 = L ∧ u.2.2.1 = (x0, y0, x1, y1)) ∨ (¬ inC L x y ∧ r = -1 ∧ u = (L, (n, C, V), (x0, y0, x1, y1), (K, X)))) (fun u => [(mo, .inr (4, [.int (nI u.1), .int (nI u.2.1.1), .ref mc_, .ref mv_, .int (nI u.2.2.1.1), .int (nI u.2.2.1.2.1), .int (nI u.2.2.1.2.2.1), .int (nI u.2.2.1.2.2.2), .ref mk_, .ref mx_])), (mc_, .inl (G.2.1, 500, .inl (fun zz => nI (u.2.1.2.1 zz)))), (mv_, .inl (G.2.1, 500, .inl (fun zz => nI (u.2.1.2.2 zz)))), (mk_, .inl (G.2.1, 4096, .inl (fun zz => nI (u.2.2.2.1 zz)))), (mx_, .inl (G.2.1, 4096, .inl (fun zz => nI (u.2.2.2.2 zz))))]) := by
  refine MetW.mk (by decide +kernel) (Nat.le_of_ble_eq_true rfl) ?_
  intro p e s m below meth c Q A ls S hP hD hA hS hk hs hret hl
  have hx := S.1
  have hb := S.2.1
  have hP : va_P G.1 cls [(mo, .inr (4, [.int (nI L), .int (nI n), .ref mc_, .ref mv_, .int (nI x0), .int (nI y0), .int (nI x1), .int (nI y1), .ref mk_, .ref mx_])), (mc_, .inl (G.2.1, 500, .inl (fun zz => nI (C zz)))), (mv_, .inl (G.2.1, 500, .inl (fun zz => nI (V zz)))), (mk_, .inl (G.2.1, 4096, .inl (fun zz => nI (K zz)))), (mx_, .inl (G.2.1, 4096, .inl (fun zz => nI (X zz))))] s.heap := hP
  have hD : va_D A [(mo, .inr (4, [.int (nI L), .int (nI n), .ref mc_, .ref mv_, .int (nI x0), .int (nI y0), .int (nI x1), .int (nI y1), .ref mk_, .ref mx_])), (mc_, .inl (G.2.1, 500, .inl (fun zz => nI (C zz)))), (mv_, .inl (G.2.1, 500, .inl (fun zz => nI (V zz)))), (mk_, .inl (G.2.1, 4096, .inl (fun zz => nI (K zz)))), (mx_, .inl (G.2.1, 4096, .inl (fun zz => nI (X zz))))] := hD
  have hM' := hM
  obtain ⟨⟨hL1, hL⟩, hm, ⟨hC, hV⟩, hF, hK, hX⟩ := hM
  dsimp only at hL1 hL hm hC hV hF hK hX
  have hFb := hF.b hL
  obtain ⟨hf1, hf2, hf3, hf4⟩ := hF
  dsimp only at hf1 hf2 hf3 hf4 hFb
  have hp2 := p2_15 hL
  have hp4 := p4_15 hL
  have hpp := Nat.two_pow_pos L
  have hn5 := hm.1
  have hl : lv_has ls 5 [(0, .ref mo), (1, .int x), (2, .int y)] := hl
  refine lv_aload_n hx hb d_Mo_take_0 rfl (lv_at hl 0 rfl) ?_
  refine lv_iload_n hx hb d_Mo_take_1 rfl (lv_at hl 1 rfl) ?_
  refine lv_iload_n hx hb d_Mo_take_2 rfl (lv_at hl 2 rfl) ?_
  refine vp_callSi (va_Run.run (run_V S v_Mo_49 (c_Mo_isCell la G mo mc_ mv_ mk_ mx_ L n x0 y0 x1 y1 x y hL) ⟨rfl, rfl⟩ ⟨Nat.le_of_ble_eq_true rfl, Nat.le_of_ble_eq_true rfl⟩ (preR_V hP hk (hs.kept (fun a h1 h2 => hS.2.1 a h1 h2)) [0] rfl 0 rfl rfl) (rest := []) rfl hl.1 rfl (Nat.le_of_ble_eq_true rfl) d_Mo_take_3 ⟨Nat.le_of_ble_eq_true rfl, Nat.le_of_ble_eq_true rfl⟩)) (fun r1 hr1 => ?_)
  rcases hr1 with ⟨rfl, a, b, ha, hb', rfl, rfl⟩ | ⟨rfl, q1⟩
  · have hl : lv_has ls 5 [(0, .ref mo), (1, .int (nI a)), (2, .int (nI b))] := hl
    have hcm := (cl_mk ha hb').1
    refine lv_if_ne hx hb d_Mo_take_6 (tgt := 11) (by decide) (fun _ => ?_) (fun h => absurd h (by decide))
    refine lv_aload_n hx hb d_Mo_take_11 rfl (lv_at hl 0 rfl) ?_
    refine lv_iload_n hx hb d_Mo_take_12 rfl (lv_at hl 1 rfl) ?_
    refine lv_aload_n hx hb d_Mo_take_13 rfl (lv_at hl 0 rfl) ?_
    refine vp_callSi (va_Run.run (run_V S v_Mo_26 (c_Mo_side la G mo mc_ mv_ mk_ mx_ L n x0 y0 x1 y1 hL) ⟨rfl, rfl⟩ ⟨Nat.le_of_ble_eq_true rfl, Nat.le_of_ble_eq_true rfl⟩ (preR_V hP hk (hs.kept (fun a h1 h2 => hS.2.1 a h1 h2)) [0] rfl 0 rfl rfl) (rest := [.int (nI a), .ref mo]) rfl hl.1 rfl (Nat.le_of_ble_eq_true rfl) d_Mo_take_14 ⟨Nat.le_of_ble_eq_true rfl, Nat.le_of_ble_eq_true rfl⟩)) (fun r14 hr14 => ?_)
    subst hr14
    refine x_imul hx hb d_Mo_take_17 ?_
    refine lv_iload_n hx hb d_Mo_take_18 rfl (lv_at hl 2 rfl) ?_
    refine x_iadd hx hb d_Mo_take_19 ?_
    refine vp_callSi (va_Run.run (run_V S v_Mo_61 (c_Mo_find la G mo mc_ mv_ mk_ mx_ L n x0 y0 x1 y1 C (a * 2 ^ L + b) hn5 hC (by omega)) ⟨rfl, rfl⟩ ⟨Nat.le_of_ble_eq_true rfl, Nat.le_of_ble_eq_true rfl⟩ (preR_V hP hk (hs.kept (fun a h1 h2 => hS.2.1 a h1 h2)) [0, 1] rfl 0 rfl rfl) (rest := []) rfl hl.1 rfl (Nat.le_of_ble_eq_true rfl) d_Mo_take_20 ⟨Nat.le_of_ble_eq_true rfl, Nat.le_of_ble_eq_true rfl⟩)) (fun r2 hr2 => ?_)
    obtain ⟨q, hfd, rfl⟩ := hr2
    have hq := hfd.1
    refine lv_istore_n hx hb d_Mo_take_23 rfl hl (by decide) rfl (fun ls hl => ?_)
    have hl : lv_has ls 5 [(3, .int (nI q)), (0, .ref mo), (1, .int (nI a)), (2, .int (nI b))] := hl
    refine lv_iload_n hx hb d_Mo_take_24 rfl (lv_at hl 0 rfl) ?_
    refine lv_aload_n hx hb d_Mo_take_25 rfl (lv_at hl 1 rfl) ?_
    refine y_get S hk hP 0 rfl f_Mo_30 rfl d_Mo_take_26 ?_
    refine x_icmp_ne hx hb d_Mo_take_29 (tgt := 34) (by decide) (by omega) (by omega) (fun h29 => ?_) (fun h29 => ?_)
    · refine lv_aload_n hx hb d_Mo_take_34 rfl (lv_at hl 1 rfl) ?_
      refine y_get S hk hP 0 rfl f_Mo_17 rfl d_Mo_take_35 ?_
      refine lv_iload_n hx hb d_Mo_take_38 rfl (lv_at hl 0 rfl) ?_
      refine y_ald hx hb hk hP 2 rfl (by omega) (by decide) d_Mo_take_39 ?_
      refine lv_istore hx hb d_Mo_take_40 hl (by decide) rfl (fun ls hl => ?_)
      have hl : lv_has ls 5 [(4, .int (nI (V q))), (3, .int (nI q)), (0, .ref mo), (1, .int (nI a)), (2, .int (nI b))] := hl
      refine lv_aload_n hx hb d_Mo_take_42 rfl (lv_at hl 2 rfl) ?_
      refine lv_dup hx hb d_Mo_take_43 rfl ?_
      refine y_get S hk hP 0 rfl f_Mo_30 rfl d_Mo_take_44 ?_
      refine lv_iconst (v := nI 1) hx hb d_Mo_take_47 (by decide) ?_
      refine x_isub hx hb d_Mo_take_48 (by omega) ?_
      refine y_put S hk hP hD hS 0 rfl f_Mo_30 T_4 M_4_1 rfl rfl (Nat.le_of_ble_eq_true rfl) d_Mo_take_49 (fun H locs hP hD hS => ?_)
      have hP : va_P G.1 cls [(mo, .inr (4, [.int (nI L), .int (nI (n - 1)), .ref mc_, .ref mv_, .int (nI x0), .int (nI y0), .int (nI x1), .int (nI y1), .ref mk_, .ref mx_])), (mc_, .inl (G.2.1, 500, .inl (fun zz => nI (C zz)))), (mv_, .inl (G.2.1, 500, .inl (fun zz => nI (V zz)))), (mk_, .inl (G.2.1, 4096, .inl (fun zz => nI (K zz)))), (mx_, .inl (G.2.1, 4096, .inl (fun zz => nI (X zz))))] H := hP
      have hD : va_D A [(mo, .inr (4, [.int (nI L), .int (nI (n - 1)), .ref mc_, .ref mv_, .int (nI x0), .int (nI y0), .int (nI x1), .int (nI y1), .ref mk_, .ref mx_])), (mc_, .inl (G.2.1, 500, .inl (fun zz => nI (C zz)))), (mv_, .inl (G.2.1, 500, .inl (fun zz => nI (V zz)))), (mk_, .inl (G.2.1, 4096, .inl (fun zz => nI (K zz)))), (mx_, .inl (G.2.1, 4096, .inl (fun zz => nI (X zz))))] := hD
      refine lv_aload_n hx hb d_Mo_take_52 rfl (lv_at hl 2 rfl) ?_
      refine y_get S hk hP 0 rfl f_Mo_13 rfl d_Mo_take_53 ?_
      refine lv_iload_n hx hb d_Mo_take_56 rfl (lv_at hl 1 rfl) ?_
      refine lv_aload_n hx hb d_Mo_take_57 rfl (lv_at hl 2 rfl) ?_
      refine y_get S hk hP 0 rfl f_Mo_13 rfl d_Mo_take_58 ?_
      refine lv_aload_n hx hb d_Mo_take_61 rfl (lv_at hl 2 rfl) ?_
      refine y_get S hk hP 0 rfl f_Mo_30 rfl d_Mo_take_62 ?_
      refine y_ald hx hb hk hP 1 rfl (by omega) (by decide) d_Mo_take_65 ?_
      refine y_ast hx hb hk hP hD hS 1 rfl (by omega) (by decide) d_Mo_take_66 (fun H locs hP hD hS => ?_)
      have hP : va_P G.1 cls [(mo, .inr (4, [.int (nI L), .int (nI (n - 1)), .ref mc_, .ref mv_, .int (nI x0), .int (nI y0), .int (nI x1), .int (nI y1), .ref mk_, .ref mx_])), (mc_, .inl (G.2.1, 500, .inl (fun zz => nI ((va_up C q (C (n - 1))) zz)))), (mv_, .inl (G.2.1, 500, .inl (fun zz => nI (V zz)))), (mk_, .inl (G.2.1, 4096, .inl (fun zz => nI (K zz)))), (mx_, .inl (G.2.1, 4096, .inl (fun zz => nI (X zz))))] H := hP
      have hD : va_D A [(mo, .inr (4, [.int (nI L), .int (nI (n - 1)), .ref mc_, .ref mv_, .int (nI x0), .int (nI y0), .int (nI x1), .int (nI y1), .ref mk_, .ref mx_])), (mc_, .inl (G.2.1, 500, .inl (fun zz => nI ((va_up C q (C (n - 1))) zz)))), (mv_, .inl (G.2.1, 500, .inl (fun zz => nI (V zz)))), (mk_, .inl (G.2.1, 4096, .inl (fun zz => nI (K zz)))), (mx_, .inl (G.2.1, 4096, .inl (fun zz => nI (X zz))))] := hD
      refine lv_aload_n hx hb d_Mo_take_67 rfl (lv_at hl 2 rfl) ?_
      refine y_get S hk hP 0 rfl f_Mo_17 rfl d_Mo_take_68 ?_
      refine lv_iload_n hx hb d_Mo_take_71 rfl (lv_at hl 1 rfl) ?_
      refine lv_aload_n hx hb d_Mo_take_72 rfl (lv_at hl 2 rfl) ?_
      refine y_get S hk hP 0 rfl f_Mo_17 rfl d_Mo_take_73 ?_
      refine lv_aload_n hx hb d_Mo_take_76 rfl (lv_at hl 2 rfl) ?_
      refine y_get S hk hP 0 rfl f_Mo_30 rfl d_Mo_take_77 ?_
      refine y_ald hx hb hk hP 2 rfl (by omega) (by decide) d_Mo_take_80 ?_
      refine y_ast hx hb hk hP hD hS 2 rfl (by omega) (by decide) d_Mo_take_81 (fun H locs hP hD hS => ?_)
      have hP : va_P G.1 cls [(mo, .inr (4, [.int (nI L), .int (nI (n - 1)), .ref mc_, .ref mv_, .int (nI x0), .int (nI y0), .int (nI x1), .int (nI y1), .ref mk_, .ref mx_])), (mc_, .inl (G.2.1, 500, .inl (fun zz => nI ((va_up C q (C (n - 1))) zz)))), (mv_, .inl (G.2.1, 500, .inl (fun zz => nI ((va_up V q (V (n - 1))) zz)))), (mk_, .inl (G.2.1, 4096, .inl (fun zz => nI (K zz)))), (mx_, .inl (G.2.1, 4096, .inl (fun zz => nI (X zz))))] H := hP
      have hD : va_D A [(mo, .inr (4, [.int (nI L), .int (nI (n - 1)), .ref mc_, .ref mv_, .int (nI x0), .int (nI y0), .int (nI x1), .int (nI y1), .ref mk_, .ref mx_])), (mc_, .inl (G.2.1, 500, .inl (fun zz => nI ((va_up C q (C (n - 1))) zz)))), (mv_, .inl (G.2.1, 500, .inl (fun zz => nI ((va_up V q (V (n - 1))) zz)))), (mk_, .inl (G.2.1, 4096, .inl (fun zz => nI (K zz)))), (mx_, .inl (G.2.1, 4096, .inl (fun zz => nI (X zz))))] := hD
      refine lv_iload hx hb d_Mo_take_82 (lv_at hl 0 rfl) ?_
      exact hret _ _ _ (L, (n - 1, va_up C q (C (n - 1)), va_up V q (V (n - 1))), (x0, y0, x1, y1), (K, X)) _ _ rfl (by obtain ⟨g1, g2⟩ := mtake_ok hm hfd (by omega); exact Or.inl ⟨a, b, ha, hb', rfl, rfl, by rw [hm.wt1 hfd (by omega)], g2, ⟨⟨hL1, hL⟩, g1, ⟨bd_up hC (hC _), bd_up hV (hV _)⟩, ⟨hf1, hf2, hf3, hf4⟩, hK, hX⟩, rfl, rfl⟩) hP hD hS d_Mo_take_84
    · refine lv_iconst (v := nI 0) hx hb d_Mo_take_32 (by decide) ?_
      exact hret _ _ _ (L, (n, C, V), (x0, y0, x1, y1), (K, X)) _ _ rfl (Or.inl ⟨a, b, ha, hb', rfl, rfl, by rw [hfd.wt0 (by omega)], fun f => by rw [hfd.wt0 (by omega), if_pos rfl]; rfl, hM', rfl, rfl⟩) hP hD hS d_Mo_take_33
  · refine lv_if_ne hx hb d_Mo_take_6 (tgt := 11) (by decide) (fun h => absurd rfl h) (fun _ => ?_)
    refine lv_iconst (v := (-1)) hx hb d_Mo_take_9 (by decide) ?_
    exact hret _ _ _ (L, (n, C, V), (x0, y0, x1, y1), (K, X)) _ _ rfl (Or.inr ⟨q1, rfl, rfl⟩) hP hD hS d_Mo_take_10
end
