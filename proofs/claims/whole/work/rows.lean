section
-- ===== PART A: goes FIRST, ahead of the names: the tables' words, and 'selects' of the private methods out of them =====
/-- a private method of a class that the tables say can be made, by its rows of tables_1 -/
def lw_okq (q : MethodName × Nat) : Prop := (q.1.cls ≠ "java/lang/invoke/MethodHandle" ∧ q.1.cls ≠ "java/lang/invoke/VarHandle") ∧ Cond.instantiable q.1.cls q.2 ∈ tables_1 ∧ Cond.privateMethod q.1 ∈ tables_1 ∧ Cond.instanceMethod q.1 ∈ tables_1
theorem lw_p0 : lw_okq (⟨"CurveIndex$Row", "clear", "()V"⟩, 4) := ⟨⟨by decide +kernel, by decide +kernel⟩, List.mem_of_getElem? (i := 16) (by decide +kernel), List.mem_of_getElem? (i := 75) (by decide +kernel), List.mem_of_getElem? (i := 76) (by decide +kernel)⟩
theorem lw_p1 : lw_okq (⟨"CurveIndex", "isCell", "(II)Z"⟩, 4) := ⟨⟨by decide +kernel, by decide +kernel⟩, List.mem_of_getElem? (i := 8) (by decide +kernel), List.mem_of_getElem? (i := 86) (by decide +kernel), List.mem_of_getElem? (i := 87) (by decide +kernel)⟩
theorem lw_p2 : lw_okq (⟨"CurveIndex", "keyOf", "(III)I"⟩, 4) := ⟨⟨by decide +kernel, by decide +kernel⟩, List.mem_of_getElem? (i := 8) (by decide +kernel), List.mem_of_getElem? (i := 90) (by decide +kernel), List.mem_of_getElem? (i := 91) (by decide +kernel)⟩
theorem lw_p3 : lw_okq (⟨"CurveIndex", "isKey", "(I)Z"⟩, 4) := ⟨⟨by decide +kernel, by decide +kernel⟩, List.mem_of_getElem? (i := 8) (by decide +kernel), List.mem_of_getElem? (i := 105) (by decide +kernel), List.mem_of_getElem? (i := 106) (by decide +kernel)⟩
theorem lw_p4 : lw_okq (⟨"CurveIndex", "cellOf", "(II)I"⟩, 4) := ⟨⟨by decide +kernel, by decide +kernel⟩, List.mem_of_getElem? (i := 8) (by decide +kernel), List.mem_of_getElem? (i := 109) (by decide +kernel), List.mem_of_getElem? (i := 110) (by decide +kernel)⟩
theorem lw_p5 : lw_okq (⟨"CurveIndex", "cellNumber", "(II)I"⟩, 4) := ⟨⟨by decide +kernel, by decide +kernel⟩, List.mem_of_getElem? (i := 8) (by decide +kernel), List.mem_of_getElem? (i := 115) (by decide +kernel), List.mem_of_getElem? (i := 116) (by decide +kernel)⟩
theorem lw_p6 : lw_okq (⟨"CurveIndex$Row", "weightOf", "(I)I"⟩, 4) := ⟨⟨by decide +kernel, by decide +kernel⟩, List.mem_of_getElem? (i := 16) (by decide +kernel), List.mem_of_getElem? (i := 123) (by decide +kernel), List.mem_of_getElem? (i := 124) (by decide +kernel)⟩
theorem lw_p7 : lw_okq (⟨"CurveIndex$Row", "placeOf", "(I)I"⟩, 4) := ⟨⟨by decide +kernel, by decide +kernel⟩, List.mem_of_getElem? (i := 16) (by decide +kernel), List.mem_of_getElem? (i := 127) (by decide +kernel), List.mem_of_getElem? (i := 128) (by decide +kernel)⟩
theorem lw_p8 : lw_okq (⟨"CurveIndex$Row", "isKeyAt", "(II)Z"⟩, 4) := ⟨⟨by decide +kernel, by decide +kernel⟩, List.mem_of_getElem? (i := 16) (by decide +kernel), List.mem_of_getElem? (i := 131) (by decide +kernel), List.mem_of_getElem? (i := 132) (by decide +kernel)⟩
theorem lw_p9 : lw_okq (⟨"CurveIndex$Row", "isFull", "()Z"⟩, 4) := ⟨⟨by decide +kernel, by decide +kernel⟩, List.mem_of_getElem? (i := 16) (by decide +kernel), List.mem_of_getElem? (i := 135) (by decide +kernel), List.mem_of_getElem? (i := 136) (by decide +kernel)⟩
theorem lw_p10 : lw_okq (⟨"CurveIndex$Row", "keep", "(III)V"⟩, 4) := ⟨⟨by decide +kernel, by decide +kernel⟩, List.mem_of_getElem? (i := 16) (by decide +kernel), List.mem_of_getElem? (i := 139) (by decide +kernel), List.mem_of_getElem? (i := 140) (by decide +kernel)⟩
theorem lw_p11 : lw_okq (⟨"CurveIndex$Row", "moveTail", "(II)V"⟩, 4) := ⟨⟨by decide +kernel, by decide +kernel⟩, List.mem_of_getElem? (i := 16) (by decide +kernel), List.mem_of_getElem? (i := 144) (by decide +kernel), List.mem_of_getElem? (i := 145) (by decide +kernel)⟩
theorem lw_p12 : lw_okq (⟨"CurveIndex$Row", "drop", "(I)V"⟩, 4) := ⟨⟨by decide +kernel, by decide +kernel⟩, List.mem_of_getElem? (i := 16) (by decide +kernel), List.mem_of_getElem? (i := 155) (by decide +kernel), List.mem_of_getElem? (i := 156) (by decide +kernel)⟩
theorem lw_p13 : lw_okq (⟨"CurveIndex", "isInFrame", "(I)Z"⟩, 4) := ⟨⟨by decide +kernel, by decide +kernel⟩, List.mem_of_getElem? (i := 8) (by decide +kernel), List.mem_of_getElem? (i := 175) (by decide +kernel), List.mem_of_getElem? (i := 176) (by decide +kernel)⟩
theorem lw_p14 : lw_okq (⟨"CurveIndex", "xOf", "(I)I"⟩, 4) := ⟨⟨by decide +kernel, by decide +kernel⟩, List.mem_of_getElem? (i := 8) (by decide +kernel), List.mem_of_getElem? (i := 179) (by decide +kernel), List.mem_of_getElem? (i := 180) (by decide +kernel)⟩
theorem lw_p15 : lw_okq (⟨"CurveIndex", "yOf", "(I)I"⟩, 4) := ⟨⟨by decide +kernel, by decide +kernel⟩, List.mem_of_getElem? (i := 8) (by decide +kernel), List.mem_of_getElem? (i := 183) (by decide +kernel), List.mem_of_getElem? (i := 184) (by decide +kernel)⟩
def lw_privs_1 : List (MethodName × Nat) := [(⟨"CurveIndex$Row", "clear", "()V"⟩, 4), (⟨"CurveIndex", "isCell", "(II)Z"⟩, 4), (⟨"CurveIndex", "keyOf", "(III)I"⟩, 4), (⟨"CurveIndex", "isKey", "(I)Z"⟩, 4), (⟨"CurveIndex", "cellOf", "(II)I"⟩, 4), (⟨"CurveIndex", "cellNumber", "(II)I"⟩, 4), (⟨"CurveIndex$Row", "weightOf", "(I)I"⟩, 4), (⟨"CurveIndex$Row", "placeOf", "(I)I"⟩, 4), (⟨"CurveIndex$Row", "isKeyAt", "(II)Z"⟩, 4), (⟨"CurveIndex$Row", "isFull", "()Z"⟩, 4), (⟨"CurveIndex$Row", "keep", "(III)V"⟩, 4), (⟨"CurveIndex$Row", "moveTail", "(II)V"⟩, 4), (⟨"CurveIndex$Row", "drop", "(I)V"⟩, 4), (⟨"CurveIndex", "isInFrame", "(I)Z"⟩, 4), (⟨"CurveIndex", "xOf", "(I)I"⟩, 4), (⟨"CurveIndex", "yOf", "(I)I"⟩, 4)]
theorem lw_r1 : ∀ q ∈ lw_privs_1, lw_okq q := List.forall_mem_cons.mpr ⟨lw_p0, List.forall_mem_cons.mpr ⟨lw_p1, List.forall_mem_cons.mpr ⟨lw_p2, List.forall_mem_cons.mpr ⟨lw_p3, List.forall_mem_cons.mpr ⟨lw_p4, List.forall_mem_cons.mpr ⟨lw_p5, List.forall_mem_cons.mpr ⟨lw_p6, List.forall_mem_cons.mpr ⟨lw_p7, List.forall_mem_cons.mpr ⟨lw_p8, List.forall_mem_cons.mpr ⟨lw_p9, List.forall_mem_cons.mpr ⟨lw_p10, List.forall_mem_cons.mpr ⟨lw_p11, List.forall_mem_cons.mpr ⟨lw_p12, List.forall_mem_cons.mpr ⟨lw_p13, List.forall_mem_cons.mpr ⟨lw_p14, List.forall_mem_cons.mpr ⟨lw_p15, fun _ h => absurd h List.not_mem_nil⟩⟩⟩⟩⟩⟩⟩⟩⟩⟩⟩⟩⟩⟩⟩⟩
theorem lw_p16 : lw_okq (⟨"CurveIndex$Frame", "holds", "(II)Z"⟩, 4) := ⟨⟨by decide +kernel, by decide +kernel⟩, List.mem_of_getElem? (i := 39) (by decide +kernel), List.mem_of_getElem? (i := 187) (by decide +kernel), List.mem_of_getElem? (i := 188) (by decide +kernel)⟩
theorem lw_p17 : lw_okq (⟨"CurveIndex", "hasRuns", "(I)Z"⟩, 4) := ⟨⟨by decide +kernel, by decide +kernel⟩, List.mem_of_getElem? (i := 8) (by decide +kernel), List.mem_of_getElem? (i := 203) (by decide +kernel), List.mem_of_getElem? (i := 204) (by decide +kernel)⟩
theorem lw_p18 : lw_okq (⟨"CurveIndex$Frame", "cellCount", "()I"⟩, 4) := ⟨⟨by decide +kernel, by decide +kernel⟩, List.mem_of_getElem? (i := 39) (by decide +kernel), List.mem_of_getElem? (i := 207) (by decide +kernel), List.mem_of_getElem? (i := 208) (by decide +kernel)⟩
theorem lw_p19 : lw_okq (⟨"CurveIndex", "walkRuns", "(II)LCurveIndex$RunWalk;"⟩, 4) := ⟨⟨by decide +kernel, by decide +kernel⟩, List.mem_of_getElem? (i := 8) (by decide +kernel), List.mem_of_getElem? (i := 211) (by decide +kernel), List.mem_of_getElem? (i := 212) (by decide +kernel)⟩
theorem lw_p20 : lw_okq (⟨"CurveIndex$Frame", "missesSquare", "(III)Z"⟩, 4) := ⟨⟨by decide +kernel, by decide +kernel⟩, List.mem_of_getElem? (i := 39) (by decide +kernel), List.mem_of_getElem? (i := 246) (by decide +kernel), List.mem_of_getElem? (i := 247) (by decide +kernel)⟩
theorem lw_p21 : lw_okq (⟨"CurveIndex$Frame", "holdsSquare", "(III)Z"⟩, 4) := ⟨⟨by decide +kernel, by decide +kernel⟩, List.mem_of_getElem? (i := 39) (by decide +kernel), List.mem_of_getElem? (i := 250) (by decide +kernel), List.mem_of_getElem? (i := 251) (by decide +kernel)⟩
theorem lw_p22 : lw_okq (⟨"CurveIndex$RunWalk", "join", "(II)V"⟩, 6) := ⟨⟨by decide +kernel, by decide +kernel⟩, List.mem_of_getElem? (i := 215) (by decide +kernel), List.mem_of_getElem? (i := 255) (by decide +kernel), List.mem_of_getElem? (i := 256) (by decide +kernel)⟩
theorem lw_p23 : lw_okq (⟨"CurveIndex", "squaredDistance", "(III)J"⟩, 4) := ⟨⟨by decide +kernel, by decide +kernel⟩, List.mem_of_getElem? (i := 8) (by decide +kernel), List.mem_of_getElem? (i := 270) (by decide +kernel), List.mem_of_getElem? (i := 271) (by decide +kernel)⟩
theorem lw_p24 : lw_okq (⟨"CurveIndexModel", "isCell", "(II)Z"⟩, 10) := ⟨⟨by decide +kernel, by decide +kernel⟩, List.mem_of_getElem? (i := 274) (by decide +kernel), List.mem_of_getElem? (i := 322) (by decide +kernel), List.mem_of_getElem? (i := 323) (by decide +kernel)⟩
theorem lw_p25 : lw_okq (⟨"CurveIndexModel", "side", "()I"⟩, 10) := ⟨⟨by decide +kernel, by decide +kernel⟩, List.mem_of_getElem? (i := 274) (by decide +kernel), List.mem_of_getElem? (i := 326) (by decide +kernel), List.mem_of_getElem? (i := 327) (by decide +kernel)⟩
theorem lw_p26 : lw_okq (⟨"CurveIndexModel", "keyOf", "(III)I"⟩, 10) := ⟨⟨by decide +kernel, by decide +kernel⟩, List.mem_of_getElem? (i := 274) (by decide +kernel), List.mem_of_getElem? (i := 330) (by decide +kernel), List.mem_of_getElem? (i := 331) (by decide +kernel)⟩
theorem lw_p27 : lw_okq (⟨"CurveIndexModel", "cellOf", "(II)I"⟩, 10) := ⟨⟨by decide +kernel, by decide +kernel⟩, List.mem_of_getElem? (i := 274) (by decide +kernel), List.mem_of_getElem? (i := 338) (by decide +kernel), List.mem_of_getElem? (i := 339) (by decide +kernel)⟩
theorem lw_p28 : lw_okq (⟨"CurveIndexModel", "find", "(I)I"⟩, 10) := ⟨⟨by decide +kernel, by decide +kernel⟩, List.mem_of_getElem? (i := 274) (by decide +kernel), List.mem_of_getElem? (i := 346) (by decide +kernel), List.mem_of_getElem? (i := 347) (by decide +kernel)⟩
theorem lw_p29 : lw_okq (⟨"CurveIndexModel", "isInside", "(I)Z"⟩, 10) := ⟨⟨by decide +kernel, by decide +kernel⟩, List.mem_of_getElem? (i := 274) (by decide +kernel), List.mem_of_getElem? (i := 370) (by decide +kernel), List.mem_of_getElem? (i := 371) (by decide +kernel)⟩
theorem lw_p30 : lw_okq (⟨"CurveIndexModel", "keyAt", "(II)I"⟩, 10) := ⟨⟨by decide +kernel, by decide +kernel⟩, List.mem_of_getElem? (i := 274) (by decide +kernel), List.mem_of_getElem? (i := 382) (by decide +kernel), List.mem_of_getElem? (i := 383) (by decide +kernel)⟩
theorem lw_p31 : lw_okq (⟨"CurveIndexModel", "sort", "(I)I"⟩, 10) := ⟨⟨by decide +kernel, by decide +kernel⟩, List.mem_of_getElem? (i := 274) (by decide +kernel), List.mem_of_getElem? (i := 390) (by decide +kernel), List.mem_of_getElem? (i := 391) (by decide +kernel)⟩
def lw_privs_2 : List (MethodName × Nat) := [(⟨"CurveIndex$Frame", "holds", "(II)Z"⟩, 4), (⟨"CurveIndex", "hasRuns", "(I)Z"⟩, 4), (⟨"CurveIndex$Frame", "cellCount", "()I"⟩, 4), (⟨"CurveIndex", "walkRuns", "(II)LCurveIndex$RunWalk;"⟩, 4), (⟨"CurveIndex$Frame", "missesSquare", "(III)Z"⟩, 4), (⟨"CurveIndex$Frame", "holdsSquare", "(III)Z"⟩, 4), (⟨"CurveIndex$RunWalk", "join", "(II)V"⟩, 6), (⟨"CurveIndex", "squaredDistance", "(III)J"⟩, 4), (⟨"CurveIndexModel", "isCell", "(II)Z"⟩, 10), (⟨"CurveIndexModel", "side", "()I"⟩, 10), (⟨"CurveIndexModel", "keyOf", "(III)I"⟩, 10), (⟨"CurveIndexModel", "cellOf", "(II)I"⟩, 10), (⟨"CurveIndexModel", "find", "(I)I"⟩, 10), (⟨"CurveIndexModel", "isInside", "(I)Z"⟩, 10), (⟨"CurveIndexModel", "keyAt", "(II)I"⟩, 10), (⟨"CurveIndexModel", "sort", "(I)I"⟩, 10)]
theorem lw_r2 : ∀ q ∈ lw_privs_2, lw_okq q := List.forall_mem_cons.mpr ⟨lw_p16, List.forall_mem_cons.mpr ⟨lw_p17, List.forall_mem_cons.mpr ⟨lw_p18, List.forall_mem_cons.mpr ⟨lw_p19, List.forall_mem_cons.mpr ⟨lw_p20, List.forall_mem_cons.mpr ⟨lw_p21, List.forall_mem_cons.mpr ⟨lw_p22, List.forall_mem_cons.mpr ⟨lw_p23, List.forall_mem_cons.mpr ⟨lw_p24, List.forall_mem_cons.mpr ⟨lw_p25, List.forall_mem_cons.mpr ⟨lw_p26, List.forall_mem_cons.mpr ⟨lw_p27, List.forall_mem_cons.mpr ⟨lw_p28, List.forall_mem_cons.mpr ⟨lw_p29, List.forall_mem_cons.mpr ⟨lw_p30, List.forall_mem_cons.mpr ⟨lw_p31, fun _ h => absurd h List.not_mem_nil⟩⟩⟩⟩⟩⟩⟩⟩⟩⟩⟩⟩⟩⟩⟩⟩
def lw_privs : List (MethodName × Nat) := lw_privs_1 ++ (lw_privs_2)
def lw_tbl : List Cond := k2_sels lw_privs ++ tables_1
theorem lw_privs_ok : ∀ q ∈ lw_privs, lw_okq q := by
  show ∀ q ∈ lw_privs_1 ++ (lw_privs_2), lw_okq q
  exact List.forall_mem_append.mpr ⟨lw_r1, lw_r2⟩
end
section
/-! sums over the first n numbers; two rows that hold the same points -/
def sg (n : Nat) (f : Nat → Nat) : Nat := match n with
  | 0 => 0
  | n + 1 => sg n f + f n
theorem sg_0 (f : Nat → Nat) : sg 0 f = 0 := rfl
theorem sg_s (n : Nat) (f : Nat → Nat) : sg (n + 1) f = sg n f + f n := rfl
theorem sg_congr {n : Nat} {f g : Nat → Nat} (h : ∀ i, i < n → f i = g i) : sg n f = sg n g := by
  induction n with
  | zero => rfl
  | succ n ih => rw [sg_s, sg_s, ih (fun i hi => h i (by omega)), h n (by omega)]
theorem sg_zero {n : Nat} {f : Nat → Nat} (h : ∀ i, i < n → f i = 0) : sg n f = 0 := by
  induction n with
  | zero => rfl
  | succ n ih => rw [sg_s, ih (fun i hi => h i (by omega)), h n (by omega)]
theorem sg_one (n : Nat) : sg n (fun _ => 1) = n := by
  induction n with
  | zero => rfl
  | succ n ih => rw [sg_s, ih]
theorem sg_add (n : Nat) (f g : Nat → Nat) : sg n (fun i => f i + g i) = sg n f + sg n g := by
  induction n with
  | zero => rfl
  | succ n ih => rw [sg_s, sg_s, sg_s, ih]; omega
theorem sg_le {n : Nat} {f g : Nat → Nat} (h : ∀ i, i < n → f i ≤ g i) : sg n f ≤ sg n g := by
  induction n with
  | zero => exact Nat.le_refl _
  | succ n ih =>
    have h1 := ih (fun i hi => h i (by omega))
    have h2 := h n (by omega)
    rw [sg_s, sg_s]
    omega
theorem sg_get {n : Nat} {f : Nat → Nat} {i : Nat} (hi : i < n) : f i ≤ sg n f := by
  induction n with
  | zero => omega
  | succ n ih =>
    rw [sg_s]
    by_cases h : i = n
    · subst h; omega
    · have := ih (by omega); omega
theorem sg_lt {n : Nat} {f g : Nat → Nat} (h : ∀ i, i < n → f i ≤ g i) {j : Nat} (hj : j < n) (hlt : f j < g j) : sg n f < sg n g := by
  induction n with
  | zero => omega
  | succ n ih =>
    rw [sg_s, sg_s]
    have h2 := h n (by omega)
    by_cases e : j = n
    · subst e
      have := sg_le (n := j) (f := f) (g := g) (fun i hi => h i (by omega))
      omega
    · have := ih (fun i hi => h i (by omega)) (by omega)
      omega
theorem sg_ex {n : Nat} {f : Nat → Nat} (h : sg n f ≠ 0) : ∃ i, i < n ∧ f i ≠ 0 := by
  induction n with
  | zero => exact absurd rfl h
  | succ n ih =>
    rw [sg_s] at h
    by_cases e : f n = 0
    · obtain ⟨i, h1, h2⟩ := ih (by omega)
      exact ⟨i, by omega, h2⟩
    · exact ⟨n, by omega, e⟩
/-- only one of them counts -/
theorem sg_only {n : Nat} {f : Nat → Nat} {i : Nat} (hi : i < n) (h : ∀ j, j < n → j ≠ i → f j = 0) : sg n f = f i := by
  induction n with
  | zero => omega
  | succ n ih =>
    rw [sg_s]
    by_cases e : i = n
    · subst e
      rw [sg_zero (fun j hj => h j (by omega) (by omega))]
      omega
    · rw [ih (by omega) (fun j hj hne => h j (by omega) hne), h n (by omega) (by omega)]
      omega
theorem sg_split (a b : Nat) (f : Nat → Nat) : sg (a + b) f = sg a f + sg b (fun i => f (a + i)) := by
  induction b with
  | zero => rfl
  | succ b ih => rw [← Nat.add_assoc, sg_s, sg_s, ih]; omega
/-- one is put in at a place -/
theorem sg_ins {n p : Nat} {f g : Nat → Nat} (hp : p ≤ n) (h1 : ∀ i, i < p → g i = f i) (h2 : ∀ i, p ≤ i → i < n → g (i + 1) = f i) : sg (n + 1) g = sg n f + g p := by
  have e : n + 1 = p + (1 + (n - p)) := by omega
  have e2 : n = p + (n - p) := by omega
  rw [e, sg_split, sg_split]
  conv => rhs; rw [e2, sg_split]
  have a1 : sg p g = sg p f := sg_congr h1
  have a2 : sg (n - p) (fun i => g (p + (1 + i))) = sg (n - p) (fun i => f (p + i)) := sg_congr (fun i hi => by
    have := h2 (p + i) (by omega) (by omega)
    rw [← this]
    congr 1
    omega)
  have a3 : sg 1 (fun i => g (p + i)) = g p := by
    show 0 + g (p + 0) = g p
    simp
  rw [a1, a2, a3]
  omega
/-- one changes -/
theorem sg_put {n p : Nat} {f g : Nat → Nat} (hp : p < n) (h : ∀ i, i < n → i ≠ p → g i = f i) : sg n g + f p = sg n f + g p := by
  induction n with
  | zero => omega
  | succ n ih =>
    rw [sg_s, sg_s]
    by_cases e : p = n
    · subst e
      rw [sg_congr (f := g) (g := f) (fun i hi => h i (by omega) (by omega))]
      omega
    · have := ih (by omega) (fun i hi hne => h i (by omega) hne)
      have := h n (by omega) (by omega)
      omega
theorem sg_if_split (n : Nat) (f : Nat → Nat) (P : Nat → Prop) [DecidablePred P] : sg n f = sg n (fun i => if P i then f i else 0) + sg n (fun i => if P i then 0 else f i) := by
  rw [← sg_add]
  refine sg_congr (fun i _ => ?_)
  by_cases h : P i <;> simp [h]
/-- two rows of points, cells and weights, hold the same: every sum over one is that over the other -/
def same (n : Nat) (C V : Nat → Nat) (n' : Nat) (C' V' : Nat → Nat) : Prop := ∀ f : Nat → Nat → Nat, sg n (fun i => f (C i) (V i)) = sg n' (fun i => f (C' i) (V' i))
theorem same.rf {n : Nat} {C V : Nat → Nat} : same n C V n C V := fun _ => rfl
theorem same.sy {n : Nat} {C V : Nat → Nat} {n' : Nat} {C' V' : Nat → Nat} (h : same n C V n' C' V') : same n' C' V' n C V := fun f => (h f).symm
theorem same.tr {n : Nat} {C V : Nat → Nat} {n' : Nat} {C' V' : Nat → Nat} {n2 : Nat} {C2 V2 : Nat → Nat} (h : same n C V n' C' V') (h2 : same n' C' V' n2 C2 V2) : same n C V n2 C2 V2 := fun f => (h f).trans (h2 f)
theorem same.many {n : Nat} {C V : Nat → Nat} {n' : Nat} {C' V' : Nat → Nat} (h : same n C V n' C' V') : n = n' := by
  have := h (fun _ _ => 1)
  rwa [sg_one, sg_one] at this
/-- a property of all points goes over -/
theorem same.all {n : Nat} {C V : Nat → Nat} {n' : Nat} {C' V' : Nat → Nat} (h : same n C V n' C' V') {P : Nat → Nat → Prop} (hP : ∀ i, i < n → P (C i) (V i)) : ∀ i, i < n' → P (C' i) (V' i) := by
  intro i hi
  apply Classical.byContradiction
  intro hn
  have hd : ∀ a b, Decidable (P a b) := fun a b => Classical.propDecidable _
  have e := h (fun a b => if P a b then 0 else 1)
  rw [sg_zero (fun j hj => by simp [hP j hj])] at e
  have := sg_get (f := fun j => if P (C' j) (V' j) then 0 else 1) hi
  rw [← e] at this
  simp [hn] at this
theorem same.ex {n : Nat} {C V : Nat → Nat} {n' : Nat} {C' V' : Nat → Nat} (h : same n C V n' C' V') {i : Nat} (hi : i < n) : ∃ j, j < n' ∧ C' j = C i ∧ V' j = V i := by
  apply Classical.byContradiction
  intro hn
  refine absurd rfl (same.all h.sy (P := fun a b => ¬ (a = C i ∧ b = V i)) (fun j hj q => hn ⟨j, hj, q⟩) i hi ∘ fun (_ : (0:Nat) = 0) => ⟨rfl, rfl⟩)
/-- the weight at a cell; 0 where there is none -/
def wt (n : Nat) (C V : Nat → Nat) (c : Nat) : Nat := sg n (fun i => if C i = c then V i else 0)
def inj (n : Nat) (C : Nat → Nat) : Prop := ∀ i j, i < n → j < n → C i = C j → i = j
theorem same.wt {n : Nat} {C V : Nat → Nat} {n' : Nat} {C' V' : Nat → Nat} (h : same n C V n' C' V') (c : Nat) : wt n C V c = wt n' C' V' c := h (fun a b => if a = c then b else 0)
theorem wt_at {n : Nat} {C V : Nat → Nat} {c i : Nat} (hj : inj n C) (hi : i < n) (hc : C i = c) : wt n C V c = V i := by
  have := sg_only (f := fun j => if C j = c then V j else 0) hi (fun j h1 h2 => by
    rw [if_neg]
    intro q
    exact h2 (hj j i h1 hi (q.trans hc.symm)))
  rw [if_pos hc] at this
  exact this
theorem wt_none {n : Nat} {C V : Nat → Nat} {c : Nat} (h : ∀ i, i < n → C i ≠ c) : wt n C V c = 0 := sg_zero (fun i hi => by rw [if_neg (h i hi)])
theorem up_ne {f : Nat → Nat} {k j v : Nat} (h : j ≠ k) : va_up f k v j = f j := va_up_ne f v h
end
section
/-! the two curves, as numbers -/
def tSQ (i : Nat) : Nat := [0, 1, 3, 2, 0, 3, 1, 2, 2, 3, 1, 0, 2, 1, 3, 0, 0, 2, 1, 3].getD i 0
def tQS (i : Nat) : Nat := [0, 1, 3, 2, 0, 2, 3, 1, 3, 2, 0, 1, 3, 1, 0, 2, 0, 2, 1, 3].getD i 0
def tSS (i : Nat) : Nat := [1, 0, 0, 3, 0, 1, 1, 2, 3, 2, 2, 1, 2, 3, 3, 0, 4, 4, 4, 4].getD i 0
theorem tSQ_lt : ∀ i, i < 20 → tSQ i < 4 := by decide
theorem tQS_lt : ∀ i, i < 20 → tQS i < 4 := by decide
theorem tSS_lt : ∀ i, i < 20 → tSS i < 5 := by decide
theorem tSS_lt4 : ∀ i, i < 16 → tSS i < 4 := by decide
/-- the turn's key on a side of 2^l -/
def hk (l a b : Nat) : Nat := match l with
  | 0 => 0
  | l + 1 => if a < 2 ^ l then (if b < 2 ^ l then hk l b a else 2 ^ l * 2 ^ l + hk l a (b - 2 ^ l))
    else if 2 ^ l ≤ b then 2 * (2 ^ l * 2 ^ l) + hk l (a - 2 ^ l) (b - 2 ^ l) else 3 * (2 ^ l * 2 ^ l) + hk l (2 ^ l - 1 - b) (2 * 2 ^ l - 1 - a)
/-- the weave's -/
def wk (l x y : Nat) : Nat := match l with
  | 0 => 0
  | l + 1 => (x / 2 ^ l % 2 + 2 * (y / 2 ^ l % 2)) * (2 ^ l * 2 ^ l) + wk l x y
theorem hk_00 {l a b : Nat} (h1 : a < 2 ^ l) (h2 : b < 2 ^ l) : hk (l + 1) a b = hk l b a := by
  show (if a < 2 ^ l then _ else _) = _
  rw [if_pos h1, if_pos h2]
theorem hk_01 {l a b : Nat} (h1 : a < 2 ^ l) (h2 : 2 ^ l ≤ b) : hk (l + 1) a b = 2 ^ l * 2 ^ l + hk l a (b - 2 ^ l) := by
  show (if a < 2 ^ l then _ else _) = _
  rw [if_pos h1, if_neg (by omega)]
theorem hk_11 {l a b : Nat} (h1 : 2 ^ l ≤ a) (h2 : 2 ^ l ≤ b) : hk (l + 1) a b = 2 * (2 ^ l * 2 ^ l) + hk l (a - 2 ^ l) (b - 2 ^ l) := by
  show (if a < 2 ^ l then _ else _) = _
  rw [if_neg (by omega), if_pos h2]
theorem hk_10 {l a b : Nat} (h1 : 2 ^ l ≤ a) (h2 : b < 2 ^ l) : hk (l + 1) a b = 3 * (2 ^ l * 2 ^ l) + hk l (2 ^ l - 1 - b) (2 * 2 ^ l - 1 - a) := by
  show (if a < 2 ^ l then _ else _) = _
  rw [if_neg (by omega), if_neg (by omega)]
theorem p4_s (l : Nat) : 2 ^ (l + 1) * 2 ^ (l + 1) = 4 * (2 ^ l * 2 ^ l) := by
  rw [Nat.pow_succ]
  generalize 2 ^ l = s
  rw [Nat.mul_assoc, Nat.mul_comm 2 (s * 2), Nat.mul_assoc s 2 2, ← Nat.mul_assoc s s]
  omega
theorem p4_pos (l : Nat) : 0 < 2 ^ l * 2 ^ l := Nat.mul_pos (Nat.two_pow_pos l) (Nat.two_pow_pos l)
theorem p4_eq (l : Nat) : 4 ^ l = 2 ^ l * 2 ^ l := by
  rw [show (4 : Nat) = 2 * 2 from rfl, Nat.mul_pow]
theorem p2_s (l : Nat) : 2 ^ (l + 1) = 2 * 2 ^ l := by rw [Nat.pow_succ, Nat.mul_comm]
theorem hk_lt (l : Nat) : ∀ a b, a < 2 ^ l → b < 2 ^ l → hk l a b < 2 ^ l * 2 ^ l := by
  induction l with
  | zero => intro a b _ _; show 0 < _; exact p4_pos 0
  | succ l ih =>
    intro a b ha hb
    rw [p2_s] at ha hb
    rw [p4_s]
    have h0 := p4_pos l
    rcases Nat.lt_or_ge a (2 ^ l) with h1 | h1 <;> rcases Nat.lt_or_ge b (2 ^ l) with h2 | h2
    · rw [hk_00 h1 h2]
      have := ih b a h2 h1
      omega
    · rw [hk_01 h1 h2]
      have := ih a (b - 2 ^ l) h1 (by omega)
      omega
    · rw [hk_10 h1 h2]
      have := ih (2 ^ l - 1 - b) (2 * 2 ^ l - 1 - a) (by omega) (by omega)
      omega
    · rw [hk_11 h1 h2]
      have := ih (a - 2 ^ l) (b - 2 ^ l) (by omega) (by omega)
      omega
theorem wk_lt (l : Nat) : ∀ x y, wk l x y < 2 ^ l * 2 ^ l := by
  induction l with
  | zero => intro a b; exact p4_pos 0
  | succ l ih =>
    intro x y
    rw [p4_s]
    show (x / 2 ^ l % 2 + 2 * (y / 2 ^ l % 2)) * (2 ^ l * 2 ^ l) + wk l x y < _
    have h1 := ih x y
    have h2 : x / 2 ^ l % 2 < 2 := Nat.mod_lt _ (by omega)
    have h3 : y / 2 ^ l % 2 < 2 := Nat.mod_lt _ (by omega)
    have h4 : (x / 2 ^ l % 2 + 2 * (y / 2 ^ l % 2)) * (2 ^ l * 2 ^ l) ≤ 3 * (2 ^ l * 2 ^ l) := Nat.mul_le_mul_right _ (by omega)
    omega
/-- how the turn lies in a square: 1 exchanges, 2 counts backwards -/
def tx (st s x y : Nat) : Nat := match st with
  | 0 => x
  | 1 => y
  | 2 => s - 1 - x
  | _ => s - 1 - y
def ty (st s x y : Nat) : Nat := match st with
  | 0 => y
  | 1 => x
  | 2 => s - 1 - y
  | _ => s - 1 - x
theorem hk_step (l : Nat) {st xb yb xr yr : Nat} (hst : st < 4) (hxb : xb < 2) (hyb : yb < 2) (hx : xr < 2 ^ l) (hy : yr < 2 ^ l) :
    hk (l + 1) (tx st (2 * 2 ^ l) (xr + 2 ^ l * xb) (yr + 2 ^ l * yb)) (ty st (2 * 2 ^ l) (xr + 2 ^ l * xb) (yr + 2 ^ l * yb)) =
      tSQ (4 * st + (2 * xb + yb)) * (2 ^ l * 2 ^ l) + hk l (tx (tSS (4 * st + tSQ (4 * st + (2 * xb + yb)))) (2 ^ l) xr yr) (ty (tSS (4 * st + tSQ (4 * st + (2 * xb + yb)))) (2 ^ l) xr yr) := by
  have e1 : st = 0 ∨ st = 1 ∨ st = 2 ∨ st = 3 := by omega
  have e2 : xb = 0 ∨ xb = 1 := by omega
  have e3 : yb = 0 ∨ yb = 1 := by omega
  rcases e1 with rfl | rfl | rfl | rfl <;> rcases e2 with rfl | rfl <;> rcases e3 with rfl | rfl <;>
    simp only [tx, ty, tSQ, tSS, List.getD_cons_zero, List.getD_cons_succ, Nat.mul_zero, Nat.mul_one, Nat.zero_add, Nat.add_zero, Nat.reduceAdd, Nat.reduceMul, Nat.zero_mul, Nat.one_mul] <;>
    first
    | (rw [hk_00 (by omega) (by omega)]; done)
    | (rw [hk_01 (by omega) (by omega)]; congr 2 <;> omega)
    | (rw [hk_11 (by omega) (by omega)]; congr 2 <;> omega)
    | (rw [hk_10 (by omega) (by omega)]; congr 2 <;> omega)
    | (rw [hk_00 (by omega) (by omega)]; congr 1 <;> omega)
/-- the class's walk: from the top down -/
def ck (l st k x y : Nat) : Nat := match l with
  | 0 => k
  | l + 1 => ck l (tSS (4 * st + tSQ (4 * st + (2 * (x / 2 ^ l % 2) + y / 2 ^ l % 2)))) (4 * k + tSQ (4 * st + (2 * (x / 2 ^ l % 2) + y / 2 ^ l % 2))) x y
theorem md_s (x l : Nat) : x % 2 ^ (l + 1) = x % 2 ^ l + 2 ^ l * (x / 2 ^ l % 2) := by
  rw [Nat.pow_succ, Nat.mod_mul]
theorem ck_turn (l : Nat) : ∀ st k x y, st < 4 → ck l st k x y = k * (2 ^ l * 2 ^ l) + hk l (tx st (2 ^ l) (x % 2 ^ l) (y % 2 ^ l)) (ty st (2 ^ l) (x % 2 ^ l) (y % 2 ^ l)) := by
  induction l with
  | zero => intro st k x y _; show k = k * (1 * 1) + 0; omega
  | succ l ih =>
    intro st k x y hst
    have h2 : x / 2 ^ l % 2 < 2 := Nat.mod_lt _ (by omega)
    have h3 : y / 2 ^ l % 2 < 2 := Nat.mod_lt _ (by omega)
    have hq := tSQ_lt (4 * st + (2 * (x / 2 ^ l % 2) + y / 2 ^ l % 2)) (by omega)
    show ck l _ _ x y = _
    rw [ih _ _ _ _ (tSS_lt4 _ (by omega)), md_s x, md_s y, p2_s, hk_step l hst h2 h3 (Nat.mod_lt _ (Nat.two_pow_pos l)) (Nat.mod_lt _ (Nat.two_pow_pos l))]
    generalize tSQ (4 * st + (2 * (x / 2 ^ l % 2) + y / 2 ^ l % 2)) = q
    rw [← Nat.add_assoc]
    congr 1
    rw [← p2_s, p4_s, Nat.add_mul, Nat.mul_comm 4 k, Nat.mul_assoc]
theorem sq_weave : ∀ a b, a < 2 → b < 2 → tSQ (4 * 4 + (2 * a + b)) = a + 2 * b := by
  intro a b ha hb
  have e2 : a = 0 ∨ a = 1 := by omega
  have e3 : b = 0 ∨ b = 1 := by omega
  rcases e2 with rfl | rfl <;> rcases e3 with rfl | rfl <;> rfl
theorem ss_weave : ∀ a, a < 4 → tSS (4 * 4 + a) = 4 := by
  intro a ha
  have e2 : a = 0 ∨ a = 1 ∨ a = 2 ∨ a = 3 := by omega
  rcases e2 with rfl | rfl | rfl | rfl <;> rfl
theorem ck_weave (l : Nat) : ∀ k x y, ck l 4 k x y = k * (2 ^ l * 2 ^ l) + wk l x y := by
  induction l with
  | zero => intro k x y; show k = k * (1 * 1) + 0; omega
  | succ l ih =>
    intro k x y
    have h2 : x / 2 ^ l % 2 < 2 := Nat.mod_lt _ (by omega)
    have h3 : y / 2 ^ l % 2 < 2 := Nat.mod_lt _ (by omega)
    show ck l (tSS (4 * 4 + tSQ (4 * 4 + (2 * (x / 2 ^ l % 2) + y / 2 ^ l % 2)))) _ x y = _
    rw [sq_weave _ _ h2 h3, ss_weave _ (by omega), ih]
    show _ = k * (2 ^ (l + 1) * 2 ^ (l + 1)) + ((x / 2 ^ l % 2 + 2 * (y / 2 ^ l % 2)) * (2 ^ l * 2 ^ l) + wk l x y)
    generalize x / 2 ^ l % 2 + 2 * (y / 2 ^ l % 2) = q
    rw [← Nat.add_assoc]
    congr 1
    rw [p4_s, Nat.add_mul, Nat.mul_comm 4 k, Nat.mul_assoc]
/-- the key of a cell by a curve -/
def kk (cu N x y : Nat) : Nat := if cu = 0 then wk N x y else hk N x y
def st0 (cu : Nat) : Nat := if cu = 0 then 4 else 0
theorem ck_kk {cu N x y : Nat} (hcu : cu < 2) (hx : x < 2 ^ N) (hy : y < 2 ^ N) : ck N (st0 cu) 0 x y = kk cu N x y := by
  have e : cu = 0 ∨ cu = 1 := by omega
  rcases e with rfl | rfl
  · show ck N 4 0 x y = wk N x y
    rw [ck_weave]; omega
  · show ck N 0 0 x y = hk N x y
    rw [ck_turn _ _ _ _ _ (by omega), Nat.mod_eq_of_lt hx, Nat.mod_eq_of_lt hy]
    show 0 * _ + hk N x y = _
    omega
theorem kk_lt {cu N x y : Nat} (hx : x < 2 ^ N) (hy : y < 2 ^ N) : kk cu N x y < 2 ^ N * 2 ^ N := by
  unfold kk
  split
  · exact wk_lt _ _ _
  · exact hk_lt _ _ _ hx hy
/-- the cell of a key: the reference's way, from the low bits up -/
def hcx (l k : Nat) : Nat × Nat := match l with
  | 0 => (0, 0)
  | l + 1 => match k / (2 ^ l * 2 ^ l) % 4 with
    | 0 => ((hcx l k).2, (hcx l k).1)
    | 1 => ((hcx l k).1, (hcx l k).2 + 2 ^ l)
    | 2 => ((hcx l k).1 + 2 ^ l, (hcx l k).2 + 2 ^ l)
    | _ => (2 * 2 ^ l - 1 - (hcx l k).2, 2 ^ l - 1 - (hcx l k).1)
def wcx (l k : Nat) : Nat × Nat := match l with
  | 0 => (0, 0)
  | l + 1 => ((wcx l k).1 + 2 ^ l * (k / (2 ^ l * 2 ^ l) % 4 % 2), (wcx l k).2 + 2 ^ l * (k / (2 ^ l * 2 ^ l) % 4 / 2))
theorem hcx_lt (l k : Nat) : (hcx l k).1 < 2 ^ l ∧ (hcx l k).2 < 2 ^ l := by
  induction l with
  | zero => exact ⟨by show 0 < 1; omega, by show 0 < 1; omega⟩
  | succ l ih =>
    obtain ⟨h1, h2⟩ := ih
    rw [p2_s]
    unfold hcx
    split <;> dsimp only <;> omega
theorem wcx_lt (l k : Nat) : (wcx l k).1 < 2 ^ l ∧ (wcx l k).2 < 2 ^ l := by
  induction l with
  | zero => exact ⟨by show 0 < 1; omega, by show 0 < 1; omega⟩
  | succ l ih =>
    obtain ⟨h1, h2⟩ := ih
    rw [p2_s]
    have a1 : k / (2 ^ l * 2 ^ l) % 4 % 2 = 0 ∨ k / (2 ^ l * 2 ^ l) % 4 % 2 = 1 := by omega
    have a2 : k / (2 ^ l * 2 ^ l) % 4 / 2 = 0 ∨ k / (2 ^ l * 2 ^ l) % 4 / 2 = 1 := by omega
    unfold wcx
    dsimp only
    rcases a1 with e | e <;> rcases a2 with e' | e' <;> rw [e, e'] <;> omega
end
section
/-! keys and cells, both ways -/
theorem hcx_add (l : Nat) : ∀ q r, hcx l (q * (2 ^ l * 2 ^ l) + r) = hcx l r := by
  induction l with
  | zero => intro q r; rfl
  | succ l ih =>
    intro q r
    have e : q * (2 ^ (l + 1) * 2 ^ (l + 1)) + r = r + (q * 4) * (2 ^ l * 2 ^ l) := by
      rw [p4_s, ← Nat.mul_assoc, Nat.add_comm]
    have e1 : (q * (2 ^ (l + 1) * 2 ^ (l + 1)) + r) / (2 ^ l * 2 ^ l) % 4 = r / (2 ^ l * 2 ^ l) % 4 := by
      rw [e, Nat.add_mul_div_right _ _ (p4_pos l)]
      omega
    have e2 : hcx l (q * (2 ^ (l + 1) * 2 ^ (l + 1)) + r) = hcx l r := by
      rw [e, Nat.add_comm]
      exact ih (q * 4) r
    unfold hcx
    rw [e1, e2]
theorem wcx_add (l : Nat) : ∀ q r, wcx l (q * (2 ^ l * 2 ^ l) + r) = wcx l r := by
  induction l with
  | zero => intro q r; rfl
  | succ l ih =>
    intro q r
    have e : q * (2 ^ (l + 1) * 2 ^ (l + 1)) + r = r + (q * 4) * (2 ^ l * 2 ^ l) := by
      rw [p4_s, ← Nat.mul_assoc, Nat.add_comm]
    have e1 : (q * (2 ^ (l + 1) * 2 ^ (l + 1)) + r) / (2 ^ l * 2 ^ l) % 4 = r / (2 ^ l * 2 ^ l) % 4 := by
      rw [e, Nat.add_mul_div_right _ _ (p4_pos l)]
      omega
    have e2 : wcx l (q * (2 ^ (l + 1) * 2 ^ (l + 1)) + r) = wcx l r := by
      rw [e, Nat.add_comm]
      exact ih (q * 4) r
    unfold wcx
    rw [e1, e2]
theorem dg_of {l q r : Nat} (hq : q < 4) (hr : r < 2 ^ l * 2 ^ l) : (q * (2 ^ l * 2 ^ l) + r) / (2 ^ l * 2 ^ l) % 4 = q := by
  rw [Nat.add_comm, Nat.add_mul_div_right _ _ (p4_pos l), Nat.div_eq_of_lt hr]
  omega
theorem hcx_0 {l k : Nat} (h : k / (2 ^ l * 2 ^ l) % 4 = 0) : hcx (l + 1) k = ((hcx l k).2, (hcx l k).1) := by
  show (match k / (2 ^ l * 2 ^ l) % 4 with | 0 => _ | 1 => _ | 2 => _ | _ => _) = _
  rw [h]
  rfl
theorem hcx_1 {l k : Nat} (h : k / (2 ^ l * 2 ^ l) % 4 = 1) : hcx (l + 1) k = ((hcx l k).1, (hcx l k).2 + 2 ^ l) := by
  show (match k / (2 ^ l * 2 ^ l) % 4 with | 0 => _ | 1 => _ | 2 => _ | _ => _) = _
  rw [h]
  rfl
theorem hcx_2 {l k : Nat} (h : k / (2 ^ l * 2 ^ l) % 4 = 2) : hcx (l + 1) k = ((hcx l k).1 + 2 ^ l, (hcx l k).2 + 2 ^ l) := by
  show (match k / (2 ^ l * 2 ^ l) % 4 with | 0 => _ | 1 => _ | 2 => _ | _ => _) = _
  rw [h]
  rfl
theorem hcx_3 {l k : Nat} (h : k / (2 ^ l * 2 ^ l) % 4 = 3) : hcx (l + 1) k = (2 * 2 ^ l - 1 - (hcx l k).2, 2 ^ l - 1 - (hcx l k).1) := by
  show (match k / (2 ^ l * 2 ^ l) % 4 with | 0 => _ | 1 => _ | 2 => _ | _ => _) = _
  rw [h]
  rfl
theorem hcx_hk (l : Nat) : ∀ a b, a < 2 ^ l → b < 2 ^ l → hcx l (hk l a b) = (a, b) := by
  induction l with
  | zero =>
    intro a b ha hb
    rw [Nat.pow_zero] at ha hb
    obtain rfl : a = 0 := by omega
    obtain rfl : b = 0 := by omega
    rfl
  | succ l ih =>
    intro a b ha hb
    rw [p2_s] at ha hb
    rcases Nat.lt_or_ge a (2 ^ l) with h1 | h1 <;> rcases Nat.lt_or_ge b (2 ^ l) with h2 | h2
    · rw [hk_00 h1 h2]
      have hl := hk_lt l b a h2 h1
      have hd := dg_of (l := l) (q := 0) (r := hk l b a) (by omega) hl
      rw [Nat.zero_mul, Nat.zero_add] at hd
      rw [hcx_0 hd, ih b a h2 h1]
    · rw [hk_01 h1 h2]
      have hl := hk_lt l a (b - 2 ^ l) h1 (by omega)
      have hd := dg_of (l := l) (q := 1) (by omega) hl
      have ha := hcx_add l 1 (hk l a (b - 2 ^ l))
      rw [Nat.one_mul] at hd ha
      rw [hcx_1 hd, ha, ih a (b - 2 ^ l) h1 (by omega)]
      show (a, b - 2 ^ l + 2 ^ l) = (a, b)
      rw [Nat.sub_add_cancel h2]
    · rw [hk_10 h1 h2]
      have hl := hk_lt l (2 ^ l - 1 - b) (2 * 2 ^ l - 1 - a) (by omega) (by omega)
      have hd := dg_of (l := l) (q := 3) (by omega) hl
      have ha := hcx_add l 3 (hk l (2 ^ l - 1 - b) (2 * 2 ^ l - 1 - a))
      rw [hcx_3 hd, ha, ih _ _ (by omega) (by omega)]
      show (2 * 2 ^ l - 1 - (2 * 2 ^ l - 1 - a), 2 ^ l - 1 - (2 ^ l - 1 - b)) = (a, b)
      congr 1 <;> omega
    · rw [hk_11 h1 h2]
      have hl := hk_lt l (a - 2 ^ l) (b - 2 ^ l) (by omega) (by omega)
      have hd := dg_of (l := l) (q := 2) (by omega) hl
      have ha := hcx_add l 2 (hk l (a - 2 ^ l) (b - 2 ^ l))
      rw [hcx_2 hd, ha, ih _ _ (by omega) (by omega)]
      show (a - 2 ^ l + 2 ^ l, b - 2 ^ l + 2 ^ l) = (a, b)
      rw [Nat.sub_add_cancel h1, Nat.sub_add_cancel h2]
theorem md4_s (k l : Nat) : k % (2 ^ (l + 1) * 2 ^ (l + 1)) = k % (2 ^ l * 2 ^ l) + (k / (2 ^ l * 2 ^ l) % 4) * (2 ^ l * 2 ^ l) := by
  rw [p4_s, Nat.mul_comm 4, Nat.mod_mul, Nat.mul_comm (2 ^ l * 2 ^ l) (k / (2 ^ l * 2 ^ l) % 4)]
theorem hk_hcx (l : Nat) : ∀ k, hk l (hcx l k).1 (hcx l k).2 = k % (2 ^ l * 2 ^ l) := by
  induction l with
  | zero => intro k; show 0 = k % (1 * 1); omega
  | succ l ih =>
    intro k
    rw [md4_s]
    obtain ⟨h1, h2⟩ := hcx_lt l k
    have h0 := ih k
    have hq : k / (2 ^ l * 2 ^ l) % 4 = 0 ∨ k / (2 ^ l * 2 ^ l) % 4 = 1 ∨ k / (2 ^ l * 2 ^ l) % 4 = 2 ∨ k / (2 ^ l * 2 ^ l) % 4 = 3 := by omega
    rcases hq with h | h | h | h
    · rw [hcx_0 h, h]
      dsimp only
      rw [hk_00 h2 h1, h0]
      omega
    · rw [hcx_1 h, h]
      dsimp only
      rw [hk_01 h1 (by omega), Nat.add_sub_cancel, h0]
      omega
    · rw [hcx_2 h, h]
      dsimp only
      rw [hk_11 (by omega) (by omega), Nat.add_sub_cancel, Nat.add_sub_cancel, h0]
      omega
    · rw [hcx_3 h, h]
      dsimp only
      rw [hk_10 (by omega) (by omega), show 2 ^ l - 1 - (2 ^ l - 1 - (hcx l k).1) = (hcx l k).1 by omega, show 2 * 2 ^ l - 1 - (2 * 2 ^ l - 1 - (hcx l k).2) = (hcx l k).2 by omega, h0]
      omega
theorem wk_hi (l : Nat) : ∀ x y b c, wk l (x + 2 ^ l * b) (y + 2 ^ l * c) = wk l x y := by
  induction l with
  | zero => intro x y b c; rfl
  | succ l ih =>
    intro x y b c
    have ex : ∀ z d, z + 2 ^ (l + 1) * d = z + 2 ^ l * (2 * d) := by
      intro z d
      rw [p2_s, Nat.mul_comm 2 (2 ^ l), Nat.mul_assoc]
    have ed : ∀ z d, (z + 2 ^ l * (2 * d)) / 2 ^ l % 2 = z / 2 ^ l % 2 := by
      intro z d
      rw [Nat.add_mul_div_left _ _ (Nat.two_pow_pos l)]
      omega
    show (_ / 2 ^ l % 2 + 2 * (_ / 2 ^ l % 2)) * (2 ^ l * 2 ^ l) + wk l _ _ = (x / 2 ^ l % 2 + 2 * (y / 2 ^ l % 2)) * (2 ^ l * 2 ^ l) + wk l x y
    rw [ex, ex, ed, ed, ih]
theorem bit_of {l z b : Nat} (hz : z < 2 ^ l) (hb : b < 2) : (z + 2 ^ l * b) / 2 ^ l % 2 = b := by
  rw [Nat.add_mul_div_left _ _ (Nat.two_pow_pos l), Nat.div_eq_of_lt hz]
  omega
theorem wk_wcx (l : Nat) : ∀ k, wk l (wcx l k).1 (wcx l k).2 = k % (2 ^ l * 2 ^ l) := by
  induction l with
  | zero => intro k; show 0 = k % (1 * 1); omega
  | succ l ih =>
    intro k
    rw [md4_s]
    obtain ⟨h1, h2⟩ := wcx_lt l k
    show ((_ + 2 ^ l * (k / (2 ^ l * 2 ^ l) % 4 % 2)) / 2 ^ l % 2 + 2 * ((_ + 2 ^ l * (k / (2 ^ l * 2 ^ l) % 4 / 2)) / 2 ^ l % 2)) * (2 ^ l * 2 ^ l) + wk l (_ + 2 ^ l * _) (_ + 2 ^ l * _) = _
    rw [bit_of h1 (by omega), bit_of h2 (by omega), wk_hi, ih, Nat.add_comm]
    congr 2
    omega
theorem wcx_wk (l : Nat) : ∀ x y, x < 2 ^ l → y < 2 ^ l → wcx l (wk l x y) = (x, y) := by
  have gen : ∀ x y, wcx l (wk l x y) = (x % 2 ^ l, y % 2 ^ l) := by
    induction l with
    | zero => intro x y; show (0, 0) = (x % 1, y % 1); rw [Nat.mod_one, Nat.mod_one]
    | succ l ih =>
      intro x y
      have h2 : x / 2 ^ l % 2 < 2 := Nat.mod_lt _ (by omega)
      have h3 : y / 2 ^ l % 2 < 2 := Nat.mod_lt _ (by omega)
      have hd := dg_of (l := l) (q := x / 2 ^ l % 2 + 2 * (y / 2 ^ l % 2)) (by omega) (wk_lt l x y)
      show ((wcx l ((x / 2 ^ l % 2 + 2 * (y / 2 ^ l % 2)) * (2 ^ l * 2 ^ l) + wk l x y)).1 + 2 ^ l * (((x / 2 ^ l % 2 + 2 * (y / 2 ^ l % 2)) * (2 ^ l * 2 ^ l) + wk l x y) / (2 ^ l * 2 ^ l) % 4 % 2), (wcx l ((x / 2 ^ l % 2 + 2 * (y / 2 ^ l % 2)) * (2 ^ l * 2 ^ l) + wk l x y)).2 + 2 ^ l * (((x / 2 ^ l % 2 + 2 * (y / 2 ^ l % 2)) * (2 ^ l * 2 ^ l) + wk l x y) / (2 ^ l * 2 ^ l) % 4 / 2)) = _
      rw [hd, wcx_add, ih, md_s, md_s]
      dsimp only
      congr 2
      · congr 1; omega
      · congr 1; omega
  intro x y hx hy
  rw [gen, Nat.mod_eq_of_lt hx, Nat.mod_eq_of_lt hy]
/-- the cell of a key, in a square where the curve lies as the state says -/
def cs (st l k : Nat) : Nat × Nat := if st = 4 then wcx l k else (tx st (2 ^ l) (hcx l k).1 (hcx l k).2, ty st (2 ^ l) (hcx l k).1 (hcx l k).2)
theorem cs_lt {st l k : Nat} : (cs st l k).1 < 2 ^ l ∧ (cs st l k).2 < 2 ^ l := by
  obtain ⟨h1, h2⟩ := hcx_lt l k
  unfold cs
  split
  · exact wcx_lt l k
  · dsimp only
    unfold tx ty
    split <;> omega
theorem cs_step {st l k : Nat} (hst : st < 5) : cs st (l + 1) k = (2 ^ l * (tQS (4 * st + k / (2 ^ l * 2 ^ l) % 4) / 2) + (cs (tSS (4 * st + k / (2 ^ l * 2 ^ l) % 4)) l k).1, 2 ^ l * (tQS (4 * st + k / (2 ^ l * 2 ^ l) % 4) % 2) + (cs (tSS (4 * st + k / (2 ^ l * 2 ^ l) % 4)) l k).2) := by
  obtain ⟨h1, h2⟩ := hcx_lt l k
  have hq : k / (2 ^ l * 2 ^ l) % 4 = 0 ∨ k / (2 ^ l * 2 ^ l) % 4 = 1 ∨ k / (2 ^ l * 2 ^ l) % 4 = 2 ∨ k / (2 ^ l * 2 ^ l) % 4 = 3 := by omega
  have e1 : st = 4 ∨ st = 0 ∨ st = 1 ∨ st = 2 ∨ st = 3 := by omega
  rcases e1 with rfl | e1
  · have hw : wcx (l + 1) k = ((wcx l k).1 + 2 ^ l * (k / (2 ^ l * 2 ^ l) % 4 % 2), (wcx l k).2 + 2 ^ l * (k / (2 ^ l * 2 ^ l) % 4 / 2)) := rfl
    have c4 : ∀ n, cs 4 n k = wcx n k := fun n => rfl
    rw [c4, hw]
    rcases hq with h | h | h | h <;> rw [h] <;> simp only [tQS, tSS, List.getD_cons_zero, List.getD_cons_succ, Nat.reduceAdd, Nat.reduceMul, Nat.reduceDiv, Nat.reduceMod, c4] <;> congr 1 <;> omega
  · have hn : ∀ a n, a < 4 → cs a n k = (tx a (2 ^ n) (hcx n k).1 (hcx n k).2, ty a (2 ^ n) (hcx n k).1 (hcx n k).2) := fun a n ha => by unfold cs; rw [if_neg (by omega)]
    rw [hn st (l + 1) (by omega), hn (tSS (4 * st + k / (2 ^ l * 2 ^ l) % 4)) l (tSS_lt4 _ (by omega)), p2_s]
    rcases hq with h | h | h | h
    · rw [hcx_0 h, h]
      rcases e1 with rfl | rfl | rfl | rfl <;> simp only [tx, ty, tQS, tSS, List.getD_cons_zero, List.getD_cons_succ, Nat.reduceAdd, Nat.reduceMul, Nat.reduceDiv, Nat.reduceMod, Nat.mul_zero, Nat.mul_one, Nat.zero_add, Nat.add_zero] <;> congr 1 <;> omega
    · rw [hcx_1 h, h]
      rcases e1 with rfl | rfl | rfl | rfl <;> simp only [tx, ty, tQS, tSS, List.getD_cons_zero, List.getD_cons_succ, Nat.reduceAdd, Nat.reduceMul, Nat.reduceDiv, Nat.reduceMod, Nat.mul_zero, Nat.mul_one, Nat.zero_add, Nat.add_zero] <;> congr 1 <;> omega
    · rw [hcx_2 h, h]
      rcases e1 with rfl | rfl | rfl | rfl <;> simp only [tx, ty, tQS, tSS, List.getD_cons_zero, List.getD_cons_succ, Nat.reduceAdd, Nat.reduceMul, Nat.reduceDiv, Nat.reduceMod, Nat.mul_zero, Nat.mul_one, Nat.zero_add, Nat.add_zero] <;> congr 1 <;> omega
    · rw [hcx_3 h, h]
      rcases e1 with rfl | rfl | rfl | rfl <;> simp only [tx, ty, tQS, tSS, List.getD_cons_zero, List.getD_cons_succ, Nat.reduceAdd, Nat.reduceMul, Nat.reduceDiv, Nat.reduceMod, Nat.mul_zero, Nat.mul_one, Nat.zero_add, Nat.add_zero] <;> congr 1 <;> omega
/-- the class's walk to a cell -/
def cw (l st x y k : Nat) : Nat × Nat := match l with
  | 0 => (x, y)
  | l + 1 => cw l (tSS (4 * st + k / (2 ^ l * 2 ^ l) % 4)) (2 * x + tQS (4 * st + k / (2 ^ l * 2 ^ l) % 4) / 2) (2 * y + tQS (4 * st + k / (2 ^ l * 2 ^ l) % 4) % 2) k
theorem cw_eq (l : Nat) : ∀ st x y k, st < 5 → cw l st x y k = (2 ^ l * x + (cs st l k).1, 2 ^ l * y + (cs st l k).2) := by
  induction l with
  | zero =>
    intro st x y k _
    obtain ⟨h1, h2⟩ := cs_lt (st := st) (l := 0) (k := k)
    rw [Nat.pow_zero] at h1 h2
    show (x, y) = (1 * x + _, 1 * y + _)
    congr 1 <;> omega
  | succ l ih =>
    intro st x y k hst
    show cw l _ _ _ k = _
    rw [ih _ _ _ _ (tSS_lt _ (by omega)), cs_step hst, p2_s]
    generalize tQS (4 * st + k / (2 ^ l * 2 ^ l) % 4) / 2 = a
    generalize tQS (4 * st + k / (2 ^ l * 2 ^ l) % 4) % 2 = b
    dsimp only
    rw [Nat.mul_add, Nat.mul_add, ← Nat.mul_assoc, ← Nat.mul_assoc, Nat.mul_comm (2 ^ l) 2, Nat.add_assoc, Nat.add_assoc]
/-- the cell of a key by a curve -/
def kc (cu N k : Nat) : Nat × Nat := if cu = 0 then wcx N k else hcx N k
theorem cs_kc {cu N k : Nat} (hcu : cu < 2) : cs (st0 cu) N k = kc cu N k := by
  have e : cu = 0 ∨ cu = 1 := by omega
  rcases e with rfl | rfl <;> rfl
theorem kc_lt {cu N k : Nat} : (kc cu N k).1 < 2 ^ N ∧ (kc cu N k).2 < 2 ^ N := by
  unfold kc
  split
  · exact wcx_lt N k
  · exact hcx_lt N k
theorem kc_kk {cu N x y : Nat} (hx : x < 2 ^ N) (hy : y < 2 ^ N) : kc cu N (kk cu N x y) = (x, y) := by
  unfold kc kk
  split
  · exact wcx_wk _ _ _ hx hy
  · exact hcx_hk _ _ _ hx hy
theorem kk_kc {cu N k : Nat} (hk : k < 2 ^ N * 2 ^ N) : kk cu N (kc cu N k).1 (kc cu N k).2 = k := by
  unfold kc kk
  split
  · rw [wk_wcx, Nat.mod_eq_of_lt hk]
  · rw [hk_hcx, Nat.mod_eq_of_lt hk]
theorem kk_inj {cu N x y x' y' : Nat} (hx : x < 2 ^ N) (hy : y < 2 ^ N) (hx' : x' < 2 ^ N) (hy' : y' < 2 ^ N) (h : kk cu N x y = kk cu N x' y') : x = x' ∧ y = y' := by
  have a := kc_kk (cu := cu) hx hy
  rw [h, kc_kk hx' hy'] at a
  exact ⟨(Prod.mk.inj a).1.symm, (Prod.mk.inj a).2.symm⟩
/-- the key of a cell's number -/
def ke (cu N c : Nat) : Nat := kk cu N (c / 2 ^ N) (c % 2 ^ N)
theorem cl_of {N c : Nat} (hc : c < 2 ^ N * 2 ^ N) : c / 2 ^ N < 2 ^ N ∧ c % 2 ^ N < 2 ^ N := ⟨Nat.div_lt_of_lt_mul hc, Nat.mod_lt _ (Nat.two_pow_pos N)⟩
theorem cl_mk {N x y : Nat} (hx : x < 2 ^ N) (hy : y < 2 ^ N) : x * 2 ^ N + y < 2 ^ N * 2 ^ N ∧ (x * 2 ^ N + y) / 2 ^ N = x ∧ (x * 2 ^ N + y) % 2 ^ N = y := by
  refine ⟨?_, ?_, ?_⟩
  · have : (x + 1) * 2 ^ N ≤ 2 ^ N * 2 ^ N := Nat.mul_le_mul_right _ hx
    rw [Nat.add_mul] at this
    omega
  · rw [Nat.add_comm, Nat.add_mul_div_right _ _ (Nat.two_pow_pos N), Nat.div_eq_of_lt hy, Nat.zero_add]
  · rw [Nat.add_comm, Nat.add_mul_mod_self_right, Nat.mod_eq_of_lt hy]
theorem ke_lt {cu N c : Nat} (hc : c < 2 ^ N * 2 ^ N) : ke cu N c < 2 ^ N * 2 ^ N := kk_lt (cl_of hc).1 (cl_of hc).2
theorem ke_inj {cu N c c' : Nat} (hc : c < 2 ^ N * 2 ^ N) (hc' : c' < 2 ^ N * 2 ^ N) (h : ke cu N c = ke cu N c') : c = c' := by
  obtain ⟨a, b⟩ := kk_inj (cl_of hc).1 (cl_of hc).2 (cl_of hc').1 (cl_of hc').2 h
  rw [← Nat.div_add_mod c (2 ^ N), a, b, Nat.div_add_mod]
theorem ke_mk {cu N x y : Nat} (hx : x < 2 ^ N) (hy : y < 2 ^ N) : ke cu N (x * 2 ^ N + y) = kk cu N x y := by
  obtain ⟨-, a, b⟩ := cl_mk hx hy
  unfold ke
  rw [a, b]
end
section
/-! runs: a walk along the keys of a window. A state: how many runs, where the last one ends (one behind its last key), the wanted one's first key and last key, each one more, 0 when there is none -/
abbrev rw_S : Type := Nat × Nat × Nat × Nat
def rw_j (w : Int32) (a b : Nat) (u : rw_S) : rw_S :=
  if u.1 = 0 ∨ a ≠ u.2.1 then (u.1 + 1, b, if nI u.1 = w then a + 1 else u.2.2.1, if nI u.1 = w then b else u.2.2.2)
  else (u.1, b, u.2.2.1, if nI (u.1 - 1) = w then b else u.2.2.2)
theorem rw_j_new {w : Int32} {a b : Nat} {u : rw_S} (h : u.1 = 0 ∨ a ≠ u.2.1) : rw_j w a b u = (u.1 + 1, b, if nI u.1 = w then a + 1 else u.2.2.1, if nI u.1 = w then b else u.2.2.2) := by
  unfold rw_j; rw [if_pos h]
theorem rw_j_old {w : Int32} {a b : Nat} {u : rw_S} (h0 : u.1 ≠ 0) (h : a = u.2.1) : rw_j w a b u = (u.1, b, u.2.2.1, if nI (u.1 - 1) = w then b else u.2.2.2) := by
  unfold rw_j; rw [if_neg (fun q => q.elim h0 (fun z => z h))]
/-- two joins side by side are one -/
theorem rw_j_j {w : Int32} {a b c : Nat} {u : rw_S} : rw_j w b c (rw_j w a b u) = rw_j w a c u := by
  by_cases h : u.1 = 0 ∨ a ≠ u.2.1
  · rw [rw_j_new h, rw_j_new h, rw_j_old (u := (u.1 + 1, b, if nI u.1 = w then a + 1 else u.2.2.1, if nI u.1 = w then b else u.2.2.2)) (Nat.succ_ne_zero _) rfl]
    dsimp only
    rw [Nat.add_sub_cancel]
    split <;> rfl
  · have h0 : u.1 ≠ 0 := fun q => h (Or.inl q)
    have h1 : a = u.2.1 := Classical.byContradiction (fun q => h (Or.inr q))
    rw [rw_j_old h0 h1, rw_j_old h0 h1, rw_j_old (u := (u.1, b, u.2.2.1, if nI (u.1 - 1) = w then b else u.2.2.2)) h0 rfl]
    dsimp only
    split <;> rfl
/-- all keys below k -/
def rw_k (w : Int32) (M : Nat → Bool) (k : Nat) : rw_S := match k with
  | 0 => (0, 0, 0, 0)
  | k + 1 => if M k then rw_j w k (k + 1) (rw_k w M k) else rw_k w M k
theorem rw_k_no {w : Int32} {M : Nat → Bool} {a : Nat} : ∀ n, (∀ j, a ≤ j → j < a + n → M j = false) → rw_k w M (a + n) = rw_k w M a
  | 0, _ => rfl
  | n + 1, h => by
    show (if M (a + n) then _ else rw_k w M (a + n)) = _
    rw [h (a + n) (by omega) (by omega)]
    exact rw_k_no n (fun j h1 h2 => h j h1 (by omega))
theorem rw_k_all {w : Int32} {M : Nat → Bool} {a : Nat} : ∀ n, (∀ j, a ≤ j → j < a + (n + 1) → M j = true) → rw_k w M (a + (n + 1)) = rw_j w a (a + (n + 1)) (rw_k w M a)
  | 0, h => by
    show (if M a then _ else _) = _
    rw [h a (by omega) (by omega)]
    rfl
  | n + 1, h => by
    show (if M (a + (n + 1)) then rw_j w (a + (n + 1)) (a + (n + 1) + 1) (rw_k w M (a + (n + 1))) else _) = _
    rw [h (a + (n + 1)) (by omega) (by omega), rw_k_all n (fun j h1 h2 => h j h1 (by omega))]
    exact rw_j_j
/-- the keys of a row, one after the other -/
def rw_a (w : Int32) (a : Nat → Nat) (j : Nat) : rw_S := match j with
  | 0 => (0, 0, 0, 0)
  | j + 1 => rw_j w (a j) (a j + 1) (rw_a w a j)
theorem rw_ka {w : Int32} {M : Nat → Bool} {a : Nat → Nat} {m E : Nat} (hs : ∀ i j, i < j → j < m → a i < a j) (hM : ∀ k, k < E → (M k = true ↔ ∃ i, i < m ∧ a i = k)) (hE : ∀ i, i < m → a i < E) : rw_k w M E = rw_a w a m := by
  have gen : ∀ K, K ≤ E → ∃ j, j ≤ m ∧ (∀ i, i < m → (a i < K ↔ i < j)) ∧ rw_k w M K = rw_a w a j := by
    intro K
    induction K with
    | zero => intro _; exact ⟨0, by omega, fun i hi => by omega, rfl⟩
    | succ K ih =>
      intro hK
      obtain ⟨j, hj, hlt, he⟩ := ih (by omega)
      by_cases hm : M K = true
      · obtain ⟨i, hi, hai⟩ := (hM K (by omega)).1 hm
        have hij : j ≤ i := by
          have := hlt i hi
          omega
        have haj : a j = K := by
          rcases Nat.lt_or_ge j i with h | h
          · have h1 := hs j i h hi
            have h2 := hlt j (by omega)
            omega
          · have : i = j := by omega
            subst this
            exact hai
        refine ⟨j + 1, by omega, fun x hx => ?_, ?_⟩
        · have h1 := hlt x hx
          rcases Nat.lt_trichotomy x j with h | h | h
          · omega
          · subst h; omega
          · have := hs j x h hx
            omega
        · show (if M K then _ else _) = rw_j w (a j) (a j + 1) (rw_a w a j)
          rw [hm, if_pos rfl, he, haj]
      · refine ⟨j, hj, fun x hx => ?_, ?_⟩
        · have h1 := hlt x hx
          have : a x ≠ K := fun q => hm ((hM K (by omega)).2 ⟨x, hx, q⟩)
          omega
        · show (if M K then _ else rw_k w M K) = _
          rw [if_neg hm, he]
  obtain ⟨j, hj, hlt, he⟩ := gen E (Nat.le_refl _)
  have : j = m := by
    rcases Nat.lt_or_ge j m with h | h
    · have := (hlt j h).1 (hE j h)
      omega
    · omega
  rw [he, this]
/-- the reference's words: a run begins at j -/
def rw_b (a : Nat → Nat) (j : Nat) : Prop := j = 0 ∨ a (j - 1) + 1 < a j
theorem rw_a_e {w : Int32} {a : Nat → Nat} (j : Nat) : (rw_a w a (j + 1)).2.1 = a j + 1 := by
  show (rw_j w (a j) (a j + 1) (rw_a w a j)).2.1 = _
  unfold rw_j
  split <;> rfl
theorem rw_a_pos {w : Int32} {a : Nat → Nat} (j : Nat) : (rw_a w a (j + 1)).1 ≠ 0 := by
  show (rw_j w (a j) (a j + 1) (rw_a w a j)).1 ≠ 0
  unfold rw_j
  split
  · exact Nat.succ_ne_zero _
  · rename_i h
    exact fun q => h (Or.inl q)
theorem rw_a_new {w : Int32} {a : Nat → Nat} {j m : Nat} (hs : ∀ i j, i < j → j < m → a i < a j) (hj : j < m) (h : rw_b a j) : rw_a w a (j + 1) = ((rw_a w a j).1 + 1, a j + 1, if nI (rw_a w a j).1 = w then a j + 1 else (rw_a w a j).2.2.1, if nI (rw_a w a j).1 = w then a j + 1 else (rw_a w a j).2.2.2) := by
  refine rw_j_new ?_
  cases j with
  | zero => exact Or.inl rfl
  | succ j =>
    right
    rw [rw_a_e]
    rcases h with h | h
    · omega
    · rw [Nat.add_sub_cancel] at h
      omega
theorem rw_a_old {w : Int32} {a : Nat → Nat} {j m : Nat} (hs : ∀ i j, i < j → j < m → a i < a j) (hj : j < m) (h : ¬ rw_b a j) : j ≠ 0 ∧ rw_a w a (j + 1) = ((rw_a w a j).1, a j + 1, (rw_a w a j).2.2.1, if nI ((rw_a w a j).1 - 1) = w then a j + 1 else (rw_a w a j).2.2.2) := by
  cases j with
  | zero => exact absurd (Or.inl rfl) h
  | succ j =>
    refine ⟨by omega, rw_j_old (rw_a_pos j) ?_⟩
    rw [rw_a_e]
    have h1 := hs j (j + 1) (by omega) hj
    have h2 : ¬ a j + 1 < a (j + 1) := fun q => h (Or.inr q)
    omega
theorem rw_a_le {w : Int32} {a : Nat → Nat} (j : Nat) : (rw_a w a j).1 ≤ j := by
  induction j with
  | zero => exact Nat.le_refl _
  | succ j ih =>
    show (rw_j w (a j) (a j + 1) (rw_a w a j)).1 ≤ _
    unfold rw_j
    split
    · show (rw_a w a j).1 + 1 ≤ _
      omega
    · show (rw_a w a j).1 ≤ _
      omega
theorem rw_a_mono {w : Int32} {a : Nat → Nat} (j : Nat) : ∀ n, (rw_a w a j).1 ≤ (rw_a w a (j + n)).1
  | 0 => Nat.le_refl _
  | n + 1 => by
    refine Nat.le_trans (rw_a_mono j n) ?_
    show _ ≤ (rw_j w (a (j + n)) (a (j + n) + 1) (rw_a w a (j + n))).1
    unfold rw_j
    split
    · exact Nat.le_succ _
    · exact Nat.le_refl _
/-- behind the wanted run nothing of it changes any more: the first key -/
theorem rw_a_f {i : Nat} {a : Nat → Nat} {j : Nat} (hi : i < 2147483648) (hc : i < (rw_a (nI i) a j).1) : ∀ n, j + n < 2 ^ 30 → (rw_a (nI i) a (j + n)).2.2.1 = (rw_a (nI i) a j).2.2.1
  | 0, _ => rfl
  | n + 1, h => by
    rw [← rw_a_f hi hc n (by omega)]
    have h1 := rw_a_mono (w := nI i) (a := a) j n
    have h2 := rw_a_le (w := nI i) (a := a) (j + n)
    show (rw_j (nI i) (a (j + n)) (a (j + n) + 1) (rw_a (nI i) a (j + n))).2.2.1 = _
    unfold rw_j
    split
    · dsimp only
      rw [if_neg]
      rw [nI_eq (by omega) (by omega)]
      omega
    · rfl
/-- the last key -/
theorem rw_a_l {i : Nat} {a : Nat → Nat} {j : Nat} (hi : i < 2147483648) (hc : i + 1 < (rw_a (nI i) a j).1) : ∀ n, j + n < 2 ^ 30 → (rw_a (nI i) a (j + n)).2.2.2 = (rw_a (nI i) a j).2.2.2
  | 0, _ => rfl
  | n + 1, h => by
    rw [← rw_a_l hi hc n (by omega)]
    have h1 := rw_a_mono (w := nI i) (a := a) j n
    have h2 := rw_a_le (w := nI i) (a := a) (j + n)
    show (rw_j (nI i) (a (j + n)) (a (j + n) + 1) (rw_a (nI i) a (j + n))).2.2.2 = _
    unfold rw_j
    split
    · dsimp only
      rw [if_neg]
      rw [nI_eq (by omega) (by omega)]
      omega
    · dsimp only
      rw [if_neg]
      rw [nI_eq (by omega) (by omega)]
      omega
/-- before the wanted run there is none -/
theorem rw_a_n {i : Nat} {a : Nat → Nat} (hi : i < 2147483648) : ∀ j, j < 2 ^ 30 → (rw_a (nI i) a j).1 ≤ i → (rw_a (nI i) a j).2.2.1 = 0 ∧ (rw_a (nI i) a j).2.2.2 = 0
  | 0, _, _ => ⟨rfl, rfl⟩
  | j + 1, hj, hc => by
    have h1 := rw_a_mono (w := nI i) (a := a) j 1
    have h2 := rw_a_le (w := nI i) (a := a) j
    obtain ⟨g1, g2⟩ := rw_a_n (a := a) hi j (by omega) (by omega)
    have hc : (rw_j (nI i) (a j) (a j + 1) (rw_a (nI i) a j)).1 ≤ i := hc
    show (rw_j (nI i) (a j) (a j + 1) (rw_a (nI i) a j)).2.2.1 = 0 ∧ (rw_j (nI i) (a j) (a j + 1) (rw_a (nI i) a j)).2.2.2 = 0
    unfold rw_j at hc ⊢
    split
    · rename_i hs
      rw [if_pos hs] at hc
      dsimp only at hc ⊢
      have hne : ¬ nI (rw_a (nI i) a j).1 = nI i := by
        rw [nI_eq (by omega) (by omega)]
        omega
      rw [if_neg hne, if_neg hne]
      exact ⟨g1, g2⟩
    · rename_i hs
      rw [if_neg hs] at hc
      dsimp only at hc ⊢
      have h0 : (rw_a (nI i) a j).1 ≠ 0 := fun q => hs (Or.inl q)
      have hne : ¬ nI ((rw_a (nI i) a j).1 - 1) = nI i := by
        rw [nI_eq (by omega) (by omega)]
        omega
      rw [if_neg hne]
      exact ⟨g1, g2⟩
/-- a number that may be wanting: 0 is NONE, f + 1 is f -/
def oI (n : Nat) : Int32 := match n with
  | 0 => -1
  | n + 1 => nI n
theorem oI_inc (n : Nat) : oI n + 1 = nI n := by
  cases n with
  | zero => rfl
  | succ n => exact (nI_succ n).symm
theorem oI_dec (n : Nat) : nI n + (-1) = oI n := by
  cases n with
  | zero => rfl
  | succ n => exact pk_m1 n
end
section
/-! the reference's sort, as numbers: merging two sorted stretches; passes; what comes out -/
def mg (K o : Nat → Nat) (f mid e a b k : Nat) : Prop :=
  (f ≤ a ∧ a ≤ mid ∧ mid ≤ b ∧ b ≤ e ∧ k + mid = a + b) ∧
  (∀ p q, f ≤ p → p < q → q < k → o p ≤ o q) ∧
  (∀ p q, f ≤ p → p < k → a ≤ q → q < mid → o p ≤ K q) ∧
  (∀ p q, f ≤ p → p < k → b ≤ q → q < e → o p ≤ K q) ∧
  (∀ g : Nat → Nat, sg k (fun i => g (o i)) + sg f (fun i => g (K i)) + sg mid (fun i => g (K i)) = sg f (fun i => g (o i)) + sg a (fun i => g (K i)) + sg b (fun i => g (K i)))
theorem mg_0 {K o : Nat → Nat} {f mid e : Nat} (h1 : f ≤ mid) (h2 : mid ≤ e) : mg K o f mid e f mid f :=
  ⟨⟨by omega, by omega, by omega, by omega, rfl⟩, fun p q _ _ _ => by omega, fun p q _ _ _ _ => by omega, fun p q _ _ _ _ => by omega, fun g => rfl⟩
theorem sg_up_lt {o : Nat → Nat} {k v n : Nat} (h : n ≤ k) (g : Nat → Nat) : sg n (fun i => g (va_up o k v i)) = sg n (fun i => g (o i)) := sg_congr (fun i hi => by rw [up_ne (by omega)])
theorem mg_a {K o : Nat → Nat} {f mid e a b k : Nat} (h : mg K o f mid e a b k) (hs1 : ∀ p q, f ≤ p → p < q → q < mid → K p ≤ K q) (hs2 : ∀ p q, mid ≤ p → p < q → q < e → K p ≤ K q) (ha : a < mid) (hab : b = e ∨ K a ≤ K b) : mg K (va_up o k (K a)) f mid e (a + 1) b (k + 1) := by
  obtain ⟨⟨i1, i2, i3, i4, i5⟩, h1, h2, h3, h4⟩ := h
  refine ⟨⟨by omega, by omega, by omega, by omega, by omega⟩, fun p q hp hpq hq => ?_, fun p q hp hpk haq hq => ?_, fun p q hp hpk hbq hq => ?_, fun g => ?_⟩
  · by_cases e1 : q = k
    · subst e1
      rw [va_up_self, up_ne (by omega)]
      exact h2 p a hp hpq (by omega) ha
    · rw [up_ne (by omega), up_ne (by omega)]
      exact h1 p q hp hpq (by omega)
  · by_cases e1 : p = k
    · subst e1
      rw [va_up_self]
      exact hs1 a q i1 (by omega) hq
    · rw [up_ne (by omega)]
      exact h2 p q hp (by omega) (by omega) hq
  · by_cases e1 : p = k
    · subst e1
      rw [va_up_self]
      rcases hab with hab | hab
      · omega
      · by_cases e2 : q = b
        · subst e2; exact hab
        · exact Nat.le_trans hab (hs2 b q i3 (by omega) hq)
    · rw [up_ne (by omega)]
      exact h3 p q hp (by omega) (by omega) hq
  · have := h4 g
    rw [sg_s, sg_s, sg_up_lt (Nat.le_refl k), sg_up_lt (by omega : f ≤ k)]
    try dsimp only
    rw [va_up_self]
    omega
theorem mg_b {K o : Nat → Nat} {f mid e a b k : Nat} (h : mg K o f mid e a b k) (hs1 : ∀ p q, f ≤ p → p < q → q < mid → K p ≤ K q) (hs2 : ∀ p q, mid ≤ p → p < q → q < e → K p ≤ K q) (hb : b < e) (hab : a = mid ∨ K b ≤ K a) : mg K (va_up o k (K b)) f mid e a (b + 1) (k + 1) := by
  obtain ⟨⟨i1, i2, i3, i4, i5⟩, h1, h2, h3, h4⟩ := h
  refine ⟨⟨by omega, by omega, by omega, by omega, by omega⟩, fun p q hp hpq hq => ?_, fun p q hp hpk haq hq => ?_, fun p q hp hpk hbq hq => ?_, fun g => ?_⟩
  · by_cases e1 : q = k
    · subst e1
      rw [va_up_self, up_ne (by omega)]
      exact h3 p b hp hpq (by omega) hb
    · rw [up_ne (by omega), up_ne (by omega)]
      exact h1 p q hp hpq (by omega)
  · by_cases e1 : p = k
    · subst e1
      rw [va_up_self]
      rcases hab with hab | hab
      · omega
      · by_cases e2 : q = a
        · subst e2; exact hab
        · exact Nat.le_trans hab (hs1 a q i1 (by omega) hq)
    · rw [up_ne (by omega)]
      exact h2 p q hp (by omega) (by omega) hq
  · by_cases e1 : p = k
    · subst e1
      rw [va_up_self]
      exact hs2 b q i3 (by omega) hq
    · rw [up_ne (by omega)]
      exact h3 p q hp (by omega) (by omega) hq
  · have := h4 g
    rw [sg_s, sg_s, sg_up_lt (Nat.le_refl k), sg_up_lt (by omega : f ≤ k)]
    try dsimp only
    rw [va_up_self]
    omega
/-- sorted in blocks of w -/
def bs (w n : Nat) (K : Nat → Nat) : Prop := ∀ p q, p < q → q < n → p / w = q / w → K p ≤ K q
/-- the same numbers, up to n -/
def eqs (n : Nat) (K o : Nat → Nat) : Prop := ∀ g : Nat → Nat, sg n (fun i => g (o i)) = sg n (fun i => g (K i))
theorem bs_1 {n : Nat} {K : Nat → Nat} : bs 1 n K := fun p q h1 h2 h3 => by rw [Nat.div_one, Nat.div_one] at h3; omega
theorem bs_all {w n : Nat} {K : Nat → Nat} (h : bs w n K) (hw : n ≤ w) : ∀ p q, p < q → q < n → K p ≤ K q := fun p q h1 h2 => h p q h1 h2 (by rw [Nat.div_eq_of_lt (by omega), Nat.div_eq_of_lt (by omega)])
/-- the stretches of a block are sorted -/
theorem bs_lo {w n : Nat} {K : Nat → Nat} (h : bs w n K) (hw : 0 < w) {j mid : Nat} (hm : mid ≤ 2 * w * j + w) (hn : mid ≤ n) : ∀ p q, 2 * w * j ≤ p → p < q → q < mid → K p ≤ K q := by
  intro p q h1 h2 h3
  refine h p q h2 (by omega) ?_
  have e : 2 * w * j = w * (2 * j) := by rw [Nat.mul_comm 2 w, Nat.mul_assoc]
  rw [e] at h1 hm
  have a : ∀ x, w * (2 * j) ≤ x → x < w * (2 * j) + w → x / w = 2 * j := fun x g1 g2 => by
    rw [show x = (x - w * (2 * j)) + w * (2 * j) by omega, Nat.add_mul_div_left _ _ hw, Nat.div_eq_of_lt (by omega), Nat.zero_add]
  rw [a p h1 (by omega), a q (by omega) (by omega)]
theorem bs_hi {w n : Nat} {K : Nat → Nat} (h : bs w n K) (hw : 0 < w) {j e : Nat} (he : e ≤ 2 * w * j + 2 * w) (hn : e ≤ n) : ∀ p q, 2 * w * j + w ≤ p → p < q → q < e → K p ≤ K q := by
  intro p q h1 h2 h3
  refine h p q h2 (by omega) ?_
  have e1 : 2 * w * j = w * (2 * j) := by rw [Nat.mul_comm 2 w, Nat.mul_assoc]
  have e2 : w * (2 * j + 1) = w * (2 * j) + w := by rw [Nat.mul_add, Nat.mul_one]
  rw [e1] at h1 he
  have a : ∀ x, w * (2 * j) + w ≤ x → x < w * (2 * j) + 2 * w → x / w = 2 * j + 1 := fun x g1 g2 => by
    rw [show x = (x - w * (2 * j + 1)) + w * (2 * j + 1) by omega, Nat.add_mul_div_left _ _ hw, Nat.div_eq_of_lt (by omega), Nat.zero_add]
  rw [a p h1 (by omega), a q (by omega) (by omega)]
/-- a block more is merged -/
theorem mg_end {K o o' : Nat → Nat} {w j mid e m : Nat} (hw : 0 < w) (hf : 2 * w * j ≤ m) (he : e = min (2 * w * j + 2 * w) m) (hk : ∀ i, i < 2 * w * j → o' i = o i) (h : mg K o' (2 * w * j) mid e mid e e) (hb : bs (2 * w) (2 * w * j) o) (hq : eqs (2 * w * j) K o) : bs (2 * w) e o' ∧ eqs e K o' := by
  obtain ⟨-, h1, -, -, h4⟩ := h
  constructor
  · intro p q g1 g2 g3
    by_cases c : q < 2 * w * j
    · rw [hk p (by omega), hk q c]
      exact hb p q g1 c g3
    · by_cases c2 : 2 * w * j ≤ p
      · exact h1 p q c2 g1 g2
      · exfalso
        have a1 : p / (2 * w) < j := Nat.div_lt_of_lt_mul (by omega)
        have a2 : j ≤ q / (2 * w) := (Nat.le_div_iff_mul_le (by omega)).2 (by rw [Nat.mul_comm]; omega)
        omega
  · intro g
    have a1 := h4 g
    have a2 := hq g
    have a3 : sg (2 * w * j) (fun i => g (o' i)) = sg (2 * w * j) (fun i => g (o i)) := sg_congr (fun i hi => by rw [hk i hi])
    omega
theorem eqs.rf {n : Nat} {K : Nat → Nat} : eqs n K K := fun _ => rfl
theorem eqs.tr {n : Nat} {K o u : Nat → Nat} (h : eqs n K o) (h2 : eqs n o u) : eqs n K u := fun g => (h2 g).trans (h g)
theorem eqs_mem {n : Nat} {K o : Nat → Nat} (h : eqs n K o) (v : Nat) : (∃ i, i < n ∧ o i = v) ↔ ∃ i, i < n ∧ K i = v := by
  have e := h (fun x => if x = v then 1 else 0)
  constructor
  · rintro ⟨i, h1, h2⟩
    have := sg_get (f := fun i => if o i = v then 1 else 0) h1
    rw [if_pos h2, e] at this
    obtain ⟨j, g1, g2⟩ := sg_ex (n := n) (f := fun i => if K i = v then 1 else 0) (by omega)
    refine ⟨j, g1, Classical.byContradiction fun q => g2 (if_neg q)⟩
  · rintro ⟨i, h1, h2⟩
    have := sg_get (f := fun i => if K i = v then 1 else 0) h1
    rw [if_pos h2, ← e] at this
    obtain ⟨j, g1, g2⟩ := sg_ex (n := n) (f := fun i => if o i = v then 1 else 0) (by omega)
    refine ⟨j, g1, Classical.byContradiction fun q => g2 (if_neg q)⟩
/-- no number twice: sorted is strictly sorted -/
theorem eqs_strict {n : Nat} {K o : Nat → Nat} (h : eqs n K o) (hi : inj n K) (hs : ∀ p q, p < q → q < n → o p ≤ o q) : ∀ p q, p < q → q < n → o p < o q := by
  intro p q h1 h2
  rcases Nat.lt_or_ge (o p) (o q) with c | c
  · exact c
  · exfalso
    have e0 : o p = o q := Nat.le_antisymm (hs p q h1 h2) c
    have e := h (fun x => if x = o p then 1 else 0)
    have l1 : sg n (fun i => if K i = o p then 1 else 0) ≤ 1 := by
      by_cases c2 : ∃ i, i < n ∧ K i = o p
      · obtain ⟨i, g1, g2⟩ := c2
        rw [sg_only (f := fun i => if K i = o p then 1 else 0) g1 (fun j g3 g4 => if_neg (fun g5 => g4 (hi j i g3 g1 (g5.trans g2.symm))))]
        split <;> omega
      · rw [sg_zero (fun i g1 => if_neg (fun g2 => c2 ⟨i, g1, g2⟩))]
        omega
    have l2 := sg_put (n := n) (p := p) (f := fun i => if o i = o p then 1 else 0) (g := fun i => if i = p then 0 else if o i = o p then 1 else 0) (by omega) (fun i _ hne => if_neg hne)
    have l3 := sg_get (n := n) (f := fun i => if i = p then 0 else if o i = o p then 1 else 0) h2
    try dsimp only at l2 l3 e
    rw [if_neg (by omega), if_pos e0.symm] at l3
    rw [if_pos rfl, if_pos rfl] at l2
    omega
/-! the window's keys, row by row -/
def wkey (cu N left low h i : Nat) : Nat := kk cu N (left + i / h) (low + i % h)
def inF (x0 y0 x1 y1 x y : Nat) : Bool := decide (x0 ≤ x ∧ x ≤ x1 ∧ y0 ≤ y ∧ y ≤ y1)
theorem wkey_inj {cu N x0 y0 x1 y1 : Nat} (hx : x0 ≤ x1) (hy : y0 ≤ y1) (hX : x1 < 2 ^ N) (hY : y1 < 2 ^ N) : inj ((x1 - x0 + 1) * (y1 - y0 + 1)) (wkey cu N x0 y0 (y1 - y0 + 1)) := by
  intro i j hi hj he
  have b1 : ∀ i, i < (x1 - x0 + 1) * (y1 - y0 + 1) → i / (y1 - y0 + 1) < x1 - x0 + 1 := fun i h => Nat.div_lt_of_lt_mul (by rw [Nat.mul_comm]; exact h)
  have b2 : ∀ i, i % (y1 - y0 + 1) < y1 - y0 + 1 := fun i => Nat.mod_lt _ (by omega)
  have := b1 i hi
  have := b1 j hj
  have := b2 i
  have := b2 j
  obtain ⟨e1, e2⟩ := kk_inj (by omega) (by omega) (by omega) (by omega) he
  rw [← Nat.div_add_mod i (y1 - y0 + 1), ← Nat.div_add_mod j (y1 - y0 + 1), show i / (y1 - y0 + 1) = j / (y1 - y0 + 1) by omega, show i % (y1 - y0 + 1) = j % (y1 - y0 + 1) by omega]
theorem wkey_lt {cu N x0 y0 x1 y1 : Nat} (hx : x0 ≤ x1) (hy : y0 ≤ y1) (hX : x1 < 2 ^ N) (hY : y1 < 2 ^ N) {i : Nat} (hi : i < (x1 - x0 + 1) * (y1 - y0 + 1)) : wkey cu N x0 y0 (y1 - y0 + 1) i < 2 ^ N * 2 ^ N := by
  have b1 : i / (y1 - y0 + 1) < x1 - x0 + 1 := Nat.div_lt_of_lt_mul (by rw [Nat.mul_comm]; exact hi)
  have b2 : i % (y1 - y0 + 1) < y1 - y0 + 1 := Nat.mod_lt _ (by omega)
  exact kk_lt (by omega) (by omega)
theorem wkey_mem {cu N x0 y0 x1 y1 : Nat} (hx : x0 ≤ x1) (hy : y0 ≤ y1) (hX : x1 < 2 ^ N) (hY : y1 < 2 ^ N) {k : Nat} (hk : k < 2 ^ N * 2 ^ N) : inF x0 y0 x1 y1 (kc cu N k).1 (kc cu N k).2 = true ↔ ∃ i, i < (x1 - x0 + 1) * (y1 - y0 + 1) ∧ wkey cu N x0 y0 (y1 - y0 + 1) i = k := by
  unfold inF
  rw [decide_eq_true_eq]
  constructor
  · rintro ⟨h1, h2, h3, h4⟩
    refine ⟨(y1 - y0 + 1) * ((kc cu N k).1 - x0) + ((kc cu N k).2 - y0), ?_, ?_⟩
    · have : (y1 - y0 + 1) * ((kc cu N k).1 - x0 + 1) ≤ (y1 - y0 + 1) * (x1 - x0 + 1) := Nat.mul_le_mul_left _ (by omega)
      rw [Nat.mul_add, Nat.mul_one] at this
      rw [Nat.mul_comm (x1 - x0 + 1)]
      omega
    · unfold wkey
      rw [Nat.mul_add_div (by omega), Nat.div_eq_of_lt (by omega), Nat.mul_add_mod, Nat.mod_eq_of_lt (by omega), show x0 + ((kc cu N k).1 - x0 + 0) = (kc cu N k).1 by omega, show y0 + ((kc cu N k).2 - y0) = (kc cu N k).2 by omega]
      exact kk_kc hk
  · rintro ⟨i, hi, he⟩
    have b1 : i / (y1 - y0 + 1) < x1 - x0 + 1 := Nat.div_lt_of_lt_mul (by rw [Nat.mul_comm]; exact hi)
    have b2 : i % (y1 - y0 + 1) < y1 - y0 + 1 := Nat.mod_lt _ (by omega)
    have e := kc_kk (cu := cu) (N := N) (x := x0 + i / (y1 - y0 + 1)) (y := y0 + i % (y1 - y0 + 1)) (by omega) (by omega)
    have he : kk cu N (x0 + i / (y1 - y0 + 1)) (y0 + i % (y1 - y0 + 1)) = k := he
    rw [he] at e
    rw [e]
    dsimp only
    generalize i / (y1 - y0 + 1) = A at b1 ⊢
    generalize i % (y1 - y0 + 1) = B at b2 ⊢
    omega
/-- the sorted keys and the walk over all keys say the same -/
theorem walk_sorted {cu N x0 y0 x1 y1 : Nat} (hx : x0 ≤ x1) (hy : y0 ≤ y1) (hX : x1 < 2 ^ N) (hY : y1 < 2 ^ N) {a : Nat → Nat} (he : eqs ((x1 - x0 + 1) * (y1 - y0 + 1)) (wkey cu N x0 y0 (y1 - y0 + 1)) a) (hs : ∀ p q, p < q → q < (x1 - x0 + 1) * (y1 - y0 + 1) → a p ≤ a q) (w : Int32) :
    (∀ p q, p < q → q < (x1 - x0 + 1) * (y1 - y0 + 1) → a p < a q) ∧ (∀ i, i < (x1 - x0 + 1) * (y1 - y0 + 1) → a i < 2 ^ N * 2 ^ N) ∧ rw_k w (fun k => inF x0 y0 x1 y1 (kc cu N k).1 (kc cu N k).2) (2 ^ N * 2 ^ N) = rw_a w a ((x1 - x0 + 1) * (y1 - y0 + 1)) := by
  have h1 := eqs_strict he (wkey_inj hx hy hX hY) hs
  have h2 : ∀ i, i < (x1 - x0 + 1) * (y1 - y0 + 1) → a i < 2 ^ N * 2 ^ N := by
    intro i hi
    obtain ⟨j, g1, g2⟩ := (eqs_mem he (a i)).1 ⟨i, hi, rfl⟩
    rw [← g2]
    exact wkey_lt hx hy hX hY g1
  refine ⟨h1, h2, rw_ka h1 (fun k hk => ?_) h2⟩
  rw [wkey_mem hx hy hX hY hk, eqs_mem he k]
end
section
/-! a row of the class: keys rise strictly; what keep and drop do to it. The reference's row: what put and take do -/
abbrev rS : Type := Nat × (Nat → Nat) × (Nat → Nat) × (Nat → Nat)
def bd (K : Nat → Nat) : Prop := ∀ j, K j < 2147483648
theorem bd_up {K : Nat → Nat} {p v : Nat} (h : bd K) (hv : v < 2147483648) : bd (va_up K p v) := by
  intro j
  unfold va_up
  split
  · exact hv
  · exact h j
theorem bd_cpy {K K' : Nat → Nat} {a b n : Nat} (h : bd K) (h' : bd K') : bd (va_cpy K K' a b n) := by
  intro j
  unfold va_cpy
  split
  · exact h _
  · exact h' j
def okr (cu N n : Nat) (K C V : Nat → Nat) : Prop := n ≤ 500 ∧ (∀ i, i < n → C i < 2 ^ N * 2 ^ N ∧ K i = ke cu N (C i) ∧ 1 ≤ V i ∧ V i ≤ 999) ∧ (∀ i j, i < j → j < n → K i < K j)
def atp (n : Nat) (K : Nat → Nat) (key p : Nat) : Prop := p ≤ n ∧ (∀ i, i < p → K i < key) ∧ (p < n → key ≤ K p)
theorem okr.inj {cu N n : Nat} {K C V : Nat → Nat} (h : okr cu N n K C V) : inj n C := by
  intro i j hi hj he
  have a := (h.2.1 i hi).2.1
  have b := (h.2.1 j hj).2.1
  rw [he, ← b] at a
  rcases Nat.lt_trichotomy i j with c | c | c
  · have := h.2.2 i j c hj; omega
  · exact c
  · have := h.2.2 j i c hi; omega
theorem okr.hit {cu N n : Nat} {K C V : Nat → Nat} {c p : Nat} (h : okr cu N n K C V) (hc : c < 2 ^ N * 2 ^ N) (hp : p < n) (he : K p = ke cu N c) : C p = c := ke_inj (h.2.1 p hp).1 hc ((h.2.1 p hp).2.1.symm.trans he)
theorem okr.miss {cu N n : Nat} {K C V : Nat → Nat} {c p : Nat} (h : okr cu N n K C V) (ha : atp n K (ke cu N c) p) (hn : ¬ (p < n ∧ K p = ke cu N c)) : ∀ i, i < n → C i ≠ c := by
  intro i hi he
  obtain ⟨a1, a2, a3⟩ := ha
  have b := (h.2.1 i hi).2.1
  rw [he] at b
  rcases Nat.lt_or_ge i p with q | q
  · have := a2 i q; omega
  · apply hn
    have a4 := a3 (by omega)
    refine ⟨by omega, ?_⟩
    rcases Nat.lt_or_ge p i with g | g
    · have := h.2.2 p i g hi; omega
    · have : p = i := by omega
      subst this
      exact b
theorem okr.wt1 {cu N n : Nat} {K C V : Nat → Nat} {c p : Nat} (h : okr cu N n K C V) (hc : c < 2 ^ N * 2 ^ N) (hp : p < n) (he : K p = ke cu N c) : wt n C V c = V p := wt_at h.inj hp (h.hit hc hp he)
theorem okr.wt0 {cu N n : Nat} {K C V : Nat → Nat} {c p : Nat} (h : okr cu N n K C V) (ha : atp n K (ke cu N c) p) (hn : ¬ (p < n ∧ K p = ke cu N c)) : wt n C V c = 0 := wt_none (h.miss ha hn)
def keepR (n : Nat) (K C V : Nat → Nat) (key c w : Nat) (u : rS) : Prop := ∃ p, atp n K key p ∧
  ((p < n ∧ K p = key ∧ u = (n, va_up K p key, va_up C p c, va_up V p w)) ∨
   (¬ (p < n ∧ K p = key) ∧ n < 500 ∧ u = (n + 1, va_up (va_cpy K K p (p + 1) (n - p)) p key, va_up (va_cpy C C p (p + 1) (n - p)) p c, va_up (va_cpy V V p (p + 1) (n - p)) p w)) ∨
   (¬ (p < n ∧ K p = key) ∧ 500 ≤ n ∧ u = (n, K, C, V)))
def dropR (n : Nat) (K C V : Nat → Nat) (key : Nat) (u : rS) : Prop := ∃ p, atp n K key p ∧
  ((p < n ∧ K p = key ∧ u = (n - 1, va_cpy K K (p + 1) p (n - (p + 1)), va_cpy C C (p + 1) p (n - (p + 1)), va_cpy V V (p + 1) p (n - (p + 1)))) ∨
   (¬ (p < n ∧ K p = key) ∧ u = (n, K, C, V)))
/-- the points of u are those of the row, but that the cell c has the weight w -/
def putS (n : Nat) (C V : Nat → Nat) (c w n' : Nat) (C' V' : Nat → Nat) : Prop := ∀ f : Nat → Nat → Nat, sg n' (fun i => f (C' i) (V' i)) + (if wt n C V c = 0 then 0 else f c (wt n C V c)) = sg n (fun i => f (C i) (V i)) + f c w
/-- but that the cell c has none -/
def takS (n : Nat) (C V : Nat → Nat) (c n' : Nat) (C' V' : Nat → Nat) : Prop := ∀ f : Nat → Nat → Nat, sg n' (fun i => f (C' i) (V' i)) + (if wt n C V c = 0 then 0 else f c (wt n C V c)) = sg n (fun i => f (C i) (V i))
theorem ins_lo {K : Nat → Nat} {p n v i : Nat} (h : i < p) : va_up (va_cpy K K p (p + 1) (n - p)) p v i = K i := by
  rw [up_ne (by omega), pk_cpy_out (by omega)]
theorem ins_hi {K : Nat → Nat} {p n v i : Nat} (h : p ≤ i) (hn : i < n) : va_up (va_cpy K K p (p + 1) (n - p)) p v (i + 1) = K i := by
  rw [up_ne (by omega), pk_cpy_in (by omega) (by omega)]
  congr 1
  omega
theorem del_lo {K : Nat → Nat} {p n i : Nat} (h : i < p) : va_cpy K K (p + 1) p (n - (p + 1)) i = K i := pk_cpy_out (by omega)
theorem del_hi {K : Nat → Nat} {p n i : Nat} (h : p ≤ i) (hn : i + 1 < n) : va_cpy K K (p + 1) p (n - (p + 1)) i = K (i + 1) := by
  rw [pk_cpy_in (by omega) (by omega)]
  congr 1
  omega
theorem keep_ok {cu N n : Nat} {K C V : Nat → Nat} {c w : Nat} {u : rS} (h : okr cu N n K C V) (hc : c < 2 ^ N * 2 ^ N) (hw : 1 ≤ w ∧ w ≤ 999) (hk : keepR n K C V (ke cu N c) c w u) (hf : wt n C V c ≠ 0 ∨ n < 500) : okr cu N u.1 u.2.1 u.2.2.1 u.2.2.2 ∧ putS n C V c w u.1 u.2.2.1 u.2.2.2 := by
  obtain ⟨p, ha, ⟨h1, h2, rfl⟩ | ⟨h1, h2, rfl⟩ | ⟨h1, h2, rfl⟩⟩ := hk
  · have hC := h.hit hc h1 h2
    have hV := h.wt1 hc h1 h2
    have hpos := (h.2.1 p h1).2.2
    refine ⟨⟨h.1, fun i hi => ?_, fun i j hi hj => ?_⟩, fun f => ?_⟩
    · (try dsimp only at hi ⊢)
      by_cases e : i = p
      · subst e
        rw [va_up_self, va_up_self, va_up_self]
        exact ⟨hc, rfl, hw⟩
      · rw [up_ne e, up_ne e, up_ne e]
        exact h.2.1 i hi
    · (try dsimp only at hj ⊢)
      have g := h.2.2 i j hi hj
      by_cases e : i = p
      · subst e
        rw [va_up_self, up_ne (by omega), ← h2]
        exact g
      · by_cases e2 : j = p
        · subst e2
          rw [va_up_self, up_ne e, ← h2]
          exact g
        · rw [up_ne e, up_ne e2]
          exact g
    · (try dsimp only)
      rw [hV, if_neg (by omega)]
      have g := sg_put (n := n) (p := p) (f := fun i => f (C i) (V i)) (g := fun i => f (va_up C p c i) (va_up V p w i)) h1 (fun i _ e => by (try dsimp only); rw [up_ne e, up_ne e])
      (try dsimp only at g)
      rw [va_up_self, va_up_self, hC] at g
      exact g
  · have hV := h.wt0 ha h1
    obtain ⟨a1, a2, a3⟩ := ha
    refine ⟨⟨by (try dsimp only); omega, fun i hi => ?_, fun i j hi hj => ?_⟩, fun f => ?_⟩
    · (try dsimp only at hi ⊢)
      rcases Nat.lt_trichotomy i p with e | e | e
      · rw [ins_lo e, ins_lo e, ins_lo e]
        exact h.2.1 i (by omega)
      · subst e
        rw [va_up_self, va_up_self, va_up_self]
        exact ⟨hc, rfl, hw⟩
      · obtain ⟨j, rfl⟩ : ∃ j, i = j + 1 := ⟨i - 1, by omega⟩
        rw [ins_hi (by omega) (by omega), ins_hi (by omega) (by omega), ins_hi (by omega) (by omega)]
        exact h.2.1 j (by omega)
    · (try dsimp only at hj ⊢)
      rcases Nat.lt_trichotomy j p with e | e | e
      · rw [ins_lo e, ins_lo (by omega)]
        exact h.2.2 i j hi (by omega)
      · subst e
        rw [va_up_self, ins_lo hi]
        exact a2 i hi
      · obtain ⟨j, rfl⟩ : ∃ q, j = q + 1 := ⟨j - 1, by omega⟩
        rw [ins_hi (by omega) (by omega)]
        rcases Nat.lt_trichotomy i p with e2 | e2 | e2
        · rw [ins_lo e2]
          exact h.2.2 i j (by omega) (by omega)
        · subst e2
          rw [va_up_self]
          have b1 := a3 (by omega)
          have b2 : ¬ K i = ke cu N c := fun q => h1 ⟨by omega, q⟩
          rcases Nat.lt_or_ge i j with g | g
          · have := h.2.2 i j g (by omega); omega
          · have : i = j := by omega
            subst this
            omega
        · obtain ⟨i, rfl⟩ : ∃ q, i = q + 1 := ⟨i - 1, by omega⟩
          rw [ins_hi (by omega) (by omega)]
          exact h.2.2 i j (by omega) (by omega)
    · (try dsimp only)
      rw [hV, if_pos rfl]
      have g := sg_ins (n := n) (p := p) (f := fun i => f (C i) (V i)) (g := fun i => f (va_up (va_cpy C C p (p + 1) (n - p)) p c i) (va_up (va_cpy V V p (p + 1) (n - p)) p w i)) a1 (fun i e => by (try dsimp only); rw [ins_lo e, ins_lo e]) (fun i e e2 => by (try dsimp only); rw [ins_hi e e2, ins_hi e e2])
      (try dsimp only at g)
      rw [va_up_self, va_up_self] at g
      exact g
  · have hV := h.wt0 ha h1
    rcases hf with g | g
    · exact absurd hV g
    · omega
theorem drop_ok {cu N n : Nat} {K C V : Nat → Nat} {c : Nat} {u : rS} (h : okr cu N n K C V) (hc : c < 2 ^ N * 2 ^ N) (hk : dropR n K C V (ke cu N c) u) : okr cu N u.1 u.2.1 u.2.2.1 u.2.2.2 ∧ takS n C V c u.1 u.2.2.1 u.2.2.2 := by
  obtain ⟨p, ha, ⟨h1, h2, rfl⟩ | ⟨h1, rfl⟩⟩ := hk
  · have hC := h.hit hc h1 h2
    have hV := h.wt1 hc h1 h2
    have hpos := (h.2.1 p h1).2.2
    have hn := h.1
    refine ⟨⟨by (try dsimp only); omega, fun i hi => ?_, fun i j hi hj => ?_⟩, fun f => ?_⟩
    · (try dsimp only at hi ⊢)
      rcases Nat.lt_or_ge i p with e | e
      · rw [del_lo e, del_lo e, del_lo e]
        exact h.2.1 i (by omega)
      · rw [del_hi e (by omega), del_hi e (by omega), del_hi e (by omega)]
        exact h.2.1 (i + 1) (by omega)
    · (try dsimp only at hj ⊢)
      rcases Nat.lt_or_ge j p with e | e
      · rw [del_lo e, del_lo (by omega)]
        exact h.2.2 i j hi (by omega)
      · rw [del_hi e (by omega)]
        rcases Nat.lt_or_ge i p with e2 | e2
        · rw [del_lo e2]
          exact h.2.2 i (j + 1) (by omega) (by omega)
        · rw [del_hi e2 (by omega)]
          exact h.2.2 (i + 1) (j + 1) (by omega) (by omega)
    · (try dsimp only)
      rw [hV, if_neg (by omega)]
      have g := sg_ins (n := n - 1) (p := p) (g := fun i => f (C i) (V i)) (f := fun i => f (va_cpy C C (p + 1) p (n - (p + 1)) i) (va_cpy V V (p + 1) p (n - (p + 1)) i)) (by omega) (fun i e => by (try dsimp only); rw [del_lo e, del_lo e]) (fun i e e2 => by (try dsimp only); rw [del_hi e (by omega), del_hi e (by omega)])
      rw [show n - 1 + 1 = n by omega] at g
      (try dsimp only at g)
      rw [hC] at g
      exact g.symm
  · have hV := h.wt0 ha h1
    refine ⟨h, fun f => ?_⟩
    (try dsimp only)
    rw [hV, if_pos rfl]
    rfl
/-! the reference's row -/
def okm (N n : Nat) (C V : Nat → Nat) : Prop := n ≤ 500 ∧ (∀ i, i < n → C i < 2 ^ N * 2 ^ N ∧ 1 ≤ V i ∧ V i ≤ 999) ∧ inj n C
def fnd (n : Nat) (C : Nat → Nat) (c k : Nat) : Prop := k ≤ n ∧ (∀ i, i < k → C i ≠ c) ∧ (k < n → C k = c)
theorem okm.wt1 {N n : Nat} {C V : Nat → Nat} {c k : Nat} (h : okm N n C V) (hf : fnd n C c k) (hk : k < n) : wt n C V c = V k := wt_at h.2.2 hk (hf.2.2 hk)
theorem fnd.wt0 {n : Nat} {C V : Nat → Nat} {c k : Nat} (hf : fnd n C c k) (hk : ¬ k < n) : wt n C V c = 0 := wt_none (fun i hi => hf.2.1 i (by omega))
theorem mput_ok {N n : Nat} {C V : Nat → Nat} {c w k : Nat} (h : okm N n C V) (hc : c < 2 ^ N * 2 ^ N) (hw : 1 ≤ w ∧ w ≤ 999) (hf : fnd n C c k) (hk : k < 500) : okm N (if k = n then n + 1 else n) (va_up C k c) (va_up V k w) ∧ putS n C V c w (if k = n then n + 1 else n) (va_up C k c) (va_up V k w) := by
  by_cases e : k = n
  · subst e
    rw [if_pos rfl]
    have hV := hf.wt0 (V := V) (Nat.lt_irrefl k)
    refine ⟨⟨by omega, fun i hi => ?_, fun i j hi hj he => ?_⟩, fun f => ?_⟩
    · by_cases e : i = k
      · subst e
        rw [va_up_self, va_up_self]
        exact ⟨hc, hw⟩
      · rw [up_ne e, up_ne e]
        exact h.2.1 i (by omega)
    · by_cases e : i = k
      · by_cases e2 : j = k
        · omega
        · subst e
          rw [va_up_self, up_ne e2] at he
          exact absurd he.symm (hf.2.1 j (by omega))
      · by_cases e2 : j = k
        · subst e2
          rw [va_up_self, up_ne e] at he
          exact absurd he (hf.2.1 i (by omega))
        · rw [up_ne e, up_ne e2] at he
          exact h.2.2 i j (by omega) (by omega) he
    · rw [hV, if_pos rfl, sg_s, va_up_self, va_up_self, sg_congr (f := fun i => f (va_up C k c i) (va_up V k w i)) (g := fun i => f (C i) (V i)) (fun i hi => by (try dsimp only); rw [up_ne (by omega), up_ne (by omega)])]
      omega
  · rw [if_neg e]
    have hkn : k < n := by have := hf.1; omega
    have hC := hf.2.2 hkn
    have hV := h.wt1 hf hkn
    have hpos := (h.2.1 k hkn).2
    refine ⟨⟨h.1, fun i hi => ?_, fun i j hi hj he => ?_⟩, fun f => ?_⟩
    · by_cases e : i = k
      · subst e
        rw [va_up_self, va_up_self]
        exact ⟨hc, hw⟩
      · rw [up_ne e, up_ne e]
        exact h.2.1 i hi
    · have a : ∀ x, va_up C k c x = C x := fun x => by
        by_cases e : x = k
        · subst e; rw [va_up_self, hC]
        · rw [up_ne e]
      rw [a, a] at he
      exact h.2.2 i j hi hj he
    · rw [hV, if_neg (by omega)]
      have g := sg_put (n := n) (p := k) (f := fun i => f (C i) (V i)) (g := fun i => f (va_up C k c i) (va_up V k w i)) hkn (fun i _ e => by (try dsimp only); rw [up_ne e, up_ne e])
      (try dsimp only at g)
      rw [va_up_self, va_up_self, hC] at g
      exact g
theorem mtake_ok {N n : Nat} {C V : Nat → Nat} {c k : Nat} (h : okm N n C V) (hf : fnd n C c k) (hk : k < n) : okm N (n - 1) (va_up C k (C (n - 1))) (va_up V k (V (n - 1))) ∧ takS n C V c (n - 1) (va_up C k (C (n - 1))) (va_up V k (V (n - 1))) := by
  have hC := hf.2.2 hk
  have hV := h.wt1 hf hk
  have hpos := (h.2.1 k hk).2
  have hn := h.1
  refine ⟨⟨by omega, fun i hi => ?_, fun i j hi hj he => ?_⟩, fun f => ?_⟩
  · by_cases e : i = k
    · subst e
      rw [va_up_self, va_up_self]
      exact h.2.1 (n - 1) (by omega)
    · rw [up_ne e, up_ne e]
      exact h.2.1 i (by omega)
  · by_cases e : i = k
    · by_cases e2 : j = k
      · omega
      · subst e
        rw [va_up_self, up_ne e2] at he
        have := h.2.2 (n - 1) j (by omega) (by omega) he
        omega
    · by_cases e2 : j = k
      · subst e2
        rw [va_up_self, up_ne e] at he
        have := h.2.2 i (n - 1) (by omega) (by omega) he
        omega
      · rw [up_ne e, up_ne e2] at he
        exact h.2.2 i j (by omega) (by omega) he
  · rw [hV, if_neg (by omega)]
    have g := sg_put (n := n) (p := k) (f := fun i => f (C i) (V i)) (g := fun i => f (va_up C k (C (n - 1)) i) (va_up V k (V (n - 1)) i)) hk (fun i _ e => by (try dsimp only); rw [up_ne e, up_ne e])
    obtain ⟨q, rfl⟩ : ∃ q, n = q + 1 := ⟨n - 1, by omega⟩
    rw [Nat.add_sub_cancel] at g ⊢
    rw [sg_s, sg_s] at g
    (try dsimp only at g)
    rw [va_up_self, va_up_self, hC] at g
    rw [sg_s]
    by_cases e : q = k
    · subst e
      rw [va_up_self, va_up_self, hC] at g
      rw [hC]
      omega
    · rw [up_ne e, up_ne e] at g
      omega
theorem same.put {n : Nat} {C V : Nat → Nat} {n' : Nat} {C' V' : Nat → Nat} (h : same n C V n' C' V') {c w a : Nat} {Ca Va : Nat → Nat} {b : Nat} {Cb Vb : Nat → Nat} (h1 : putS n C V c w a Ca Va) (h2 : putS n' C' V' c w b Cb Vb) : same a Ca Va b Cb Vb := by
  intro f
  have e1 := h1 f
  have e2 := h2 f
  rw [← h.wt c, ← h f] at e2
  omega
theorem same.take {n : Nat} {C V : Nat → Nat} {n' : Nat} {C' V' : Nat → Nat} (h : same n C V n' C' V') {c a : Nat} {Ca Va : Nat → Nat} {b : Nat} {Cb Vb : Nat → Nat} (h1 : takS n C V c a Ca Va) (h2 : takS n' C' V' c b Cb Vb) : same a Ca Va b Cb Vb := by
  intro f
  have e1 := h1 f
  have e2 := h2 f
  rw [← h.wt c, ← h f] at e2
  omega
end
section
/-! the window's points in order, and the nearest: what is asked, and that two rows with the same points answer alike -/
abbrev fQ : Type := Nat × Nat × Nat × Nat
def inc (N : Nat) (F : fQ) (c : Nat) : Bool := inF F.1 F.2.1 F.2.2.1 F.2.2.2 (c / 2 ^ N) (c % 2 ^ N)
def ins (N : Nat) (F : fQ) (n : Nat) (C : Nat → Nat) : Nat := sg n (fun i => if inc N F (C i) = true then 1 else 0)
def sum (N : Nat) (F : fQ) (n : Nat) (C V : Nat → Nat) : Nat := sg n (fun i => if inc N F (C i) = true then V i else 0)
theorem same.ins {n : Nat} {C V : Nat → Nat} {n' : Nat} {C' V' : Nat → Nat} (h : same n C V n' C' V') (N : Nat) (F : fQ) : ins N F n C = ins N F n' C' := h (fun c _ => if inc N F c = true then 1 else 0)
theorem same.sum {n : Nat} {C V : Nat → Nat} {n' : Nat} {C' V' : Nat → Nat} (h : same n C V n' C' V') (N : Nat) (F : fQ) : sum N F n C V = sum N F n' C' V' := h (fun c w => if inc N F c = true then w else 0)
/-- how many of the window's points have a lesser key -/
def rk (cu N : Nat) (F : fQ) (n : Nat) (C : Nat → Nat) (k : Nat) : Nat := sg n (fun i => if inc N F (C i) = true ∧ ke cu N (C i) < k then 1 else 0)
theorem rk_le {cu N : Nat} {F : fQ} {n : Nat} {C : Nat → Nat} {k : Nat} : rk cu N F n C k ≤ n := by
  have := sg_le (n := n) (f := fun i => if inc N F (C i) = true ∧ ke cu N (C i) < k then 1 else 0) (g := fun _ => 1) (fun i _ => by (try dsimp only); split <;> omega)
  rwa [sg_one] at this
theorem rk_lt {cu N : Nat} {F : fQ} {n : Nat} {C : Nat → Nat} {k : Nat} {i : Nat} (hi : i < n) (hc : inc N F (C i) = true) (hk : ke cu N (C i) < k) : rk cu N F n C (ke cu N (C i)) < rk cu N F n C k := by
  refine sg_lt (fun j _ => ?_) hi ?_
  · (try dsimp only)
    by_cases h : inc N F (C j) = true ∧ ke cu N (C j) < ke cu N (C i)
    · rw [if_pos h, if_pos ⟨h.1, by omega⟩]
      omega
    · rw [if_neg h]
      omega
  · (try dsimp only)
    rw [if_neg (fun q => Nat.lt_irrefl _ q.2), if_pos ⟨hc, hk⟩]
    omega
theorem same.rk {n : Nat} {C V : Nat → Nat} {n' : Nat} {C' V' : Nat → Nat} (h : same n C V n' C' V') (cu N : Nat) (F : fQ) (k : Nat) : rk cu N F n C k = rk cu N F n' C' k := h (fun c _ => if inc N F c = true ∧ ke cu N c < k then 1 else 0)
def nthS (cu N : Nat) (F : fQ) (n : Nat) (C : Nat → Nat) (i r : Int32) : Prop :=
  (∃ j, j < n ∧ inc N F (C j) = true ∧ nI (rk cu N F n C (ke cu N (C j))) = i ∧ r = nI (C j)) ∨ ((∀ j, j < n → inc N F (C j) = true → nI (rk cu N F n C (ke cu N (C j))) ≠ i) ∧ r = -1)
theorem same.nth {n : Nat} {C V : Nat → Nat} {n' : Nat} {C' V' : Nat → Nat} (h : same n C V n' C' V') {cu N : Nat} {F : fQ} {i r r' : Int32} (hn : n ≤ 500) (hC : ∀ j, j < n → C j < 2 ^ N * 2 ^ N) (h1 : nthS cu N F n C i r) (h2 : nthS cu N F n' C' i r') : r = r' := by
  rcases h1 with ⟨j, a1, a2, a3, rfl⟩ | ⟨a1, rfl⟩
  · rcases h2 with ⟨k, b1, b2, b3, rfl⟩ | ⟨b1, rfl⟩
    · obtain ⟨q, c1, c2, -⟩ := h.sy.ex b1
      rw [← c2] at b2 b3 ⊢
      rw [← h.rk, ← a3, nI_eq (by have := rk_le (cu := cu) (N := N) (F := F) (n := n) (C := C) (k := ke cu N (C q)); omega) (by have := rk_le (cu := cu) (N := N) (F := F) (n := n) (C := C) (k := ke cu N (C j)); omega)] at b3
      rcases Nat.lt_trichotomy (ke cu N (C q)) (ke cu N (C j)) with g | g | g
      · have := rk_lt c1 b2 g; omega
      · rw [ke_inj (hC q c1) (hC j a1) g]
      · have := rk_lt a1 a2 g; omega
    · obtain ⟨q, c1, c2, -⟩ := h.ex a1
      rw [← c2] at a2 a3
      rw [h.rk] at a3
      exact absurd a3 (b1 q c1 a2)
  · rcases h2 with ⟨k, b1, b2, b3, rfl⟩ | ⟨b1, rfl⟩
    · obtain ⟨q, c1, c2, -⟩ := h.sy.ex b1
      rw [← c2] at b2 b3
      rw [← h.rk] at b3
      exact absurd b3 (a1 q c1 b2)
    · rfl
/-- in a row whose keys rise, those before a place are those with a lesser key -/
theorem okr.rkp {cu N n : Nat} {K C V : Nat → Nat} (h : okr cu N n K C V) (F : fQ) {p : Nat} (hp : p < n) : rk cu N F n C (ke cu N (C p)) = ins N F p C := by
  unfold rk ins
  rw [show n = p + (n - p) by omega, sg_split, sg_zero (n := n - p)]
  · rw [Nat.add_zero]
    refine sg_congr (fun i hi => ?_)
    have a := h.2.2 i p hi hp
    rw [(h.2.1 i (by omega)).2.1, (h.2.1 p hp).2.1] at a
    by_cases e : inc N F (C i) = true
    · rw [if_pos ⟨e, a⟩, if_pos e]
    · rw [if_neg (fun q => e q.1), if_neg e]
  · intro i hi
    (try dsimp only)
    rw [if_neg]
    rintro ⟨-, q⟩
    rcases Nat.eq_zero_or_pos i with e | e
    · subst e
      exact Nat.lt_irrefl _ q
    · have a := h.2.2 p (p + i) (by omega) (by omega)
      rw [(h.2.1 p hp).2.1, (h.2.1 (p + i) (by omega)).2.1] at a
      omega
/-- squares of differences, added -/
def sqd (a b : Nat) : Nat := (a - b) * (a - b) + (b - a) * (b - a)
theorem sqd_sy (a b : Nat) : sqd a b = sqd b a := Nat.add_comm _ _
def dq (N x y c : Nat) : Nat := sqd x (c / 2 ^ N) + sqd y (c % 2 ^ N)
def nearS (N x y n : Nat) (C : Nat → Nat) (r : Int32) : Prop :=
  (n = 0 ∧ r = -1) ∨ ∃ j, j < n ∧ r = nI (C j) ∧ ∀ k, k < n → dq N x y (C j) < dq N x y (C k) ∨ (dq N x y (C j) = dq N x y (C k) ∧ ke 1 N (C j) ≤ ke 1 N (C k))
theorem same.near {n : Nat} {C V : Nat → Nat} {n' : Nat} {C' V' : Nat → Nat} (h : same n C V n' C' V') {N x y : Nat} {r r' : Int32} (hC : ∀ j, j < n → C j < 2 ^ N * 2 ^ N) (h1 : nearS N x y n C r) (h2 : nearS N x y n' C' r') : r = r' := by
  have hm := h.many
  rcases h1 with ⟨a1, rfl⟩ | ⟨j, a1, rfl, a2⟩
  · rcases h2 with ⟨b1, rfl⟩ | ⟨k, b1, rfl, b2⟩
    · rfl
    · omega
  · rcases h2 with ⟨b1, rfl⟩ | ⟨k, b1, rfl, b2⟩
    · omega
    · obtain ⟨q, c1, c2, -⟩ := h.sy.ex b1
      obtain ⟨q', d1, d2, -⟩ := h.ex a1
      have e1 := a2 q c1
      have e2 := b2 q' d1
      rw [d2, ← c2] at e2
      rw [← c2]
      congr 1
      refine ke_inj (cu := 1) (hC j a1) (hC q c1) ?_
      omega
theorem sqd_l {a b : Nat} (ha : a < 65536) (hb : b < 65536) : (nI a - nI b).toInt64 * (nI a - nI b).toInt64 = lN (sqd a b) := by
  apply Int64.toInt_inj.mp
  have e1 : (nI a - nI b).toInt = (a : Int) - b := pk_sub_toInt (by omega) (by omega)
  have e2 : (nI a - nI b).toInt64.toInt = (a : Int) - b := by rw [Int32.toInt_toInt64, e1]
  have hs : sqd a b < 8589934592 := by
    unfold sqd
    have h1 : (a - b) * (a - b) ≤ 65535 * 65535 := Nat.mul_le_mul (by omega) (by omega)
    have h2 : (b - a) * (b - a) ≤ 65535 * 65535 := Nat.mul_le_mul (by omega) (by omega)
    omega
  rw [Int64.toInt_mul, e2, pk_lT (by omega)]
  have e3 : ((a : Int) - b) * ((a : Int) - b) = (sqd a b : Int) := by
    unfold sqd
    rcases Nat.le_total a b with h | h
    · obtain ⟨d, rfl⟩ : ∃ d, b = a + d := ⟨b - a, by omega⟩
      rw [show a - (a + d) = 0 by omega, show a + d - a = d by omega]
      have : (a : Int) - ((a + d : Nat) : Int) = -(d : Int) := by omega
      rw [this, Int.neg_mul_neg]
      simp
    · obtain ⟨d, rfl⟩ : ∃ d, a = b + d := ⟨a - b, by omega⟩
      rw [show b - (b + d) = 0 by omega, show b + d - b = d by omega]
      have : ((b + d : Nat) : Int) - (b : Int) = (d : Int) := by omega
      rw [this]
      simp
  rw [e3]
  exact Int.bmod_eq_of_le (by omega) (by omega)
theorem sqd_lt {a b : Nat} (ha : a < 65536) (hb : b < 65536) : sqd a b < 8589934592 := by
  unfold sqd
  have h1 : (a - b) * (a - b) ≤ 65535 * 65535 := Nat.mul_le_mul (by omega) (by omega)
  have h2 : (b - a) * (b - a) ≤ 65535 * 65535 := Nat.mul_le_mul (by omega) (by omega)
  omega
end
section
/-! squares of the grid: missed, held, cut into quarters -/
theorem cs_add (st l q r : Nat) : cs st l (q * (2 ^ l * 2 ^ l) + r) = cs st l r := by
  unfold cs
  rw [wcx_add, hcx_add]
theorem p22 (l : Nat) : 2 ^ (2 * l) = 2 ^ l * 2 ^ l := by rw [Nat.two_mul, Nat.pow_add]
theorem oI_pr {b : Nat} (h : 0 < b) : nI (b - 1) = oI b := by
  cases b with
  | zero => omega
  | succ b => rfl
def sqM (M : Nat → Bool) (F : fQ) (st l x y k : Nat) : Prop := ∀ r, r < 2 ^ l * 2 ^ l → M (k + r) = inF F.1 F.2.1 F.2.2.1 F.2.2.2 (x + (cs st l r).1) (y + (cs st l r).2)
theorem sqM_miss {M : Nat → Bool} {F : fQ} {st l x y k : Nat} (h : sqM M F st l x y k) (hm : F.2.2.1 < x ∨ x + 2 ^ l ≤ F.1 ∨ F.2.2.2 < y ∨ y + 2 ^ l ≤ F.2.1) (w : Int32) : rw_k w M (k + 2 ^ l * 2 ^ l) = rw_k w M k := by
  refine rw_k_no _ (fun j h1 h2 => ?_)
  obtain ⟨r, rfl⟩ : ∃ r, j = k + r := ⟨j - k, by omega⟩
  rw [h r (by omega)]
  obtain ⟨a1, a2⟩ := cs_lt (st := st) (l := l) (k := r)
  unfold inF
  rw [decide_eq_false_iff_not]
  omega
theorem sqM_hold {M : Nat → Bool} {F : fQ} {st l x y k : Nat} (h : sqM M F st l x y k) (h1 : inF F.1 F.2.1 F.2.2.1 F.2.2.2 x y = true) (h2 : inF F.1 F.2.1 F.2.2.1 F.2.2.2 (x + 2 ^ l - 1) (y + 2 ^ l - 1) = true) (w : Int32) : rw_k w M (k + 2 ^ l * 2 ^ l) = rw_j w k (k + 2 ^ l * 2 ^ l) (rw_k w M k) := by
  have hp := p4_pos l
  obtain ⟨n, hn⟩ : ∃ n, 2 ^ l * 2 ^ l = n + 1 := ⟨2 ^ l * 2 ^ l - 1, by omega⟩
  rw [hn]
  refine rw_k_all n (fun j g1 g2 => ?_)
  obtain ⟨r, rfl⟩ : ∃ r, j = k + r := ⟨j - k, by omega⟩
  rw [h r (by omega)]
  obtain ⟨a1, a2⟩ := cs_lt (st := st) (l := l) (k := r)
  unfold inF at h1 h2 ⊢
  rw [decide_eq_true_eq] at h1 h2 ⊢
  omega
/-- one cell is held or missed -/
theorem sq_one {F : fQ} {x y : Nat} (hm : ¬ (F.2.2.1 < x ∨ x + 2 ^ 0 ≤ F.1 ∨ F.2.2.2 < y ∨ y + 2 ^ 0 ≤ F.2.1)) : inF F.1 F.2.1 F.2.2.1 F.2.2.2 x y = true ∧ inF F.1 F.2.1 F.2.2.1 F.2.2.2 (x + 2 ^ 0 - 1) (y + 2 ^ 0 - 1) = true := by
  unfold inF
  rw [decide_eq_true_eq, decide_eq_true_eq]
  omega
theorem sqM_step {M : Nat → Bool} {F : fQ} {st l x y k q : Nat} (hst : st < 5) (hq : q < 4) (h : sqM M F st (l + 1) x y k) : sqM M F (tSS (4 * st + q)) l (x + tQS (4 * st + q) / 2 ^ 1 * 2 ^ l) (y + tQS (4 * st + q) % 2 * 2 ^ l) (k + q * 2 ^ (2 * l)) := by
  intro r hr
  have hb : q * (2 ^ l * 2 ^ l) + r < 2 ^ (l + 1) * 2 ^ (l + 1) := by
    rw [p4_s]
    have : q * (2 ^ l * 2 ^ l) ≤ 3 * (2 ^ l * 2 ^ l) := Nat.mul_le_mul_right _ (by omega)
    omega
  have e := h _ hb
  rw [cs_step hst, dg_of hq hr, cs_add] at e
  rw [p22, Nat.add_assoc, e]
  (try dsimp only)
  rw [Nat.pow_one, Nat.mul_comm (2 ^ l) (tQS (4 * st + q) / 2), Nat.mul_comm (2 ^ l) (tQS (4 * st + q) % 2), Nat.add_assoc, Nat.add_assoc]
theorem sqM_top {F : fQ} {cu N : Nat} (hcu : cu < 2) : sqM (fun k => inF F.1 F.2.1 F.2.2.1 F.2.2.2 (kc cu N k).1 (kc cu N k).2) F (st0 cu) N 0 0 0 := by
  intro r _
  rw [cs_kc hcu, Nat.zero_add, Nat.zero_add, Nat.zero_add]
end
