/-! a row of the class: keys rise strictly; what keep and drop do to it. The reference's row: what put and take do -/
abbrev rS : Type := Nat × (Nat → Nat) × (Nat → Nat) × (Nat → Nat)
def bd (K : Nat → Nat) : Prop := ∀ j, K j < 2147483648
theorem bd_up {K : Nat → Nat} {p v : Nat} (h : bd K) (hv : v < 2147483648) : bd (va_up K p v) := by
  intro j
  unfold va_up
  split
  · exact hv
  · exact h j
theorem bd_cpy {K K' : Nat → Nat} {a b n : Nat} (h : bd K) (h' : bd K') : bd (va_cpy K K' a b n) := by
  intro j
  unfold va_cpy
  split
  · exact h _
  · exact h' j
def okr (cu N n : Nat) (K C V : Nat → Nat) : Prop := n ≤ 500 ∧ (∀ i, i < n → C i < 2 ^ N * 2 ^ N ∧ K i = ke cu N (C i) ∧ 1 ≤ V i ∧ V i ≤ 999) ∧ (∀ i j, i < j → j < n → K i < K j)
def atp (n : Nat) (K : Nat → Nat) (key p : Nat) : Prop := p ≤ n ∧ (∀ i, i < p → K i < key) ∧ (p < n → key ≤ K p)
theorem okr.inj {cu N n : Nat} {K C V : Nat → Nat} (h : okr cu N n K C V) : inj n C := by
  intro i j hi hj he
  have a := (h.2.1 i hi).2.1
  have b := (h.2.1 j hj).2.1
  rw [he, ← b] at a
  rcases Nat.lt_trichotomy i j with c | c | c
  · have := h.2.2 i j c hj; omega
  · exact c
  · have := h.2.2 j i c hi; omega
theorem okr.hit {cu N n : Nat} {K C V : Nat → Nat} {c p : Nat} (h : okr cu N n K C V) (hc : c < 2 ^ N * 2 ^ N) (hp : p < n) (he : K p = ke cu N c) : C p = c := ke_inj (h.2.1 p hp).1 hc ((h.2.1 p hp).2.1.symm.trans he)
theorem okr.miss {cu N n : Nat} {K C V : Nat → Nat} {c p : Nat} (h : okr cu N n K C V) (ha : atp n K (ke cu N c) p) (hn : ¬ (p < n ∧ K p = ke cu N c)) : ∀ i, i < n → C i ≠ c := by
  intro i hi he
  obtain ⟨a1, a2, a3⟩ := ha
  have b := (h.2.1 i hi).2.1
  rw [he] at b
  rcases Nat.lt_or_ge i p with q | q
  · have := a2 i q; omega
  · apply hn
    have a4 := a3 (by omega)
    refine ⟨by omega, ?_⟩
    rcases Nat.lt_or_ge p i with g | g
    · have := h.2.2 p i g hi; omega
    · have : p = i := by omega
      subst this
      exact b
theorem okr.wt1 {cu N n : Nat} {K C V : Nat → Nat} {c p : Nat} (h : okr cu N n K C V) (hc : c < 2 ^ N * 2 ^ N) (hp : p < n) (he : K p = ke cu N c) : wt n C V c = V p := wt_at h.inj hp (h.hit hc hp he)
theorem okr.wt0 {cu N n : Nat} {K C V : Nat → Nat} {c p : Nat} (h : okr cu N n K C V) (ha : atp n K (ke cu N c) p) (hn : ¬ (p < n ∧ K p = ke cu N c)) : wt n C V c = 0 := wt_none (h.miss ha hn)
def keepR (n : Nat) (K C V : Nat → Nat) (key c w : Nat) (u : rS) : Prop := ∃ p, atp n K key p ∧
  ((p < n ∧ K p = key ∧ u = (n, va_up K p key, va_up C p c, va_up V p w)) ∨
   (¬ (p < n ∧ K p = key) ∧ n < 500 ∧ u = (n + 1, va_up (va_cpy K K p (p + 1) (n - p)) p key, va_up (va_cpy C C p (p + 1) (n - p)) p c, va_up (va_cpy V V p (p + 1) (n - p)) p w)) ∨
   (¬ (p < n ∧ K p = key) ∧ 500 ≤ n ∧ u = (n, K, C, V)))
def dropR (n : Nat) (K C V : Nat → Nat) (key : Nat) (u : rS) : Prop := ∃ p, atp n K key p ∧
  ((p < n ∧ K p = key ∧ u = (n - 1, va_cpy K K (p + 1) p (n - (p + 1)), va_cpy C C (p + 1) p (n - (p + 1)), va_cpy V V (p + 1) p (n - (p + 1)))) ∨
   (¬ (p < n ∧ K p = key) ∧ u = (n, K, C, V)))
/-- the points of u are those of the row, but that the cell c has the weight w -/
def putS (n : Nat) (C V : Nat → Nat) (c w n' : Nat) (C' V' : Nat → Nat) : Prop := ∀ f : Nat → Nat → Nat, sg n' (fun i => f (C' i) (V' i)) + (if wt n C V c = 0 then 0 else f c (wt n C V c)) = sg n (fun i => f (C i) (V i)) + f c w
/-- but that the cell c has none -/
def takS (n : Nat) (C V : Nat → Nat) (c n' : Nat) (C' V' : Nat → Nat) : Prop := ∀ f : Nat → Nat → Nat, sg n' (fun i => f (C' i) (V' i)) + (if wt n C V c = 0 then 0 else f c (wt n C V c)) = sg n (fun i => f (C i) (V i))
theorem ins_lo {K : Nat → Nat} {p n v i : Nat} (h : i < p) : va_up (va_cpy K K p (p + 1) (n - p)) p v i = K i := by
  rw [up_ne (by omega), pk_cpy_out (by omega)]
theorem ins_hi {K : Nat → Nat} {p n v i : Nat} (h : p ≤ i) (hn : i < n) : va_up (va_cpy K K p (p + 1) (n - p)) p v (i + 1) = K i := by
  rw [up_ne (by omega), pk_cpy_in (by omega) (by omega)]
  congr 1
  omega
theorem del_lo {K : Nat → Nat} {p n i : Nat} (h : i < p) : va_cpy K K (p + 1) p (n - (p + 1)) i = K i := pk_cpy_out (by omega)
theorem del_hi {K : Nat → Nat} {p n i : Nat} (h : p ≤ i) (hn : i + 1 < n) : va_cpy K K (p + 1) p (n - (p + 1)) i = K (i + 1) := by
  rw [pk_cpy_in (by omega) (by omega)]
  congr 1
  omega
theorem keep_ok {cu N n : Nat} {K C V : Nat → Nat} {c w : Nat} {u : rS} (h : okr cu N n K C V) (hc : c < 2 ^ N * 2 ^ N) (hw : 1 ≤ w ∧ w ≤ 999) (hk : keepR n K C V (ke cu N c) c w u) (hf : wt n C V c ≠ 0 ∨ n < 500) : okr cu N u.1 u.2.1 u.2.2.1 u.2.2.2 ∧ putS n C V c w u.1 u.2.2.1 u.2.2.2 := by
  obtain ⟨p, ha, ⟨h1, h2, rfl⟩ | ⟨h1, h2, rfl⟩ | ⟨h1, h2, rfl⟩⟩ := hk
  · have hC := h.hit hc h1 h2
    have hV := h.wt1 hc h1 h2
    have hpos := (h.2.1 p h1).2.2
    refine ⟨⟨h.1, fun i hi => ?_, fun i j hi hj => ?_⟩, fun f => ?_⟩
    · (try dsimp only at hi ⊢)
      by_cases e : i = p
      · subst e
        rw [va_up_self, va_up_self, va_up_self]
        exact ⟨hc, rfl, hw⟩
      · rw [up_ne e, up_ne e, up_ne e]
        exact h.2.1 i hi
    · (try dsimp only at hj ⊢)
      have g := h.2.2 i j hi hj
      by_cases e : i = p
      · subst e
        rw [va_up_self, up_ne (by omega), ← h2]
        exact g
      · by_cases e2 : j = p
        · subst e2
          rw [va_up_self, up_ne e, ← h2]
          exact g
        · rw [up_ne e, up_ne e2]
          exact g
    · (try dsimp only)
      rw [hV, if_neg (by omega)]
      have g := sg_put (n := n) (p := p) (f := fun i => f (C i) (V i)) (g := fun i => f (va_up C p c i) (va_up V p w i)) h1 (fun i _ e => by (try dsimp only); rw [up_ne e, up_ne e])
      (try dsimp only at g)
      rw [va_up_self, va_up_self, hC] at g
      exact g
  · have hV := h.wt0 ha h1
    obtain ⟨a1, a2, a3⟩ := ha
    refine ⟨⟨by (try dsimp only); omega, fun i hi => ?_, fun i j hi hj => ?_⟩, fun f => ?_⟩
    · (try dsimp only at hi ⊢)
      rcases Nat.lt_trichotomy i p with e | e | e
      · rw [ins_lo e, ins_lo e, ins_lo e]
        exact h.2.1 i (by omega)
      · subst e
        rw [va_up_self, va_up_self, va_up_self]
        exact ⟨hc, rfl, hw⟩
      · obtain ⟨j, rfl⟩ : ∃ j, i = j + 1 := ⟨i - 1, by omega⟩
        rw [ins_hi (by omega) (by omega), ins_hi (by omega) (by omega), ins_hi (by omega) (by omega)]
        exact h.2.1 j (by omega)
    · (try dsimp only at hj ⊢)
      rcases Nat.lt_trichotomy j p with e | e | e
      · rw [ins_lo e, ins_lo (by omega)]
        exact h.2.2 i j hi (by omega)
      · subst e
        rw [va_up_self, ins_lo hi]
        exact a2 i hi
      · obtain ⟨j, rfl⟩ : ∃ q, j = q + 1 := ⟨j - 1, by omega⟩
        rw [ins_hi (by omega) (by omega)]
        rcases Nat.lt_trichotomy i p with e2 | e2 | e2
        · rw [ins_lo e2]
          exact h.2.2 i j (by omega) (by omega)
        · subst e2
          rw [va_up_self]
          have b1 := a3 (by omega)
          have b2 : ¬ K i = ke cu N c := fun q => h1 ⟨by omega, q⟩
          rcases Nat.lt_or_ge i j with g | g
          · have := h.2.2 i j g (by omega); omega
          · have : i = j := by omega
            subst this
            omega
        · obtain ⟨i, rfl⟩ : ∃ q, i = q + 1 := ⟨i - 1, by omega⟩
          rw [ins_hi (by omega) (by omega)]
          exact h.2.2 i j (by omega) (by omega)
    · (try dsimp only)
      rw [hV, if_pos rfl]
      have g := sg_ins (n := n) (p := p) (f := fun i => f (C i) (V i)) (g := fun i => f (va_up (va_cpy C C p (p + 1) (n - p)) p c i) (va_up (va_cpy V V p (p + 1) (n - p)) p w i)) a1 (fun i e => by (try dsimp only); rw [ins_lo e, ins_lo e]) (fun i e e2 => by (try dsimp only); rw [ins_hi e e2, ins_hi e e2])
      (try dsimp only at g)
      rw [va_up_self, va_up_self] at g
      exact g
  · have hV := h.wt0 ha h1
    rcases hf with g | g
    · exact absurd hV g
    · omega
theorem drop_ok {cu N n : Nat} {K C V : Nat → Nat} {c : Nat} {u : rS} (h : okr cu N n K C V) (hc : c < 2 ^ N * 2 ^ N) (hk : dropR n K C V (ke cu N c) u) : okr cu N u.1 u.2.1 u.2.2.1 u.2.2.2 ∧ takS n C V c u.1 u.2.2.1 u.2.2.2 := by
  obtain ⟨p, ha, ⟨h1, h2, rfl⟩ | ⟨h1, rfl⟩⟩ := hk
  · have hC := h.hit hc h1 h2
    have hV := h.wt1 hc h1 h2
    have hpos := (h.2.1 p h1).2.2
    have hn := h.1
    refine ⟨⟨by (try dsimp only); omega, fun i hi => ?_, fun i j hi hj => ?_⟩, fun f => ?_⟩
    · (try dsimp only at hi ⊢)
      rcases Nat.lt_or_ge i p with e | e
      · rw [del_lo e, del_lo e, del_lo e]
        exact h.2.1 i (by omega)
      · rw [del_hi e (by omega), del_hi e (by omega), del_hi e (by omega)]
        exact h.2.1 (i + 1) (by omega)
    · (try dsimp only at hj ⊢)
      rcases Nat.lt_or_ge j p with e | e
      · rw [del_lo e, del_lo (by omega)]
        exact h.2.2 i j hi (by omega)
      · rw [del_hi e (by omega)]
        rcases Nat.lt_or_ge i p with e2 | e2
        · rw [del_lo e2]
          exact h.2.2 i (j + 1) (by omega) (by omega)
        · rw [del_hi e2 (by omega)]
          exact h.2.2 (i + 1) (j + 1) (by omega) (by omega)
    · (try dsimp only)
      rw [hV, if_neg (by omega)]
      have g := sg_ins (n := n - 1) (p := p) (g := fun i => f (C i) (V i)) (f := fun i => f (va_cpy C C (p + 1) p (n - (p + 1)) i) (va_cpy V V (p + 1) p (n - (p + 1)) i)) (by omega) (fun i e => by (try dsimp only); rw [del_lo e, del_lo e]) (fun i e e2 => by (try dsimp only); rw [del_hi e (by omega), del_hi e (by omega)])
      rw [show n - 1 + 1 = n by omega] at g
      (try dsimp only at g)
      rw [hC] at g
      exact g.symm
  · have hV := h.wt0 ha h1
    refine ⟨h, fun f => ?_⟩
    (try dsimp only)
    rw [hV, if_pos rfl]
    rfl
/-! the reference's row -/
def okm (N n : Nat) (C V : Nat → Nat) : Prop := n ≤ 500 ∧ (∀ i, i < n → C i < 2 ^ N * 2 ^ N ∧ 1 ≤ V i ∧ V i ≤ 999) ∧ inj n C
def fnd (n : Nat) (C : Nat → Nat) (c k : Nat) : Prop := k ≤ n ∧ (∀ i, i < k → C i ≠ c) ∧ (k < n → C k = c)
theorem okm.wt1 {N n : Nat} {C V : Nat → Nat} {c k : Nat} (h : okm N n C V) (hf : fnd n C c k) (hk : k < n) : wt n C V c = V k := wt_at h.2.2 hk (hf.2.2 hk)
theorem fnd.wt0 {n : Nat} {C V : Nat → Nat} {c k : Nat} (hf : fnd n C c k) (hk : ¬ k < n) : wt n C V c = 0 := wt_none (fun i hi => hf.2.1 i (by omega))
theorem mput_ok {N n : Nat} {C V : Nat → Nat} {c w k : Nat} (h : okm N n C V) (hc : c < 2 ^ N * 2 ^ N) (hw : 1 ≤ w ∧ w ≤ 999) (hf : fnd n C c k) (hk : k < 500) : okm N (if k = n then n + 1 else n) (va_up C k c) (va_up V k w) ∧ putS n C V c w (if k = n then n + 1 else n) (va_up C k c) (va_up V k w) := by
  by_cases e : k = n
  · subst e
    rw [if_pos rfl]
    have hV := hf.wt0 (V := V) (Nat.lt_irrefl k)
    refine ⟨⟨by omega, fun i hi => ?_, fun i j hi hj he => ?_⟩, fun f => ?_⟩
    · by_cases e : i = k
      · subst e
        rw [va_up_self, va_up_self]
        exact ⟨hc, hw⟩
      · rw [up_ne e, up_ne e]
        exact h.2.1 i (by omega)
    · by_cases e : i = k
      · by_cases e2 : j = k
        · omega
        · subst e
          rw [va_up_self, up_ne e2] at he
          exact absurd he.symm (hf.2.1 j (by omega))
      · by_cases e2 : j = k
        · subst e2
          rw [va_up_self, up_ne e] at he
          exact absurd he (hf.2.1 i (by omega))
        · rw [up_ne e, up_ne e2] at he
          exact h.2.2 i j (by omega) (by omega) he
    · rw [hV, if_pos rfl, sg_s, va_up_self, va_up_self, sg_congr (f := fun i => f (va_up C k c i) (va_up V k w i)) (g := fun i => f (C i) (V i)) (fun i hi => by (try dsimp only); rw [up_ne (by omega), up_ne (by omega)])]
      omega
  · rw [if_neg e]
    have hkn : k < n := by have := hf.1; omega
    have hC := hf.2.2 hkn
    have hV := h.wt1 hf hkn
    have hpos := (h.2.1 k hkn).2
    refine ⟨⟨h.1, fun i hi => ?_, fun i j hi hj he => ?_⟩, fun f => ?_⟩
    · by_cases e : i = k
      · subst e
        rw [va_up_self, va_up_self]
        exact ⟨hc, hw⟩
      · rw [up_ne e, up_ne e]
        exact h.2.1 i hi
    · have a : ∀ x, va_up C k c x = C x := fun x => by
        by_cases e : x = k
        · subst e; rw [va_up_self, hC]
        · rw [up_ne e]
      rw [a, a] at he
      exact h.2.2 i j hi hj he
    · rw [hV, if_neg (by omega)]
      have g := sg_put (n := n) (p := k) (f := fun i => f (C i) (V i)) (g := fun i => f (va_up C k c i) (va_up V k w i)) hkn (fun i _ e => by (try dsimp only); rw [up_ne e, up_ne e])
      (try dsimp only at g)
      rw [va_up_self, va_up_self, hC] at g
      exact g
theorem mtake_ok {N n : Nat} {C V : Nat → Nat} {c k : Nat} (h : okm N n C V) (hf : fnd n C c k) (hk : k < n) : okm N (n - 1) (va_up C k (C (n - 1))) (va_up V k (V (n - 1))) ∧ takS n C V c (n - 1) (va_up C k (C (n - 1))) (va_up V k (V (n - 1))) := by
  have hC := hf.2.2 hk
  have hV := h.wt1 hf hk
  have hpos := (h.2.1 k hk).2
  have hn := h.1
  refine ⟨⟨by omega, fun i hi => ?_, fun i j hi hj he => ?_⟩, fun f => ?_⟩
  · by_cases e : i = k
    · subst e
      rw [va_up_self, va_up_self]
      exact h.2.1 (n - 1) (by omega)
    · rw [up_ne e, up_ne e]
      exact h.2.1 i (by omega)
  · by_cases e : i = k
    · by_cases e2 : j = k
      · omega
      · subst e
        rw [va_up_self, up_ne e2] at he
        have := h.2.2 (n - 1) j (by omega) (by omega) he
        omega
    · by_cases e2 : j = k
      · subst e2
        rw [va_up_self, up_ne e] at he
        have := h.2.2 i (n - 1) (by omega) (by omega) he
        omega
      · rw [up_ne e, up_ne e2] at he
        exact h.2.2 i j (by omega) (by omega) he
  · rw [hV, if_neg (by omega)]
    have g := sg_put (n := n) (p := k) (f := fun i => f (C i) (V i)) (g := fun i => f (va_up C k (C (n - 1)) i) (va_up V k (V (n - 1)) i)) hk (fun i _ e => by (try dsimp only); rw [up_ne e, up_ne e])
    obtain ⟨q, rfl⟩ : ∃ q, n = q + 1 := ⟨n - 1, by omega⟩
    rw [Nat.add_sub_cancel] at g ⊢
    rw [sg_s, sg_s] at g
    (try dsimp only at g)
    rw [va_up_self, va_up_self, hC] at g
    rw [sg_s]
    by_cases e : q = k
    · subst e
      rw [va_up_self, va_up_self, hC] at g
      rw [hC]
      omega
    · rw [up_ne e, up_ne e] at g
      omega
theorem same.put {n : Nat} {C V : Nat → Nat} {n' : Nat} {C' V' : Nat → Nat} (h : same n C V n' C' V') {c w a : Nat} {Ca Va : Nat → Nat} {b : Nat} {Cb Vb : Nat → Nat} (h1 : putS n C V c w a Ca Va) (h2 : putS n' C' V' c w b Cb Vb) : same a Ca Va b Cb Vb := by
  intro f
  have e1 := h1 f
  have e2 := h2 f
  rw [← h.wt c, ← h f] at e2
  omega
theorem same.take {n : Nat} {C V : Nat → Nat} {n' : Nat} {C' V' : Nat → Nat} (h : same n C V n' C' V') {c a : Nat} {Ca Va : Nat → Nat} {b : Nat} {Cb Vb : Nat → Nat} (h1 : takS n C V c a Ca Va) (h2 : takS n' C' V' c b Cb Vb) : same a Ca Va b Cb Vb := by
  intro f
  have e1 := h1 f
  have e2 := h2 f
  rw [← h.wt c, ← h f] at e2
  omega
