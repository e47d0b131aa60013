/-! what put and take make of the class's state -/
theorem keep_bd {n : Nat} {K C V : Nat → Nat} {key c w : Nat} {u : rS} (h : bdr (n, K, C, V)) (hk : key < 2147483648) (hc : c < 2147483648) (hw : w < 2147483648) (hr : keepR n K C V key c w u) : bdr u := by
  obtain ⟨h1, h2, h3⟩ := h
  obtain ⟨p, ha, ⟨-, -, rfl⟩ | ⟨-, -, rfl⟩ | ⟨-, -, rfl⟩⟩ := hr
  · exact ⟨bd_up h1 hk, bd_up h2 hc, bd_up h3 hw⟩
  · exact ⟨bd_up (bd_cpy h1 h1) hk, bd_up (bd_cpy h2 h2) hc, bd_up (bd_cpy h3 h3) hw⟩
  · exact ⟨h1, h2, h3⟩
theorem drop_bd {n : Nat} {K C V : Nat → Nat} {key : Nat} {u : rS} (h : bdr (n, K, C, V)) (hr : dropR n K C V key u) : bdr u := by
  obtain ⟨h1, h2, h3⟩ := h
  obtain ⟨p, ha, ⟨-, -, rfl⟩ | ⟨-, rfl⟩⟩ := hr
  · exact ⟨bd_cpy h1 h1, bd_cpy h2 h2, bd_cpy h3 h3⟩
  · exact ⟨h1, h2, h3⟩
theorem put_all {L nw nt : Nat} {Kw Cw Vw Kt Ct Vt : Nat → Nat} {F : fQ} {a b k : Nat} {u1 u2 : rS} (h : okC (L, (nw, Kw, Cw, Vw), (nt, Kt, Ct, Vt), F)) (ha : a < 2 ^ L) (hb : b < 2 ^ L) (hk : 1 ≤ k ∧ k ≤ 999) (hf : wt nt Ct Vt (a * 2 ^ L + b) ≠ 0 ∨ nt < 500) (h1 : keepR nw Kw Cw Vw (kk 0 L a b) (a * 2 ^ L + b) k u1) (h2 : keepR nt Kt Ct Vt (kk 1 L a b) (a * 2 ^ L + b) k u2) : okC (L, u1, u2, F) ∧ putS nt Ct Vt (a * 2 ^ L + b) k u2.1 u2.2.2.1 u2.2.2.2 := by
  obtain ⟨hl, hw, ht, bw, bt, hF, hs⟩ := h
  dsimp only at hl hw ht bw bt hF hs
  have hc := (cl_mk ha hb).1
  have h4 := p4_15 hl.2
  have k0 := kk_lt (cu := 0) ha hb
  have k1 := kk_lt (cu := 1) ha hb
  have e0 := ke_mk (cu := 0) ha hb
  have e1 := ke_mk (cu := 1) ha hb
  have bd1 := keep_bd bw (by omega) (by omega) (by omega) h1
  have bd2 := keep_bd bt (by omega) (by omega) (by omega) h2
  rw [← e0] at h1
  rw [← e1] at h2
  have hf' : wt nw Cw Vw (a * 2 ^ L + b) ≠ 0 ∨ nw < 500 := by
    rw [hs.wt, hs.many]
    exact hf
  obtain ⟨g1, p1⟩ := keep_ok hw hc hk h1 hf'
  obtain ⟨g2, p2⟩ := keep_ok ht hc hk h2 hf
  exact ⟨⟨hl, g1, g2, bd1, bd2, hF, same.put hs p1 p2⟩, p2⟩
theorem take_all {L nw nt : Nat} {Kw Cw Vw Kt Ct Vt : Nat → Nat} {F : fQ} {a b : Nat} {u1 u2 : rS} (h : okC (L, (nw, Kw, Cw, Vw), (nt, Kt, Ct, Vt), F)) (ha : a < 2 ^ L) (hb : b < 2 ^ L) (h1 : dropR nw Kw Cw Vw (kk 0 L a b) u1) (h2 : dropR nt Kt Ct Vt (kk 1 L a b) u2) : okC (L, u1, u2, F) ∧ takS nt Ct Vt (a * 2 ^ L + b) u2.1 u2.2.2.1 u2.2.2.2 := by
  obtain ⟨hl, hw, ht, bw, bt, hF, hs⟩ := h
  dsimp only at hl hw ht bw bt hF hs
  have hc := (cl_mk ha hb).1
  have e0 := ke_mk (cu := 0) ha hb
  have e1 := ke_mk (cu := 1) ha hb
  have bd1 := drop_bd bw h1
  have bd2 := drop_bd bt h2
  rw [← e0] at h1
  rw [← e1] at h2
  obtain ⟨g1, p1⟩ := drop_ok hw hc h1
  obtain ⟨g2, p2⟩ := drop_ok ht hc h2
  exact ⟨⟨hl, g1, g2, bd1, bd2, hF, same.take hs p1 p2⟩, p2⟩
theorem okr_0 {cu N : Nat} {K C V : Nat → Nat} : okr cu N 0 K C V := ⟨by omega, fun i hi => absurd hi (Nat.not_lt_zero _), fun i j _ hj => absurd hj (Nat.not_lt_zero _)⟩
theorem okF_0 {L : Nat} : okF L (0, 0, 0, 0) := ⟨Nat.le_refl _, Nat.two_pow_pos L, Nat.le_refl _, Nat.two_pow_pos L⟩
/-- the weight is there: of a row by its key -/
theorem wt_of {L nt : Nat} {Kt Ct Vt : Nat → Nat} {a b q : Nat} {r : Int32} (hrt : okr 1 L nt Kt Ct Vt) (ha : a < 2 ^ L) (hb : b < 2 ^ L) (hat : atp nt Kt (kk 1 L a b) q) (hw : (q < nt ∧ Kt q = kk 1 L a b ∧ r = nI (Vt q)) ∨ (¬ (q < nt ∧ Kt q = kk 1 L a b) ∧ r = nI 0)) : r = nI (wt nt Ct Vt (a * 2 ^ L + b)) ∧ wt nt Ct Vt (a * 2 ^ L + b) ≤ 999 := by
  have hcm := (cl_mk ha hb).1
  have hke := ke_mk (cu := 1) ha hb
  rw [← hke] at hat hw
  rcases hw with ⟨g1, g2, rfl⟩ | ⟨g1, rfl⟩
  · rw [hrt.wt1 hcm g1 g2]
    exact ⟨rfl, (hrt.2.1 q g1).2.2.2⟩
  · rw [hrt.wt0 hat g1]
    exact ⟨rfl, by omega⟩
theorem winO_nI {L a b a' b' : Nat} (hL : L ≤ 15) (ha : a < 2 ^ L) (hb : b < 2 ^ L) (ha' : a' < 2 ^ L) (hb' : b' < 2 ^ L) (h : winO L (nI a) (nI b) (nI a') (nI b')) : a ≤ a' ∧ b ≤ b' := by
  obtain ⟨c, d, c', d', h1, h2, h3, h4, e1, e2, e3, e4⟩ := h
  have := p2_15 hL
  rw [nI_eq (by omega) (by omega)] at e1 e2 e3 e4
  omega
theorem winO_1 {L : Nat} {x0 y0 x1 y1 : Int32} (h : winO L x0 y0 x1 y1) : inC L x0 y0 ∧ inC L x1 y1 := by
  obtain ⟨c, d, c', d', h1, h2, h3, h4, rfl, rfl, rfl, rfl⟩ := h
  exact ⟨⟨c, d, by omega, by omega, rfl, rfl⟩, ⟨c', d', h2, h4, rfl, rfl⟩⟩
theorem begO_nI {j : Nat} (hj : j < 2147483648) (h : begO (nI j)) : 1 ≤ j ∧ j ≤ 15 := by
  obtain ⟨k, h1, h2, h3⟩ := h
  rw [nI_eq hj (by omega)] at h3
  omega
theorem begO_ng {x : Int32} (h : x < 0) : ¬ begO x := by
  rintro ⟨k, h1, h2, rfl⟩
  exact nI_pos (by omega) h
theorem putO_nI {L n : Nat} {C V : Nat → Nat} {a b k : Nat} (hL : L ≤ 15) (ha : a < 2 ^ L) (hb : b < 2 ^ L) (hk : k < 2147483648) (h : putO L n C V (nI a) (nI b) (nI k)) : 1 ≤ k ∧ k ≤ 999 ∧ (wt n C V (a * 2 ^ L + b) ≠ 0 ∨ n < 500) := by
  obtain ⟨a', b', k', h1, h2, h3, h4, e1, e2, e3, h5⟩ := h
  have := p2_15 hL
  rw [nI_eq (by omega) (by omega)] at e1 e2 e3
  subst e1 e2 e3
  exact ⟨h3, h4, h5⟩
theorem putO_c {L n : Nat} {C V : Nat → Nat} {x y w : Int32} (h : putO L n C V x y w) : inC L x y ∧ ¬ w < 0 := by
  obtain ⟨a', b', k', h1, h2, h3, h4, rfl, rfl, rfl, h5⟩ := h
  exact ⟨⟨a', b', h1, h2, rfl, rfl⟩, nI_pos (by omega)⟩
