/-! the class's state and the reference's, side by side: they answer alike, and stay side by side -/
def lkS (u : cS) (v : mS) : Prop := okC u ∧ okMo v ∧ u.1 = v.1 ∧ u.2.2.2 = v.2.2.1 ∧ same u.2.2.1.1 u.2.2.1.2.2.1 u.2.2.1.2.2.2 v.2.1.1 v.2.1.2.1 v.2.1.2.2
theorem keyS_u {L : Nat} {cu x y r r' : Int32} (hL : L ≤ 15) (h : keyS L cu x y r) (h' : keyS L cu x y r') : r = r' := by
  have hp := p2_15 hL
  rcases h with ⟨k, a, b, h1, h2, h3, rfl, rfl, rfl, rfl⟩ | ⟨h, rfl⟩
  · rcases h' with ⟨k', a', b', g1, g2, g3, e1, e2, e3, rfl⟩ | ⟨h', rfl⟩
    · rw [nI_eq (by omega) (by omega)] at e1 e2 e3
      subst e1 e2 e3
      rfl
    · exact absurd ⟨⟨k, h1, rfl⟩, ⟨a, b, h2, h3, rfl, rfl⟩⟩ h'
  · rcases h' with ⟨k', a', b', g1, g2, g3, rfl, rfl, rfl, rfl⟩ | ⟨h', rfl⟩
    · exact absurd ⟨⟨k', g1, rfl⟩, ⟨a', b', g2, g3, rfl, rfl⟩⟩ h
    · rfl
theorem cellS_u {L : Nat} {cu x r r' : Int32} (hL : L ≤ 15) (h : cellS L cu x r) (h' : cellS L cu x r') : r = r' := by
  have hp := p4_15 hL
  rcases h with ⟨k, j, h1, h2, rfl, rfl, rfl⟩ | ⟨h, rfl⟩
  · rcases h' with ⟨k', j', g1, g2, e1, e2, rfl⟩ | ⟨h', rfl⟩
    · rw [nI_eq (by omega) (by omega)] at e1 e2
      subst e1 e2
      rfl
    · exact absurd ⟨⟨k, h1, rfl⟩, ⟨j, h2, rfl⟩⟩ h'
  · rcases h' with ⟨k', j', g1, g2, rfl, rfl, rfl⟩ | ⟨h', rfl⟩
    · exact absurd ⟨⟨k', g1, rfl⟩, ⟨j', g2, rfl⟩⟩ h
    · rfl
theorem atS_u {L n : Nat} {C V : Nat → Nat} {n' : Nat} {C' V' : Nat → Nat} {x y r r' : Int32} (hL : L ≤ 15) (hs : same n C V n' C' V') (h : atS L n C V x y r) (h' : atS L n' C' V' x y r') : r = r' := by
  have hp := p2_15 hL
  rcases h with ⟨a, b, h2, h3, rfl, rfl, rfl⟩ | ⟨h, rfl⟩
  · rcases h' with ⟨a', b', g2, g3, e2, e3, rfl⟩ | ⟨h', rfl⟩
    · rw [nI_eq (by omega) (by omega)] at e2 e3
      subst e2 e3
      rw [hs.wt]
    · exact absurd ⟨a, b, h2, h3, rfl, rfl⟩ h'
  · rcases h' with ⟨a', b', g2, g3, rfl, rfl, rfl⟩ | ⟨h', rfl⟩
    · exact absurd ⟨a', b', g2, g3, rfl, rfl⟩ h
    · rfl
theorem nearQ_u {L n : Nat} {C V : Nat → Nat} {n' : Nat} {C' V' : Nat → Nat} {x y r r' : Int32} (hL : L ≤ 15) (hs : same n C V n' C' V') (hC : ∀ j, j < n → C j < 2 ^ L * 2 ^ L) (h : nearQ L n C x y r) (h' : nearQ L n' C' x y r') : r = r' := by
  have hp := p2_15 hL
  rcases h with ⟨a, b, h2, h3, rfl, rfl, h4⟩ | ⟨h, rfl⟩
  · rcases h' with ⟨a', b', g2, g3, e2, e3, g4⟩ | ⟨h', rfl⟩
    · rw [nI_eq (by omega) (by omega)] at e2 e3
      subst e2 e3
      exact hs.near hC h4 g4
    · exact absurd ⟨a, b, h2, h3, rfl, rfl⟩ h'
  · rcases h' with ⟨a', b', g2, g3, rfl, rfl, -⟩ | ⟨h', rfl⟩
    · exact absurd ⟨a', b', g2, g3, rfl, rfl⟩ h
    · rfl
theorem nthQ_u {L : Nat} {F : fQ} {nw nt n : Nat} {Cw Vw Ct Vt C V : Nat → Nat} {cu i r r' : Int32} (hw : same nw Cw Vw n C V) (ht : same nt Ct Vt n C V) (hn : n ≤ 500) (hC : ∀ j, j < n → C j < 2 ^ L * 2 ^ L) (h : nthQ L F nw Cw nt Ct cu i r) (h' : nthQ L F n C n C cu i r') : r = r' := by
  have e01 : nI 0 ≠ nI 1 := by decide
  rcases h with ⟨rfl, h⟩ | ⟨rfl, h⟩ | ⟨h, rfl⟩
  · rcases h' with ⟨-, h'⟩ | ⟨e, -⟩ | ⟨h', -⟩
    · exact (hw.sy.nth hn hC h' h).symm
    · exact absurd e e01
    · exact absurd cuO_0 h'
  · rcases h' with ⟨e, -⟩ | ⟨-, h'⟩ | ⟨h', -⟩
    · exact absurd e.symm e01
    · exact (ht.sy.nth hn hC h' h).symm
    · exact absurd cuO_1 h'
  · rcases h' with ⟨rfl, -⟩ | ⟨rfl, -⟩ | ⟨-, rfl⟩
    · exact absurd cuO_0 h
    · exact absurd cuO_1 h
    · rfl
theorem runsS_u {L : Nat} {F : fQ} {cu r r' : Int32} (h : runsS L F cu r) (h' : runsS L F cu r') : r = r' := by
  rcases h with ⟨k, h1, rfl, h2, rfl⟩ | ⟨h, rfl⟩
  · rcases h' with ⟨k', g1, e, g2, rfl⟩ | ⟨h', rfl⟩
    · rw [nI_eq (by omega) (by omega)] at e
      subst e
      rfl
    · exact absurd ⟨⟨k, h1, rfl⟩, h2⟩ h'
  · rcases h' with ⟨k', g1, rfl, g2, rfl⟩ | ⟨h', rfl⟩
    · exact absurd ⟨⟨k', g1, rfl⟩, g2⟩ h
    · rfl
theorem runS_u {L : Nat} {F : fQ} {cu i wh r r' : Int32} (h : runS L F cu i wh r) (h' : runS L F cu i wh r') : r = r' := by
  have e01 : nI 0 ≠ nI 1 := by decide
  rcases h with ⟨k, j, h1, rfl, hj, rfl, h2, h3⟩ | ⟨h, rfl⟩
  · rcases h' with ⟨k', j', g1, e, gj, e', g2, g3⟩ | ⟨h', rfl⟩
    · rw [nI_eq (by omega) (by omega)] at e
      rw [nI_eq (by omega) (by omega)] at e'
      subst e e'
      rcases h3 with ⟨rfl, rfl⟩ | ⟨rfl, rfl⟩
      · rcases g3 with ⟨-, rfl⟩ | ⟨e, -⟩
        · rfl
        · exact absurd e e01
      · rcases g3 with ⟨e, -⟩ | ⟨-, rfl⟩
        · exact absurd e.symm e01
        · rfl
    · refine absurd ⟨⟨k, h1, rfl⟩, h2, nI_pos (by omega), ?_⟩ h'
      rcases h3 with ⟨e, -⟩ | ⟨e, -⟩
      · exact Or.inl e
      · exact Or.inr e
  · rcases h' with ⟨k', j', g1, rfl, gj, rfl, g2, g3⟩ | ⟨h', rfl⟩
    · refine absurd ⟨⟨k', g1, rfl⟩, g2, nI_pos (by omega), ?_⟩ h
      rcases g3 with ⟨e, -⟩ | ⟨e, -⟩
      · exact Or.inl e
      · exact Or.inr e
    · rfl
theorem lk_begin {u : cS} {v : mS} {fr : Nat} {x r r' : Int32} {u' : cS × Nat} {v' : mS} (h : lkS u v)
    (h1 : (∃ j, 1 ≤ j ∧ j ≤ 15 ∧ x = nI j ∧ r = 1 ∧ u'.1 = (j, (0, u.2.1.2.1, u.2.1.2.2.1, u.2.1.2.2.2), (0, u.2.2.1.2.1, u.2.2.1.2.2.1, u.2.2.1.2.2.2), (0, 0, 0, 0))) ∨ (¬ begO x ∧ r = 0 ∧ u' = (u, fr)))
    (h2 : (∃ j, 1 ≤ j ∧ j ≤ 15 ∧ x = nI j ∧ r' = 1 ∧ v' = (j, (0, v.2.1.2.1, v.2.1.2.2), (0, 0, 0, 0), (v.2.2.2.1, v.2.2.2.2))) ∨ (¬ begO x ∧ r' = 0 ∧ v' = v)) : r = r' ∧ lkS u'.1 v' := by
  obtain ⟨hc, hm, hl, hf, hs⟩ := h
  rcases h1 with ⟨j, a1, a2, rfl, rfl, e⟩ | ⟨a1, rfl, rfl⟩
  · rcases h2 with ⟨j', b1, b2, e', rfl, rfl⟩ | ⟨b1, rfl, rfl⟩
    · rw [nI_eq (by omega) (by omega)] at e'
      subst e'
      rw [e]
      exact ⟨rfl, ⟨⟨a1, a2⟩, okr_0, okr_0, hc.2.2.2.1, hc.2.2.2.2.1, okF_0, same.rf⟩, ⟨⟨a1, a2⟩, ⟨by show 0 ≤ 500; omega, fun i hi => absurd hi (Nat.not_lt_zero _), fun i j hi => absurd hi (Nat.not_lt_zero _)⟩, hm.2.2.1, okF_0, hm.2.2.2.2⟩, rfl, rfl, fun f => rfl⟩
    · exact absurd ⟨j, a1, a2, rfl⟩ b1
  · rcases h2 with ⟨j', b1, b2, rfl, rfl, rfl⟩ | ⟨b1, rfl, rfl⟩
    · exact absurd ⟨j', b1, b2, rfl⟩ a1
    · exact ⟨rfl, hc, hm, hl, hf, hs⟩
theorem lk_window {u : cS} {v : mS} {fr : Nat} {X0 Y0 X1 Y1 r r' : Int32} {u' : cS × Nat} {v' : mS} (h : lkS u v)
    (h1 : (∃ a b a' b', a ≤ a' ∧ a' < 2 ^ u.1 ∧ b ≤ b' ∧ b' < 2 ^ u.1 ∧ X0 = nI a ∧ Y0 = nI b ∧ X1 = nI a' ∧ Y1 = nI b' ∧ r = 1 ∧ u'.1 = (u.1, u.2.1, u.2.2.1, (a, b, a', b'))) ∨ (¬ winO u.1 X0 Y0 X1 Y1 ∧ r = 0 ∧ u' = (u, fr)))
    (h2 : (∃ a b a' b', a ≤ a' ∧ a' < 2 ^ v.1 ∧ b ≤ b' ∧ b' < 2 ^ v.1 ∧ X0 = nI a ∧ Y0 = nI b ∧ X1 = nI a' ∧ Y1 = nI b' ∧ r' = 1 ∧ v' = (v.1, v.2.1, (a, b, a', b'), v.2.2.2)) ∨ (¬ winO v.1 X0 Y0 X1 Y1 ∧ r' = 0 ∧ v' = v)) : r = r' ∧ lkS u'.1 v' := by
  obtain ⟨hc, hm, hl, hf, hs⟩ := h
  have hp := p2_15 hc.1.2
  rw [← hl] at h2
  rcases h1 with ⟨a, b, a', b', z1, z2, z3, z4, rfl, rfl, rfl, rfl, rfl, e⟩ | ⟨a1, rfl, rfl⟩
  · rcases h2 with ⟨c, d, c', d', y1, y2, y3, y4, e1, e2, e3, e4, rfl, rfl⟩ | ⟨b1, rfl, rfl⟩
    · rw [nI_eq (by omega) (by omega)] at e1 e2 e3 e4
      subst e1 e2 e3 e4
      rw [e]
      exact ⟨rfl, ⟨hc.1, hc.2.1, hc.2.2.1, hc.2.2.2.1, hc.2.2.2.2.1, ⟨z1, z2, z3, z4⟩, hc.2.2.2.2.2.2⟩, ⟨⟨hc.1.1, hc.1.2⟩, by show okm u.1 _ _ _; rw [hl]; exact hm.2.1, hm.2.2.1, ⟨z1, z2, z3, z4⟩, hm.2.2.2.2⟩, rfl, rfl, hs⟩
    · exact absurd ⟨a, b, a', b', z1, z2, z3, z4, rfl, rfl, rfl, rfl⟩ b1
  · rcases h2 with ⟨c, d, c', d', y1, y2, y3, y4, rfl, rfl, rfl, rfl, rfl, rfl⟩ | ⟨b1, rfl, rfl⟩
    · exact absurd ⟨c, d, c', d', y1, y2, y3, y4, rfl, rfl, rfl, rfl⟩ a1
    · exact ⟨rfl, hc, hm, hl, hf, hs⟩
theorem lk_put {u : cS} {v : mS} {fr : Nat} {x y w r r' : Int32} {u' : cS × Nat} {v' : mS} (h : lkS u v)
    (h1 : (∃ a b k, a < 2 ^ u.1 ∧ b < 2 ^ u.1 ∧ 1 ≤ k ∧ k ≤ 999 ∧ x = nI a ∧ y = nI b ∧ w = nI k ∧ (wt u.2.2.1.1 u.2.2.1.2.2.1 u.2.2.1.2.2.2 (a * 2 ^ u.1 + b) ≠ 0 ∨ u.2.2.1.1 < 500) ∧ r = nI (wt u.2.2.1.1 u.2.2.1.2.2.1 u.2.2.1.2.2.2 (a * 2 ^ u.1 + b)) ∧ putS u.2.2.1.1 u.2.2.1.2.2.1 u.2.2.1.2.2.2 (a * 2 ^ u.1 + b) k u'.1.2.2.1.1 u'.1.2.2.1.2.2.1 u'.1.2.2.1.2.2.2 ∧ okC u'.1 ∧ u'.1.1 = u.1 ∧ u'.1.2.2.2 = u.2.2.2 ∧ u'.2 = fr) ∨ (¬ putO u.1 u.2.2.1.1 u.2.2.1.2.2.1 u.2.2.1.2.2.2 x y w ∧ r = -1 ∧ u' = (u, fr)))
    (h2 : (∃ a b k, a < 2 ^ v.1 ∧ b < 2 ^ v.1 ∧ 1 ≤ k ∧ k ≤ 999 ∧ x = nI a ∧ y = nI b ∧ w = nI k ∧ (wt v.2.1.1 v.2.1.2.1 v.2.1.2.2 (a * 2 ^ v.1 + b) ≠ 0 ∨ v.2.1.1 < 500) ∧ r' = nI (wt v.2.1.1 v.2.1.2.1 v.2.1.2.2 (a * 2 ^ v.1 + b)) ∧ putS v.2.1.1 v.2.1.2.1 v.2.1.2.2 (a * 2 ^ v.1 + b) k v'.2.1.1 v'.2.1.2.1 v'.2.1.2.2 ∧ okMo v' ∧ v'.1 = v.1 ∧ v'.2.2.1 = v.2.2.1) ∨ (¬ putO v.1 v.2.1.1 v.2.1.2.1 v.2.1.2.2 x y w ∧ r' = -1 ∧ v' = v)) : r = r' ∧ lkS u'.1 v' ∧ u'.2 = fr := by
  obtain ⟨hc, hm, hl, hf, hs⟩ := h
  have hp := p2_15 hc.1.2
  rw [← hl] at h2
  rcases h1 with ⟨a, b, k, z1, z2, z3, z4, rfl, rfl, rfl, z5, rfl, z6, z7, z8, z9, z10⟩ | ⟨a1, rfl, rfl⟩
  · rcases h2 with ⟨c, d, k', y1, y2, y3, y4, e1, e2, e3, y5, rfl, y6, y7, y8, y9⟩ | ⟨b1, rfl, rfl⟩
    · rw [nI_eq (by omega) (by omega)] at e1 e2 e3
      subst e1 e2 e3
      exact ⟨by rw [hs.wt], ⟨z7, y7, z8.trans y8.symm, z9.trans (hf.trans y9.symm), hs.put z6 y6⟩, z10⟩
    · refine absurd ⟨a, b, k, z1, z2, z3, z4, rfl, rfl, rfl, ?_⟩ b1
      rw [← hs.wt, ← hs.many]
      exact z5
  · rcases h2 with ⟨c, d, k', y1, y2, y3, y4, rfl, rfl, rfl, y5, rfl, y6, y7, y8, y9⟩ | ⟨b1, rfl, rfl⟩
    · refine absurd ⟨c, d, k', y1, y2, y3, y4, rfl, rfl, rfl, ?_⟩ a1
      rw [hs.wt, hs.many]
      exact y5
    · exact ⟨rfl, ⟨hc, hm, hl, hf, hs⟩, rfl⟩
theorem lk_take {u : cS} {v : mS} {fr : Nat} {x y r r' : Int32} {u' : cS × Nat} {v' : mS} (h : lkS u v)
    (h1 : (∃ a b, a < 2 ^ u.1 ∧ b < 2 ^ u.1 ∧ x = nI a ∧ y = nI b ∧ r = nI (wt u.2.2.1.1 u.2.2.1.2.2.1 u.2.2.1.2.2.2 (a * 2 ^ u.1 + b)) ∧ takS u.2.2.1.1 u.2.2.1.2.2.1 u.2.2.1.2.2.2 (a * 2 ^ u.1 + b) u'.1.2.2.1.1 u'.1.2.2.1.2.2.1 u'.1.2.2.1.2.2.2 ∧ okC u'.1 ∧ u'.1.1 = u.1 ∧ u'.1.2.2.2 = u.2.2.2 ∧ u'.2 = fr) ∨ (¬ inC u.1 x y ∧ r = -1 ∧ u' = (u, fr)))
    (h2 : (∃ a b, a < 2 ^ v.1 ∧ b < 2 ^ v.1 ∧ x = nI a ∧ y = nI b ∧ r' = nI (wt v.2.1.1 v.2.1.2.1 v.2.1.2.2 (a * 2 ^ v.1 + b)) ∧ takS v.2.1.1 v.2.1.2.1 v.2.1.2.2 (a * 2 ^ v.1 + b) v'.2.1.1 v'.2.1.2.1 v'.2.1.2.2 ∧ okMo v' ∧ v'.1 = v.1 ∧ v'.2.2.1 = v.2.2.1) ∨ (¬ inC v.1 x y ∧ r' = -1 ∧ v' = v)) : r = r' ∧ lkS u'.1 v' ∧ u'.2 = fr := by
  obtain ⟨hc, hm, hl, hf, hs⟩ := h
  have hp := p2_15 hc.1.2
  rw [← hl] at h2
  rcases h1 with ⟨a, b, z1, z2, rfl, rfl, rfl, z6, z7, z8, z9, z10⟩ | ⟨a1, rfl, rfl⟩
  · rcases h2 with ⟨c, d, y1, y2, e1, e2, rfl, y6, y7, y8, y9⟩ | ⟨b1, rfl, rfl⟩
    · rw [nI_eq (by omega) (by omega)] at e1 e2
      subst e1 e2
      exact ⟨by rw [hs.wt], ⟨z7, y7, z8.trans y8.symm, z9.trans (hf.trans y9.symm), hs.take z6 y6⟩, z10⟩
    · exact absurd ⟨a, b, z1, z2, rfl, rfl⟩ b1
  · rcases h2 with ⟨c, d, y1, y2, rfl, rfl, rfl, y6, y7, y8, y9⟩ | ⟨b1, rfl, rfl⟩
    · exact absurd ⟨c, d, y1, y2, rfl, rfl⟩ a1
    · exact ⟨rfl, ⟨hc, hm, hl, hf, hs⟩, rfl⟩
theorem lk_sort {u : cS} {v : mS} {K X : Nat → Nat} (h : lkS u v) (hK : bd K) (hX : bd X) : lkS u (v.1, v.2.1, v.2.2.1, (K, X)) := by
  obtain ⟨hc, hm, hl, hf, hs⟩ := h
  exact ⟨hc, ⟨hm.1, hm.2.1, hm.2.2.1, hm.2.2.2.1, hK, hX⟩, hl, hf, hs⟩
theorem lk_0 : lkS (1, (0, zf, zf, zf), (0, zf, zf, zf), (0, 0, 0, 0)) (1, (0, zf, zf), (0, 0, 0, 0), (zf, zf)) :=
  ⟨⟨⟨Nat.le_refl _, by show 1 ≤ 15; omega⟩, okr_0, okr_0, ⟨bd_zf, bd_zf, bd_zf⟩, ⟨bd_zf, bd_zf, bd_zf⟩, okF_0, same.rf⟩, ⟨⟨Nat.le_refl _, by show 1 ≤ 15; omega⟩, ⟨by show 0 ≤ 500; omega, fun i hi => absurd hi (Nat.not_lt_zero _), fun i j hi => absurd hi (Nat.not_lt_zero _)⟩, ⟨bd_zf, bd_zf⟩, okF_0, bd_zf, bd_zf⟩, rfl, rfl, fun f => rfl⟩
