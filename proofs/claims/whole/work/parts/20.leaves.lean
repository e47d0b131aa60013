/-! the class's leaves: methods that only read (laid by gen/m1.py) -/
set_option maxHeartbeats 4000000 in
set_option maxRecDepth 100000 in
theorem c_CI_isCurve (la : Launch) (G : gG) (x : Int32)  : MetR la y_CI_isCurve b_CI_isCurve 1 .boolean 0 0 [.int x] G [] (fun r => (r = 1 ∧ cuO x) ∨ (r = 0 ∧ ¬ cuO x)) := by
  refine MetR.mk (by decide +kernel) (Nat.le_of_ble_eq_true rfl) ?_
  intro p e s m below meth c Q ls S hP hk hs hret hl
  have hx := S.1
  have hb := S.2.1
  have hl : lv_has ls 1 [(0, .int x)] := hl
  refine lv_iload_n hx hb d_CI_isCurve_0 rfl (lv_at hl 0 rfl) ?_
  refine lv_if_eq hx hb d_CI_isCurve_1 (tgt := 9) (by decide) (fun h1 => ?_) (fun h1 => ?_)
  · refine lv_iconst (v := nI 1) hx hb d_CI_isCurve_9 (by decide) ?_
    refine lv_goto hx hb d_CI_isCurve_10 (tgt := 14) (by decide) ?_
    exact hret _ _ _ (by decide) (Or.inl ⟨by decide, by first | exact ⟨0, by decide, h1⟩ | exact ⟨1, by decide, h6⟩⟩) d_CI_isCurve_14
  · refine lv_iload_n hx hb d_CI_isCurve_4 rfl (lv_at hl 0 rfl) ?_
    refine lv_iconst (v := nI 1) hx hb d_CI_isCurve_5 (by decide) ?_
    refine lv_icmp_ne hx hb d_CI_isCurve_6 (tgt := 13) (by decide) (fun h6 => ?_) (fun h6 => ?_)
    · refine lv_iconst (v := nI 0) hx hb d_CI_isCurve_13 (by decide) ?_
      exact hret _ _ _ (by decide) (Or.inr ⟨by decide, by rintro ⟨k, hk, rfl⟩; have e : k = 0 ∨ k = 1 := (by omega); rcases e with rfl | rfl; exact h1 rfl; exact h6 rfl⟩) d_CI_isCurve_14
    · refine lv_iconst (v := nI 1) hx hb d_CI_isCurve_9 (by decide) ?_
      refine lv_goto hx hb d_CI_isCurve_10 (tgt := 14) (by decide) ?_
      exact hret _ _ _ (by decide) (Or.inl ⟨by decide, by first | exact ⟨0, by decide, h1⟩ | exact ⟨1, by decide, h6⟩⟩) d_CI_isCurve_14
set_option maxHeartbeats 4000000 in
set_option maxRecDepth 100000 in
theorem c_CI_isCell (la : Launch) (G : gG) (o rw rt fr L : Nat) (x y : Int32) (hL : L ≤ 15) : MetR la y_CI_isCell b_CI_isCell 4 .boolean 0 0 [.ref o, .int x, .int y] G [(o, .inr (0, [.ref rw, .ref rt, .int (nI L), .ref fr]))] (fun r => (r = 1 ∧ inC L x y) ∨ (r = 0 ∧ ¬ inC L x y)) := by
  refine MetR.mk (by decide +kernel) (Nat.le_of_ble_eq_true rfl) ?_
  intro p e s m below meth c Q ls S hP hk hs hret hl
  have hx := S.1
  have hb := S.2.1
  have hp := p2_15 hL
  rcases ng x with hx0 | ⟨a, ha, rfl⟩
  · have hl : lv_has ls 4 [(0, .ref o), (1, .int x), (2, .int y)] := hl
    refine lv_iconst (v := nI 1) hx hb d_CI_isCell_0 (by decide) ?_
    refine lv_aload_n hx hb d_CI_isCell_1 rfl (lv_at hl 0 rfl) ?_
    refine y_get S hk hP 0 rfl f_CI_19 rfl d_CI_isCell_2 ?_
    refine x_ishl hx hb d_CI_isCell_5 (by omega) (by omega) ?_
    refine lv_istore_n hx hb d_CI_isCell_6 rfl hl (by decide) rfl (fun ls hl => ?_)
    have hl : lv_has ls 4 [(3, .int (nI (1 * 2 ^ L))), (0, .ref o), (1, .int x), (2, .int y)] := hl
    refine lv_iload_n hx hb d_CI_isCell_7 rfl (lv_at hl 2 rfl) ?_
    refine lv_if_lt hx hb d_CI_isCell_8 (tgt := 29) (by decide) (fun _ => ?_) (fun h => absurd hx0 h)
    refine lv_iconst (v := nI 0) hx hb d_CI_isCell_29 (by decide) ?_
    exact hret _ _ _ (by decide) (Or.inr ⟨by decide, by first | exact inC_n1 hL hx0 | exact inC_n2 hL hy0 | exact inC_g1 hL ha (by omega) | exact inC_g2 hL hb' (by omega)⟩) d_CI_isCell_30
  · rcases ng y with hy0 | ⟨b, hb', rfl⟩
    · have hl : lv_has ls 4 [(0, .ref o), (1, .int (nI a)), (2, .int y)] := hl
      refine lv_iconst (v := nI 1) hx hb d_CI_isCell_0 (by decide) ?_
      refine lv_aload_n hx hb d_CI_isCell_1 rfl (lv_at hl 0 rfl) ?_
      refine y_get S hk hP 0 rfl f_CI_19 rfl d_CI_isCell_2 ?_
      refine x_ishl hx hb d_CI_isCell_5 (by omega) (by omega) ?_
      refine lv_istore_n hx hb d_CI_isCell_6 rfl hl (by decide) rfl (fun ls hl => ?_)
      have hl : lv_has ls 4 [(3, .int (nI (1 * 2 ^ L))), (0, .ref o), (1, .int (nI a)), (2, .int y)] := hl
      refine lv_iload_n hx hb d_CI_isCell_7 rfl (lv_at hl 2 rfl) ?_
      refine lv_if_lt hx hb d_CI_isCell_8 (tgt := 29) (by decide) (fun h => absurd h (nI_pos (by omega))) (fun _ => ?_)
      refine lv_iload_n hx hb d_CI_isCell_11 rfl (lv_at hl 2 rfl) ?_
      refine lv_iload_n hx hb d_CI_isCell_12 rfl (lv_at hl 0 rfl) ?_
      refine x_icmp_ge hx hb d_CI_isCell_13 (tgt := 29) (by decide) (by omega) (by omega) (fun h13 => ?_) (fun h13 => ?_)
      · refine lv_iconst (v := nI 0) hx hb d_CI_isCell_29 (by decide) ?_
        exact hret _ _ _ (by decide) (Or.inr ⟨by decide, by first | exact inC_n1 hL hx0 | exact inC_n2 hL hy0 | exact inC_g1 hL ha (by omega) | exact inC_g2 hL hb' (by omega)⟩) d_CI_isCell_30
      · refine lv_iload_n hx hb d_CI_isCell_16 rfl (lv_at hl 3 rfl) ?_
        refine lv_if_lt hx hb d_CI_isCell_17 (tgt := 29) (by decide) (fun _ => ?_) (fun h => absurd hy0 h)
        refine lv_iconst (v := nI 0) hx hb d_CI_isCell_29 (by decide) ?_
        exact hret _ _ _ (by decide) (Or.inr ⟨by decide, by first | exact inC_n1 hL hx0 | exact inC_n2 hL hy0 | exact inC_g1 hL ha (by omega) | exact inC_g2 hL hb' (by omega)⟩) d_CI_isCell_30
    · have hl : lv_has ls 4 [(0, .ref o), (1, .int (nI a)), (2, .int (nI b))] := hl
      refine lv_iconst (v := nI 1) hx hb d_CI_isCell_0 (by decide) ?_
      refine lv_aload_n hx hb d_CI_isCell_1 rfl (lv_at hl 0 rfl) ?_
      refine y_get S hk hP 0 rfl f_CI_19 rfl d_CI_isCell_2 ?_
      refine x_ishl hx hb d_CI_isCell_5 (by omega) (by omega) ?_
      refine lv_istore_n hx hb d_CI_isCell_6 rfl hl (by decide) rfl (fun ls hl => ?_)
      have hl : lv_has ls 4 [(3, .int (nI (1 * 2 ^ L))), (0, .ref o), (1, .int (nI a)), (2, .int (nI b))] := hl
      refine lv_iload_n hx hb d_CI_isCell_7 rfl (lv_at hl 2 rfl) ?_
      refine lv_if_lt hx hb d_CI_isCell_8 (tgt := 29) (by decide) (fun h => absurd h (nI_pos (by omega))) (fun _ => ?_)
      refine lv_iload_n hx hb d_CI_isCell_11 rfl (lv_at hl 2 rfl) ?_
      refine lv_iload_n hx hb d_CI_isCell_12 rfl (lv_at hl 0 rfl) ?_
      refine x_icmp_ge hx hb d_CI_isCell_13 (tgt := 29) (by decide) (by omega) (by omega) (fun h13 => ?_) (fun h13 => ?_)
      · refine lv_iconst (v := nI 0) hx hb d_CI_isCell_29 (by decide) ?_
        exact hret _ _ _ (by decide) (Or.inr ⟨by decide, by first | exact inC_n1 hL hx0 | exact inC_n2 hL hy0 | exact inC_g1 hL ha (by omega) | exact inC_g2 hL hb' (by omega)⟩) d_CI_isCell_30
      · refine lv_iload_n hx hb d_CI_isCell_16 rfl (lv_at hl 3 rfl) ?_
        refine lv_if_lt hx hb d_CI_isCell_17 (tgt := 29) (by decide) (fun h => absurd h (nI_pos (by omega))) (fun _ => ?_)
        refine lv_iload_n hx hb d_CI_isCell_20 rfl (lv_at hl 3 rfl) ?_
        refine lv_iload_n hx hb d_CI_isCell_21 rfl (lv_at hl 0 rfl) ?_
        refine x_icmp_ge hx hb d_CI_isCell_22 (tgt := 29) (by decide) (by omega) (by omega) (fun h22 => ?_) (fun h22 => ?_)
        · refine lv_iconst (v := nI 0) hx hb d_CI_isCell_29 (by decide) ?_
          exact hret _ _ _ (by decide) (Or.inr ⟨by decide, by first | exact inC_n1 hL hx0 | exact inC_n2 hL hy0 | exact inC_g1 hL ha (by omega) | exact inC_g2 hL hb' (by omega)⟩) d_CI_isCell_30
        · refine lv_iconst (v := nI 1) hx hb d_CI_isCell_25 (by decide) ?_
          refine lv_goto hx hb d_CI_isCell_26 (tgt := 30) (by decide) ?_
          exact hret _ _ _ (by decide) (Or.inl ⟨by decide, inC_nI (by omega) (by omega)⟩) d_CI_isCell_30
set_option maxHeartbeats 4000000 in
set_option maxRecDepth 100000 in
theorem c_CI_isKey (la : Launch) (G : gG) (o rw rt fr L : Nat) (x : Int32) (hL : L ≤ 15) : MetR la y_CI_isKey b_CI_isKey 2 .boolean 0 0 [.ref o, .int x] G [(o, .inr (0, [.ref rw, .ref rt, .int (nI L), .ref fr]))] (fun r => (r = 1 ∧ ∃ k, k < 2 ^ (2 * L) ∧ x = nI k) ∨ (r = 0 ∧ ¬ ∃ k, k < 2 ^ (2 * L) ∧ x = nI k)) := by
  refine MetR.mk (by decide +kernel) (Nat.le_of_ble_eq_true rfl) ?_
  intro p e s m below meth c Q ls S hP hk hs hret hl
  have hx := S.1
  have hb := S.2.1
  have hp := p22_15 hL
  rcases ng x with hx0 | ⟨a, ha, rfl⟩
  · have hl : lv_has ls 2 [(0, .ref o), (1, .int x)] := hl
    refine lv_iload_n hx hb d_CI_isKey_0 rfl (lv_at hl 1 rfl) ?_
    refine lv_if_lt hx hb d_CI_isKey_1 (tgt := 20) (by decide) (fun _ => ?_) (fun h => absurd hx0 h)
    refine lv_iconst (v := nI 0) hx hb d_CI_isKey_20 (by decide) ?_
    exact hret _ _ _ (by decide) (Or.inr ⟨by decide, by first | (rintro ⟨k, hk, rfl⟩; exact nI_pos (by omega) hx0) | (rintro ⟨k, hk, h⟩; rw [nI_eq ha (by omega)] at h; omega)⟩) d_CI_isKey_21
  · have hl : lv_has ls 2 [(0, .ref o), (1, .int (nI a))] := hl
    refine lv_iload_n hx hb d_CI_isKey_0 rfl (lv_at hl 1 rfl) ?_
    refine lv_if_lt hx hb d_CI_isKey_1 (tgt := 20) (by decide) (fun h => absurd h (nI_pos (by omega))) (fun _ => ?_)
    refine lv_iload_n hx hb d_CI_isKey_4 rfl (lv_at hl 1 rfl) ?_
    refine lv_iconst (v := nI 1) hx hb d_CI_isKey_5 (by decide) ?_
    refine lv_iconst (v := nI 2) hx hb d_CI_isKey_6 (by decide) ?_
    refine lv_aload_n hx hb d_CI_isKey_7 rfl (lv_at hl 0 rfl) ?_
    refine y_get S hk hP 0 rfl f_CI_19 rfl d_CI_isKey_8 ?_
    refine x_imul hx hb d_CI_isKey_11 ?_
    refine x_ishl hx hb d_CI_isKey_12 (by omega) (by omega) ?_
    refine x_icmp_ge hx hb d_CI_isKey_13 (tgt := 20) (by decide) (by omega) (by omega) (fun h13 => ?_) (fun h13 => ?_)
    · refine lv_iconst (v := nI 0) hx hb d_CI_isKey_20 (by decide) ?_
      exact hret _ _ _ (by decide) (Or.inr ⟨by decide, by first | (rintro ⟨k, hk, rfl⟩; exact nI_pos (by omega) hx0) | (rintro ⟨k, hk, h⟩; rw [nI_eq ha (by omega)] at h; omega)⟩) d_CI_isKey_21
    · refine lv_iconst (v := nI 1) hx hb d_CI_isKey_16 (by decide) ?_
      refine lv_goto hx hb d_CI_isKey_17 (tgt := 21) (by decide) ?_
      exact hret _ _ _ (by decide) (Or.inl ⟨by decide, a, by omega, rfl⟩) d_CI_isKey_21
set_option maxHeartbeats 4000000 in
set_option maxRecDepth 100000 in
theorem c_CI_cellNumber (la : Launch) (G : gG) (o rw rt fr L : Nat) (x y : Nat) (hL : L ≤ 15) (hx' : x < 2 ^ L) : MetR la y_CI_cellNumber b_CI_cellNumber 3 .int 0 0 [.ref o, .int (nI x), .int (nI y)] G [(o, .inr (0, [.ref rw, .ref rt, .int (nI L), .ref fr]))] (fun r => r = nI (x * 2 ^ L + y)) := by
  refine MetR.mk (by decide +kernel) (Nat.le_of_ble_eq_true rfl) ?_
  intro p e s m below meth c Q ls S hP hk hs hret hl
  have hx := S.1
  have hb := S.2.1
  have hp := p2_15 hL
  have hq := p4_15 hL
  have hm : x * 2 ^ L ≤ 2 ^ L * 2 ^ L := Nat.mul_le_mul_right _ (by omega)
  have hl : lv_has ls 3 [(0, .ref o), (1, .int (nI x)), (2, .int (nI y))] := hl
  refine lv_iload_n hx hb d_CI_cellNumber_0 rfl (lv_at hl 1 rfl) ?_
  refine lv_aload_n hx hb d_CI_cellNumber_1 rfl (lv_at hl 0 rfl) ?_
  refine y_get S hk hP 0 rfl f_CI_19 rfl d_CI_cellNumber_2 ?_
  refine x_ishl hx hb d_CI_cellNumber_5 (by omega) (by omega) ?_
  refine lv_iload_n hx hb d_CI_cellNumber_6 rfl (lv_at hl 2 rfl) ?_
  refine x_iadd hx hb d_CI_cellNumber_7 ?_
  exact hret _ _ _ rfl (rfl) d_CI_cellNumber_8
set_option maxHeartbeats 4000000 in
set_option maxRecDepth 100000 in
theorem c_CI_xOf (la : Launch) (G : gG) (o rw rt fr L : Nat) (k : Nat) (hL : L ≤ 15) (hk' : k < 2147483648) : MetR la y_CI_xOf b_CI_xOf 2 .int 0 0 [.ref o, .int (nI k)] G [(o, .inr (0, [.ref rw, .ref rt, .int (nI L), .ref fr]))] (fun r => r = nI (k / 2 ^ L)) := by
  refine MetR.mk (by decide +kernel) (Nat.le_of_ble_eq_true rfl) ?_
  intro p e s m below meth c Q ls S hP hk hs hret hl
  have hx := S.1
  have hb := S.2.1
  have hl : lv_has ls 2 [(0, .ref o), (1, .int (nI k))] := hl
  refine lv_iload_n hx hb d_CI_xOf_0 rfl (lv_at hl 1 rfl) ?_
  refine lv_aload_n hx hb d_CI_xOf_1 rfl (lv_at hl 0 rfl) ?_
  refine y_get S hk hP 0 rfl f_CI_19 rfl d_CI_xOf_2 ?_
  refine x_ishr hx hb d_CI_xOf_5 (by omega) (by omega) ?_
  exact hret _ _ _ rfl (rfl) d_CI_xOf_6
set_option maxHeartbeats 4000000 in
set_option maxRecDepth 100000 in
theorem c_CI_yOf (la : Launch) (G : gG) (o rw rt fr L : Nat) (k : Nat) (hL : L ≤ 15) (hk' : k < 2147483648) : MetR la y_CI_yOf b_CI_yOf 2 .int 0 0 [.ref o, .int (nI k)] G [(o, .inr (0, [.ref rw, .ref rt, .int (nI L), .ref fr]))] (fun r => r = nI (k % 2 ^ L)) := by
  refine MetR.mk (by decide +kernel) (Nat.le_of_ble_eq_true rfl) ?_
  intro p e s m below meth c Q ls S hP hk hs hret hl
  have hx := S.1
  have hb := S.2.1
  have hp := p2_15 hL
  have hpp := Nat.two_pow_pos L
  have hl : lv_has ls 2 [(0, .ref o), (1, .int (nI k))] := hl
  refine lv_iload_n hx hb d_CI_yOf_0 rfl (lv_at hl 1 rfl) ?_
  refine lv_iconst (v := nI 1) hx hb d_CI_yOf_1 (by decide) ?_
  refine lv_aload_n hx hb d_CI_yOf_2 rfl (lv_at hl 0 rfl) ?_
  refine y_get S hk hP 0 rfl f_CI_19 rfl d_CI_yOf_3 ?_
  refine x_ishl hx hb d_CI_yOf_6 (by omega) (by omega) ?_
  refine lv_iconst (v := nI 1) hx hb d_CI_yOf_7 (by decide) ?_
  refine x_isub hx hb d_CI_yOf_8 (by omega) ?_
  refine x_reN (b := 2 ^ L - 1) (by omega) ?_
  refine x_mask hx hb d_CI_yOf_9 (by omega) (by omega) ?_
  exact hret _ _ _ rfl (rfl) d_CI_yOf_10
set_option maxHeartbeats 4000000 in
set_option maxRecDepth 100000 in
theorem c_CI_firstState (la : Launch) (G : gG) (cu : Nat) (hcu : cu < 2) : MetR la y_CI_firstState b_CI_firstState 1 .int 0 0 [.int (nI cu)] G [] (fun r => r = nI (st0 cu)) := by
  refine MetR.mk (by decide +kernel) (Nat.le_of_ble_eq_true rfl) ?_
  intro p e s m below meth c Q ls S hP hk hs hret hl
  have hx := S.1
  have hb := S.2.1
  have hl : lv_has ls 1 [(0, .int (nI cu))] := hl
  refine lv_iload_n hx hb d_CI_firstState_0 rfl (lv_at hl 0 rfl) ?_
  refine x_if_ne hx hb d_CI_firstState_1 (tgt := 8) (by decide) (by omega) (fun h1 => ?_) (fun h1 => ?_)
  · refine lv_iconst (v := nI 0) hx hb d_CI_firstState_8 (by decide) ?_
    exact hret _ _ _ rfl (by rw [st0, if_neg h1]) d_CI_firstState_9
  · refine lv_iconst (v := nI 4) hx hb d_CI_firstState_4 (by decide) ?_
    refine lv_goto hx hb d_CI_firstState_5 (tgt := 9) (by decide) ?_
    exact hret _ _ _ rfl (by rw [st0, if_pos h1]) d_CI_firstState_9
set_option maxHeartbeats 4000000 in
set_option maxRecDepth 100000 in
theorem c_Fr_holds (la : Launch) (G : gG) (fr x0 y0 x1 y1 : Nat) (x y : Nat) (h0 : x0 < 2147483648) (h1 : y0 < 2147483648) (h2 : x1 < 2147483648) (h3 : y1 < 2147483648) (hx' : x < 2147483648) (hy' : y < 2147483648) : MetR la y_Fr_holds b_Fr_holds 3 .boolean 0 0 [.ref fr, .int (nI x), .int (nI y)] G [(fr, .inr (2, [.int (nI x0), .int (nI y0), .int (nI x1), .int (nI y1)]))] (fun r => (r = 1 ∧ inF x0 y0 x1 y1 x y = true) ∨ (r = 0 ∧ inF x0 y0 x1 y1 x y = false)) := by
  refine MetR.mk (by decide +kernel) (Nat.le_of_ble_eq_true rfl) ?_
  intro p e s m below meth c Q ls S hP hk hs hret hl
  have hx := S.1
  have hb := S.2.1
  have hl : lv_has ls 3 [(0, .ref fr), (1, .int (nI x)), (2, .int (nI y))] := hl
  refine lv_iload_n hx hb d_Fr_holds_0 rfl (lv_at hl 1 rfl) ?_
  refine lv_aload_n hx hb d_Fr_holds_1 rfl (lv_at hl 0 rfl) ?_
  refine y_get S hk hP 0 rfl f_Fr_7 rfl d_Fr_holds_2 ?_
  refine x_icmp_lt hx hb d_Fr_holds_5 (tgt := 36) (by decide) (by omega) (by omega) (fun h5 => ?_) (fun h5 => ?_)
  · refine lv_iconst (v := nI 0) hx hb d_Fr_holds_36 (by decide) ?_
    exact hret _ _ _ (by decide) (Or.inr ⟨by decide, decide_eq_false (by omega)⟩) d_Fr_holds_37
  · refine lv_iload_n hx hb d_Fr_holds_8 rfl (lv_at hl 1 rfl) ?_
    refine lv_aload_n hx hb d_Fr_holds_9 rfl (lv_at hl 0 rfl) ?_
    refine y_get S hk hP 0 rfl f_Fr_16 rfl d_Fr_holds_10 ?_
    refine x_icmp_gt hx hb d_Fr_holds_13 (tgt := 36) (by decide) (by omega) (by omega) (fun h13 => ?_) (fun h13 => ?_)
    · refine lv_iconst (v := nI 0) hx hb d_Fr_holds_36 (by decide) ?_
      exact hret _ _ _ (by decide) (Or.inr ⟨by decide, decide_eq_false (by omega)⟩) d_Fr_holds_37
    · refine lv_iload_n hx hb d_Fr_holds_16 rfl (lv_at hl 2 rfl) ?_
      refine lv_aload_n hx hb d_Fr_holds_17 rfl (lv_at hl 0 rfl) ?_
      refine y_get S hk hP 0 rfl f_Fr_13 rfl d_Fr_holds_18 ?_
      refine x_icmp_lt hx hb d_Fr_holds_21 (tgt := 36) (by decide) (by omega) (by omega) (fun h21 => ?_) (fun h21 => ?_)
      · refine lv_iconst (v := nI 0) hx hb d_Fr_holds_36 (by decide) ?_
        exact hret _ _ _ (by decide) (Or.inr ⟨by decide, decide_eq_false (by omega)⟩) d_Fr_holds_37
      · refine lv_iload_n hx hb d_Fr_holds_24 rfl (lv_at hl 2 rfl) ?_
        refine lv_aload_n hx hb d_Fr_holds_25 rfl (lv_at hl 0 rfl) ?_
        refine y_get S hk hP 0 rfl f_Fr_19 rfl d_Fr_holds_26 ?_
        refine x_icmp_gt hx hb d_Fr_holds_29 (tgt := 36) (by decide) (by omega) (by omega) (fun h29 => ?_) (fun h29 => ?_)
        · refine lv_iconst (v := nI 0) hx hb d_Fr_holds_36 (by decide) ?_
          exact hret _ _ _ (by decide) (Or.inr ⟨by decide, decide_eq_false (by omega)⟩) d_Fr_holds_37
        · refine lv_iconst (v := nI 1) hx hb d_Fr_holds_32 (by decide) ?_
          refine lv_goto hx hb d_Fr_holds_33 (tgt := 37) (by decide) ?_
          exact hret _ _ _ (by decide) (Or.inl ⟨by decide, decide_eq_true (by omega)⟩) d_Fr_holds_37
set_option maxHeartbeats 4000000 in
set_option maxRecDepth 100000 in
theorem c_Fr_missesSquare (la : Launch) (G : gG) (fr x0 y0 x1 y1 : Nat) (x y d : Nat) (h0 : x0 < 2147483648) (h1 : y0 < 2147483648) (h2 : x1 < 2147483648) (h3 : y1 < 2147483648) (hx' : x + d < 2147483648) (hy' : y + d < 2147483648) : MetR la y_Fr_missesSquare b_Fr_missesSquare 4 .boolean 0 0 [.ref fr, .int (nI x), .int (nI y), .int (nI d)] G [(fr, .inr (2, [.int (nI x0), .int (nI y0), .int (nI x1), .int (nI y1)]))] (fun r => (r = 1 ∧ (x1 < x ∨ x + d ≤ x0 ∨ y1 < y ∨ y + d ≤ y0)) ∨ (r = 0 ∧ ¬ (x1 < x ∨ x + d ≤ x0 ∨ y1 < y ∨ y + d ≤ y0))) := by
  refine MetR.mk (by decide +kernel) (Nat.le_of_ble_eq_true rfl) ?_
  intro p e s m below meth c Q ls S hP hk hs hret hl
  have hx := S.1
  have hb := S.2.1
  have hl : lv_has ls 4 [(0, .ref fr), (1, .int (nI x)), (2, .int (nI y)), (3, .int (nI d))] := hl
  refine lv_iload_n hx hb d_Fr_missesSquare_0 rfl (lv_at hl 1 rfl) ?_
  refine lv_aload_n hx hb d_Fr_missesSquare_1 rfl (lv_at hl 0 rfl) ?_
  refine y_get S hk hP 0 rfl f_Fr_16 rfl d_Fr_missesSquare_2 ?_
  refine x_icmp_gt hx hb d_Fr_missesSquare_5 (tgt := 36) (by decide) (by omega) (by omega) (fun h5 => ?_) (fun h5 => ?_)
  · refine lv_iconst (v := nI 1) hx hb d_Fr_missesSquare_36 (by decide) ?_
    refine lv_goto hx hb d_Fr_missesSquare_37 (tgt := 41) (by decide) ?_
    exact hret _ _ _ (by decide) (Or.inl ⟨by decide, by omega⟩) d_Fr_missesSquare_41
  · refine lv_iload_n hx hb d_Fr_missesSquare_8 rfl (lv_at hl 1 rfl) ?_
    refine lv_iload_n hx hb d_Fr_missesSquare_9 rfl (lv_at hl 3 rfl) ?_
    refine x_iadd hx hb d_Fr_missesSquare_10 ?_
    refine lv_aload_n hx hb d_Fr_missesSquare_11 rfl (lv_at hl 0 rfl) ?_
    refine y_get S hk hP 0 rfl f_Fr_7 rfl d_Fr_missesSquare_12 ?_
    refine x_icmp_le hx hb d_Fr_missesSquare_15 (tgt := 36) (by decide) (by omega) (by omega) (fun h15 => ?_) (fun h15 => ?_)
    · refine lv_iconst (v := nI 1) hx hb d_Fr_missesSquare_36 (by decide) ?_
      refine lv_goto hx hb d_Fr_missesSquare_37 (tgt := 41) (by decide) ?_
      exact hret _ _ _ (by decide) (Or.inl ⟨by decide, by omega⟩) d_Fr_missesSquare_41
    · refine lv_iload_n hx hb d_Fr_missesSquare_18 rfl (lv_at hl 2 rfl) ?_
      refine lv_aload_n hx hb d_Fr_missesSquare_19 rfl (lv_at hl 0 rfl) ?_
      refine y_get S hk hP 0 rfl f_Fr_19 rfl d_Fr_missesSquare_20 ?_
      refine x_icmp_gt hx hb d_Fr_missesSquare_23 (tgt := 36) (by decide) (by omega) (by omega) (fun h23 => ?_) (fun h23 => ?_)
      · refine lv_iconst (v := nI 1) hx hb d_Fr_missesSquare_36 (by decide) ?_
        refine lv_goto hx hb d_Fr_missesSquare_37 (tgt := 41) (by decide) ?_
        exact hret _ _ _ (by decide) (Or.inl ⟨by decide, by omega⟩) d_Fr_missesSquare_41
      · refine lv_iload_n hx hb d_Fr_missesSquare_26 rfl (lv_at hl 2 rfl) ?_
        refine lv_iload_n hx hb d_Fr_missesSquare_27 rfl (lv_at hl 3 rfl) ?_
        refine x_iadd hx hb d_Fr_missesSquare_28 ?_
        refine lv_aload_n hx hb d_Fr_missesSquare_29 rfl (lv_at hl 0 rfl) ?_
        refine y_get S hk hP 0 rfl f_Fr_13 rfl d_Fr_missesSquare_30 ?_
        refine x_icmp_gt hx hb d_Fr_missesSquare_33 (tgt := 40) (by decide) (by omega) (by omega) (fun h33 => ?_) (fun h33 => ?_)
        · refine lv_iconst (v := nI 0) hx hb d_Fr_missesSquare_40 (by decide) ?_
          exact hret _ _ _ (by decide) (Or.inr ⟨by decide, by omega⟩) d_Fr_missesSquare_41
        · refine lv_iconst (v := nI 1) hx hb d_Fr_missesSquare_36 (by decide) ?_
          refine lv_goto hx hb d_Fr_missesSquare_37 (tgt := 41) (by decide) ?_
          exact hret _ _ _ (by decide) (Or.inl ⟨by decide, by omega⟩) d_Fr_missesSquare_41
set_option maxHeartbeats 4000000 in
set_option maxRecDepth 100000 in
theorem c_Fr_holdsSquare (la : Launch) (G : gG) (fr x0 y0 x1 y1 : Nat) (x y d : Nat) (h0 : x0 < 2147483648) (h1 : y0 < 2147483648) (h2 : x1 < 2147483648) (h3 : y1 < 2147483648) (hd : 0 < d) (hx' : x + d < 2147483648) (hy' : y + d < 2147483648) : MetR la y_Fr_holdsSquare b_Fr_holdsSquare 4 .boolean 1 22 [.ref fr, .int (nI x), .int (nI y), .int (nI d)] G [(fr, .inr (2, [.int (nI x0), .int (nI y0), .int (nI x1), .int (nI y1)]))] (fun r => (r = 1 ∧ inF x0 y0 x1 y1 x y = true ∧ inF x0 y0 x1 y1 (x + d - 1) (y + d - 1) = true) ∨ (r = 0 ∧ ¬ (inF x0 y0 x1 y1 x y = true ∧ inF x0 y0 x1 y1 (x + d - 1) (y + d - 1) = true))) := by
  refine MetR.mk (by decide +kernel) (Nat.le_of_ble_eq_true rfl) ?_
  intro p e s m below meth c Q ls S hP hk hs hret hl
  have hx := S.1
  have hb := S.2.1
  have hl : lv_has ls 4 [(0, .ref fr), (1, .int (nI x)), (2, .int (nI y)), (3, .int (nI d))] := hl
  refine lv_aload_n hx hb d_Fr_holdsSquare_0 rfl (lv_at hl 0 rfl) ?_
  refine lv_iload_n hx hb d_Fr_holdsSquare_1 rfl (lv_at hl 1 rfl) ?_
  refine lv_iload_n hx hb d_Fr_holdsSquare_2 rfl (lv_at hl 2 rfl) ?_
  refine vp_callSi (va_Run.run (run_V S v_Fr_22 (c_Fr_holds la G fr x0 y0 x1 y1 x y h0 h1 h2 h3 (by omega) (by omega)) ⟨rfl, rfl⟩ ⟨Nat.le_of_ble_eq_true rfl, Nat.le_of_ble_eq_true rfl⟩ (preR_V hP hk hs [0] rfl 0 rfl rfl) (rest := []) rfl hl.1 rfl (Nat.le_of_ble_eq_true rfl) d_Fr_holdsSquare_3 ⟨Nat.le_refl _, Nat.le_refl _⟩)) (fun r1 hr1 => ?_)
  rcases hr1 with ⟨rfl, q1⟩ | ⟨rfl, q1⟩
  · refine lv_if_eq hx hb d_Fr_holdsSquare_6 (tgt := 30) (by decide) (fun h => absurd h (by decide)) (fun _ => ?_)
    refine lv_aload_n hx hb d_Fr_holdsSquare_9 rfl (lv_at hl 0 rfl) ?_
    refine lv_iload_n hx hb d_Fr_holdsSquare_10 rfl (lv_at hl 1 rfl) ?_
    refine lv_iload_n hx hb d_Fr_holdsSquare_11 rfl (lv_at hl 3 rfl) ?_
    refine x_iadd hx hb d_Fr_holdsSquare_12 ?_
    refine lv_iconst (v := nI 1) hx hb d_Fr_holdsSquare_13 (by decide) ?_
    refine x_isub hx hb d_Fr_holdsSquare_14 (by omega) ?_
    refine lv_iload_n hx hb d_Fr_holdsSquare_15 rfl (lv_at hl 2 rfl) ?_
    refine lv_iload_n hx hb d_Fr_holdsSquare_16 rfl (lv_at hl 3 rfl) ?_
    refine x_iadd hx hb d_Fr_holdsSquare_17 ?_
    refine lv_iconst (v := nI 1) hx hb d_Fr_holdsSquare_18 (by decide) ?_
    refine x_isub hx hb d_Fr_holdsSquare_19 (by omega) ?_
    refine vp_callSi (va_Run.run (run_V S v_Fr_22 (c_Fr_holds la G fr x0 y0 x1 y1 (x + d - 1) (y + d - 1) h0 h1 h2 h3 (by omega) (by omega)) ⟨rfl, rfl⟩ ⟨Nat.le_of_ble_eq_true rfl, Nat.le_of_ble_eq_true rfl⟩ (preR_V hP hk hs [0] rfl 0 rfl rfl) (rest := []) rfl hl.1 rfl (Nat.le_of_ble_eq_true rfl) d_Fr_holdsSquare_20 ⟨Nat.le_refl _, Nat.le_refl _⟩)) (fun r2 hr2 => ?_)
    rcases hr2 with ⟨rfl, q2⟩ | ⟨rfl, q2⟩
    · refine lv_if_eq hx hb d_Fr_holdsSquare_23 (tgt := 30) (by decide) (fun h => absurd h (by decide)) (fun _ => ?_)
      refine lv_iconst (v := nI 1) hx hb d_Fr_holdsSquare_26 (by decide) ?_
      refine lv_goto hx hb d_Fr_holdsSquare_27 (tgt := 31) (by decide) ?_
      exact hret _ _ _ (by decide) (Or.inl ⟨by decide, q1, q2⟩) d_Fr_holdsSquare_31
    · refine lv_if_eq hx hb d_Fr_holdsSquare_23 (tgt := 30) (by decide) (fun _ => ?_) (fun h => absurd (by decide) h)
      refine lv_iconst (v := nI 0) hx hb d_Fr_holdsSquare_30 (by decide) ?_
      exact hret _ _ _ (by decide) (Or.inr ⟨by decide, by first | (rintro ⟨z, -⟩; rw [q1] at z; cases z; done) | (rintro ⟨-, z⟩; rw [q2] at z; cases z; done)⟩) d_Fr_holdsSquare_31
  · refine lv_if_eq hx hb d_Fr_holdsSquare_6 (tgt := 30) (by decide) (fun _ => ?_) (fun h => absurd (by decide) h)
    refine lv_iconst (v := nI 0) hx hb d_Fr_holdsSquare_30 (by decide) ?_
    exact hret _ _ _ (by decide) (Or.inr ⟨by decide, by first | (rintro ⟨z, -⟩; rw [q1] at z; cases z; done) | (rintro ⟨-, z⟩; rw [q2] at z; cases z; done)⟩) d_Fr_holdsSquare_31
set_option maxHeartbeats 4000000 in
set_option maxRecDepth 100000 in
theorem c_Fr_cellCount (la : Launch) (G : gG) (fr x0 y0 x1 y1 : Nat) (h0 : x0 < 2147483648) (h1 : y0 < 2147483648) (h2 : x1 < 2147483648) (h3 : y1 < 2147483648) (hx' : x0 ≤ x1) (hy' : y0 ≤ y1) : MetR la y_Fr_cellCount b_Fr_cellCount 1 .int 0 0 [.ref fr] G [(fr, .inr (2, [.int (nI x0), .int (nI y0), .int (nI x1), .int (nI y1)]))] (fun r => r = nI ((x1 - x0 + 1) * (y1 - y0 + 1))) := by
  refine MetR.mk (by decide +kernel) (Nat.le_of_ble_eq_true rfl) ?_
  intro p e s m below meth c Q ls S hP hk hs hret hl
  have hx := S.1
  have hb := S.2.1
  have hl : lv_has ls 1 [(0, .ref fr)] := hl
  refine lv_aload_n hx hb d_Fr_cellCount_0 rfl (lv_at hl 0 rfl) ?_
  refine y_get S hk hP 0 rfl f_Fr_16 rfl d_Fr_cellCount_1 ?_
  refine lv_aload_n hx hb d_Fr_cellCount_4 rfl (lv_at hl 0 rfl) ?_
  refine y_get S hk hP 0 rfl f_Fr_7 rfl d_Fr_cellCount_5 ?_
  refine x_isub hx hb d_Fr_cellCount_8 (by omega) ?_
  refine lv_iconst (v := nI 1) hx hb d_Fr_cellCount_9 (by decide) ?_
  refine x_iadd hx hb d_Fr_cellCount_10 ?_
  refine lv_aload_n hx hb d_Fr_cellCount_11 rfl (lv_at hl 0 rfl) ?_
  refine y_get S hk hP 0 rfl f_Fr_19 rfl d_Fr_cellCount_12 ?_
  refine lv_aload_n hx hb d_Fr_cellCount_15 rfl (lv_at hl 0 rfl) ?_
  refine y_get S hk hP 0 rfl f_Fr_13 rfl d_Fr_cellCount_16 ?_
  refine x_isub hx hb d_Fr_cellCount_19 (by omega) ?_
  refine lv_iconst (v := nI 1) hx hb d_Fr_cellCount_20 (by decide) ?_
  refine x_iadd hx hb d_Fr_cellCount_21 ?_
  refine x_imul hx hb d_Fr_cellCount_22 ?_
  exact hret _ _ _ rfl (rfl) d_Fr_cellCount_23
set_option maxHeartbeats 4000000 in
set_option maxRecDepth 100000 in
theorem c_CI_isInFrame (la : Launch) (G : gG) (o rw rt fr L : Nat) (x0 y0 x1 y1 k : Nat) (hL : L ≤ 15) (h0 : x0 < 2147483648) (h1 : y0 < 2147483648) (h2 : x1 < 2147483648) (h3 : y1 < 2147483648) (hk' : k < 2147483648) : MetR la y_CI_isInFrame b_CI_isInFrame 2 .boolean 1 22 [.ref o, .int (nI k)] G [(o, .inr (0, [.ref rw, .ref rt, .int (nI L), .ref fr])), (fr, .inr (2, [.int (nI x0), .int (nI y0), .int (nI x1), .int (nI y1)]))] (fun r => (r = 1 ∧ inc L (x0, y0, x1, y1) k = true) ∨ (r = 0 ∧ inc L (x0, y0, x1, y1) k = false)) := by
  refine MetR.mk (by decide +kernel) (Nat.le_of_ble_eq_true rfl) ?_
  intro p e s m below meth c Q ls S hP hk hs hret hl
  have hx := S.1
  have hb := S.2.1
  have hd1 : k / 2 ^ L ≤ k := Nat.div_le_self _ _
  have hd2 : k % 2 ^ L ≤ k := Nat.mod_le _ _
  have hl : lv_has ls 2 [(0, .ref o), (1, .int (nI k))] := hl
  refine lv_aload_n hx hb d_CI_isInFrame_0 rfl (lv_at hl 0 rfl) ?_
  refine y_get S hk hP 0 rfl f_CI_28 rfl d_CI_isInFrame_1 ?_
  refine lv_aload_n hx hb d_CI_isInFrame_4 rfl (lv_at hl 0 rfl) ?_
  refine lv_iload_n hx hb d_CI_isInFrame_5 rfl (lv_at hl 1 rfl) ?_
  refine vp_callSi (va_Run.run (run_V S v_CI_108 (c_CI_xOf la G o rw rt fr L k hL hk') ⟨rfl, rfl⟩ ⟨Nat.le_of_ble_eq_true rfl, Nat.le_of_ble_eq_true rfl⟩ (preR_V hP hk hs [0] rfl 0 rfl rfl) (rest := [.ref fr]) rfl hl.1 rfl (Nat.le_of_ble_eq_true rfl) d_CI_isInFrame_6 ⟨Nat.le_refl _, Nat.le_refl _⟩)) (fun r1 hr1 => ?_)
  subst hr1
  refine lv_aload_n hx hb d_CI_isInFrame_9 rfl (lv_at hl 0 rfl) ?_
  refine lv_iload_n hx hb d_CI_isInFrame_10 rfl (lv_at hl 1 rfl) ?_
  refine vp_callSi (va_Run.run (run_V S v_CI_111 (c_CI_yOf la G o rw rt fr L k hL hk') ⟨rfl, rfl⟩ ⟨Nat.le_of_ble_eq_true rfl, Nat.le_of_ble_eq_true rfl⟩ (preR_V hP hk hs [0] rfl 0 rfl rfl) (rest := [.int (nI (k / 2 ^ L)), .ref fr]) rfl hl.1 rfl (Nat.le_of_ble_eq_true rfl) d_CI_isInFrame_11 ⟨Nat.le_refl _, Nat.le_refl _⟩)) (fun r2 hr2 => ?_)
  subst hr2
  refine vp_callSi (va_Run.run (run_VN S hk v_CI_114 (c_Fr_holds la G fr x0 y0 x1 y1 (k / 2 ^ L) (k % 2 ^ L) h0 h1 h2 h3 (by omega) (by omega)) ⟨rfl, rfl⟩ ⟨Nat.le_of_ble_eq_true rfl, Nat.le_of_ble_eq_true rfl⟩ (preR_V hP hk hs [1] rfl 1 rfl rfl) (rest := []) rfl hl.1 rfl (Nat.le_of_ble_eq_true rfl) d_CI_isInFrame_14 ⟨Nat.le_refl _, Nat.le_refl _⟩)) (fun r3 hr3 => ?_)
  rcases hr3 with ⟨rfl, q3⟩ | ⟨rfl, q3⟩
  · exact hret _ _ _ (by decide) (Or.inl ⟨rfl, q3⟩) d_CI_isInFrame_17
  · exact hret _ _ _ (by decide) (Or.inr ⟨rfl, q3⟩) d_CI_isInFrame_17
