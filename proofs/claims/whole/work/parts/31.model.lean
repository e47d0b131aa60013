/-! the reference's methods, but for sort, runs, run (laid by gen/m7.py) -/
set_option maxHeartbeats 4000000 in
set_option maxRecDepth 100000 in
theorem c_Mo_side (la : Launch) (G : gG) (mo mc_ mv_ mk_ mx_ L n x0 y0 x1 y1 : Nat) (hL : L ≤ 15) : MetR la y_Mo_side b_Mo_side 1 .int 0 0 [.ref mo] G [(mo, .inr (4, [.int (nI L), .int (nI n), .ref mc_, .ref mv_, .int (nI x0), .int (nI y0), .int (nI x1), .int (nI y1), .ref mk_, .ref mx_]))] (fun r => r = nI (2 ^ L)) := by
  refine MetR.mk (by decide +kernel) (Nat.le_of_ble_eq_true rfl) ?_
  intro p e s m below meth c Q ls S hP hk hs hret hl
  have hx := S.1
  have hb := S.2.1
  have hp := p2_15 hL
  have hl : lv_has ls 1 [(0, .ref mo)] := hl
  refine lv_iconst (v := nI 1) hx hb d_Mo_side_0 (by decide) ?_
  refine lv_aload_n hx hb d_Mo_side_1 rfl (lv_at hl 0 rfl) ?_
  refine y_get S hk hP 0 rfl f_Mo_7 rfl d_Mo_side_2 ?_
  refine x_ishl hx hb d_Mo_side_5 (by omega) (by rw [Nat.one_mul]; omega) ?_
  refine x_reN (b := 2 ^ L) (Nat.one_mul _) ?_
  exact hret _ _ _ rfl (rfl) d_Mo_side_6
set_option maxHeartbeats 4000000 in
set_option maxRecDepth 100000 in
theorem c_Mo_isCurve (la : Launch) (G : gG) (x : Int32)  : MetR la y_Mo_isCurve b_Mo_isCurve 1 .boolean 0 0 [.int x] G [] (fun r => (r = 1 ∧ cuO x) ∨ (r = 0 ∧ ¬ cuO x)) := by
  refine MetR.mk (by decide +kernel) (Nat.le_of_ble_eq_true rfl) ?_
  intro p e s m below meth c Q ls S hP hk hs hret hl
  have hx := S.1
  have hb := S.2.1
  have hl : lv_has ls 1 [(0, .int x)] := hl
  refine lv_iload_n hx hb d_Mo_isCurve_0 rfl (lv_at hl 0 rfl) ?_
  refine lv_if_eq hx hb d_Mo_isCurve_1 (tgt := 9) (by decide) (fun h1 => ?_) (fun h1 => ?_)
  · refine lv_iconst (v := nI 1) hx hb d_Mo_isCurve_9 (by decide) ?_
    refine lv_goto hx hb d_Mo_isCurve_10 (tgt := 14) (by decide) ?_
    exact hret _ _ _ (by decide) (Or.inl ⟨by decide, by first | exact ⟨0, by decide, h1⟩ | exact ⟨1, by decide, h6⟩⟩) d_Mo_isCurve_14
  · refine lv_iload_n hx hb d_Mo_isCurve_4 rfl (lv_at hl 0 rfl) ?_
    refine lv_iconst (v := nI 1) hx hb d_Mo_isCurve_5 (by decide) ?_
    refine lv_icmp_ne hx hb d_Mo_isCurve_6 (tgt := 13) (by decide) (fun h6 => ?_) (fun h6 => ?_)
    · refine lv_iconst (v := nI 0) hx hb d_Mo_isCurve_13 (by decide) ?_
      exact hret _ _ _ (by decide) (Or.inr ⟨by decide, by rintro ⟨k, hk, rfl⟩; have e : k = 0 ∨ k = 1 := (by omega); rcases e with rfl | rfl; exact h1 rfl; exact h6 rfl⟩) d_Mo_isCurve_14
    · refine lv_iconst (v := nI 1) hx hb d_Mo_isCurve_9 (by decide) ?_
      refine lv_goto hx hb d_Mo_isCurve_10 (tgt := 14) (by decide) ?_
      exact hret _ _ _ (by decide) (Or.inl ⟨by decide, by first | exact ⟨0, by decide, h1⟩ | exact ⟨1, by decide, h6⟩⟩) d_Mo_isCurve_14
set_option maxHeartbeats 4000000 in
set_option maxRecDepth 100000 in
theorem c_Mo_isCell (la : Launch) (G : gG) (mo mc_ mv_ mk_ mx_ L n x0 y0 x1 y1 : Nat) (x y : Int32) (hL : L ≤ 15) : MetR la y_Mo_isCell b_Mo_isCell 3 .boolean 1 20 [.ref mo, .int x, .int y] G [(mo, .inr (4, [.int (nI L), .int (nI n), .ref mc_, .ref mv_, .int (nI x0), .int (nI y0), .int (nI x1), .int (nI y1), .ref mk_, .ref mx_]))] (fun r => (r = 1 ∧ inC L x y) ∨ (r = 0 ∧ ¬ inC L x y)) := by
  refine MetR.mk (by decide +kernel) (Nat.le_of_ble_eq_true rfl) ?_
  intro p e s m below meth c Q ls S hP hk hs hret hl
  have hx := S.1
  have hb := S.2.1
  have hp := p2_15 hL
  rcases ng x with hx0 | ⟨a, ha, rfl⟩
  · have hl : lv_has ls 3 [(0, .ref mo), (1, .int x), (2, .int y)] := hl
    refine lv_iload_n hx hb d_Mo_isCell_0 rfl (lv_at hl 1 rfl) ?_
    refine lv_if_lt hx hb d_Mo_isCell_1 (tgt := 28) (by decide) (fun _ => ?_) (fun h => absurd hx0 h)
    refine lv_iconst (v := nI 0) hx hb d_Mo_isCell_28 (by decide) ?_
    exact hret _ _ _ (by decide) (Or.inr ⟨by decide, by first | exact inC_n1 hL hx0 | exact inC_n2 hL hy0 | exact inC_g1 hL ha (by omega) | exact inC_g2 hL hb' (by omega)⟩) d_Mo_isCell_29
  · rcases ng y with hy0 | ⟨b, hb', rfl⟩
    · have hl : lv_has ls 3 [(0, .ref mo), (1, .int (nI a)), (2, .int y)] := hl
      refine lv_iload_n hx hb d_Mo_isCell_0 rfl (lv_at hl 1 rfl) ?_
      refine lv_if_lt hx hb d_Mo_isCell_1 (tgt := 28) (by decide) (fun h => absurd h (nI_pos (by omega))) (fun _ => ?_)
      refine lv_iload_n hx hb d_Mo_isCell_4 rfl (lv_at hl 2 rfl) ?_
      refine lv_if_lt hx hb d_Mo_isCell_5 (tgt := 28) (by decide) (fun _ => ?_) (fun h => absurd hy0 h)
      refine lv_iconst (v := nI 0) hx hb d_Mo_isCell_28 (by decide) ?_
      exact hret _ _ _ (by decide) (Or.inr ⟨by decide, by first | exact inC_n1 hL hx0 | exact inC_n2 hL hy0 | exact inC_g1 hL ha (by omega) | exact inC_g2 hL hb' (by omega)⟩) d_Mo_isCell_29
    · have hl : lv_has ls 3 [(0, .ref mo), (1, .int (nI a)), (2, .int (nI b))] := hl
      refine lv_iload_n hx hb d_Mo_isCell_0 rfl (lv_at hl 1 rfl) ?_
      refine lv_if_lt hx hb d_Mo_isCell_1 (tgt := 28) (by decide) (fun h => absurd h (nI_pos (by omega))) (fun _ => ?_)
      refine lv_iload_n hx hb d_Mo_isCell_4 rfl (lv_at hl 2 rfl) ?_
      refine lv_if_lt hx hb d_Mo_isCell_5 (tgt := 28) (by decide) (fun h => absurd h (nI_pos (by omega))) (fun _ => ?_)
      refine lv_iload_n hx hb d_Mo_isCell_8 rfl (lv_at hl 1 rfl) ?_
      refine lv_aload_n hx hb d_Mo_isCell_9 rfl (lv_at hl 0 rfl) ?_
      refine vp_callSi (va_Run.run (run_V S v_Mo_26 (c_Mo_side la G mo mc_ mv_ mk_ mx_ L n x0 y0 x1 y1 hL) ⟨rfl, rfl⟩ ⟨Nat.le_of_ble_eq_true rfl, Nat.le_of_ble_eq_true rfl⟩ (preR_V hP hk hs [0] rfl 0 rfl rfl) (rest := [.int (nI a)]) rfl hl.1 rfl (Nat.le_of_ble_eq_true rfl) d_Mo_isCell_10 ⟨Nat.le_refl _, Nat.le_refl _⟩)) (fun r10 hr10 => ?_)
      subst hr10
      refine x_icmp_ge hx hb d_Mo_isCell_13 (tgt := 28) (by decide) (by omega) (by omega) (fun h13 => ?_) (fun h13 => ?_)
      · refine lv_iconst (v := nI 0) hx hb d_Mo_isCell_28 (by decide) ?_
        exact hret _ _ _ (by decide) (Or.inr ⟨by decide, by first | exact inC_n1 hL hx0 | exact inC_n2 hL hy0 | exact inC_g1 hL ha (by omega) | exact inC_g2 hL hb' (by omega)⟩) d_Mo_isCell_29
      · refine lv_iload_n hx hb d_Mo_isCell_16 rfl (lv_at hl 2 rfl) ?_
        refine lv_aload_n hx hb d_Mo_isCell_17 rfl (lv_at hl 0 rfl) ?_
        refine vp_callSi (va_Run.run (run_V S v_Mo_26 (c_Mo_side la G mo mc_ mv_ mk_ mx_ L n x0 y0 x1 y1 hL) ⟨rfl, rfl⟩ ⟨Nat.le_of_ble_eq_true rfl, Nat.le_of_ble_eq_true rfl⟩ (preR_V hP hk hs [0] rfl 0 rfl rfl) (rest := [.int (nI b)]) rfl hl.1 rfl (Nat.le_of_ble_eq_true rfl) d_Mo_isCell_18 ⟨Nat.le_refl _, Nat.le_refl _⟩)) (fun r18 hr18 => ?_)
        subst hr18
        refine x_icmp_ge hx hb d_Mo_isCell_21 (tgt := 28) (by decide) (by omega) (by omega) (fun h21 => ?_) (fun h21 => ?_)
        · refine lv_iconst (v := nI 0) hx hb d_Mo_isCell_28 (by decide) ?_
          exact hret _ _ _ (by decide) (Or.inr ⟨by decide, by first | exact inC_n1 hL hx0 | exact inC_n2 hL hy0 | exact inC_g1 hL ha (by omega) | exact inC_g2 hL hb' (by omega)⟩) d_Mo_isCell_29
        · refine lv_iconst (v := nI 1) hx hb d_Mo_isCell_24 (by decide) ?_
          refine lv_goto hx hb d_Mo_isCell_25 (tgt := 29) (by decide) ?_
          exact hret _ _ _ (by decide) (Or.inl ⟨by decide, inC_nI (by omega) (by omega)⟩) d_Mo_isCell_29
set_option maxHeartbeats 4000000 in
set_option maxRecDepth 100000 in
theorem c_Mo_keyOf (la : Launch) (G : gG) (mo mc_ mv_ mk_ mx_ L n x0 y0 x1 y1 : Nat) (cu x y : Nat) (hL : L ≤ 15) (hL1 : 1 ≤ L) (hcu : cu < 2) (hx' : x < 2 ^ L) (hy' : y < 2 ^ L) : MetR la y_Mo_keyOf b_Mo_keyOf 9 .int 1 20 [.ref mo, .int (nI cu), .int (nI x), .int (nI y)] G [(mo, .inr (4, [.int (nI L), .int (nI n), .ref mc_, .ref mv_, .int (nI x0), .int (nI y0), .int (nI x1), .int (nI y1), .ref mk_, .ref mx_]))] (fun r => r = nI (kk cu L x y)) := by
  refine MetR.mk (by decide +kernel) (Nat.le_of_ble_eq_true rfl) ?_
  intro p e s m below meth c Q ls S hP hk hs hret hl
  have hx := S.1
  have hb := S.2.1
  have hp := p2_15 hL
  have e01 : cu = 0 ∨ cu = 1 := by omega
  rcases e01 with rfl | rfl
  · have hl : lv_has ls 9 [(0, .ref mo), (1, .int (nI 0)), (2, .int (nI x)), (3, .int (nI y))] := hl
    refine lv_iconst (v := nI 0) hx hb d_Mo_keyOf_0 (by decide) ?_
    refine lv_istore hx hb d_Mo_keyOf_1 hl (by decide) rfl (fun ls hl => ?_)
    have hl : lv_has ls 9 [(4, .int (nI 0)), (0, .ref mo), (1, .int (nI 0)), (2, .int (nI x)), (3, .int (nI y))] := hl
    refine lv_iload_n hx hb d_Mo_keyOf_3 rfl (lv_at hl 2 rfl) ?_
    refine lv_if_ne hx hb d_Mo_keyOf_4 (tgt := 51) (by decide) (fun h => absurd rfl h) (fun _ => ?_)
    refine lv_aload_n hx hb d_Mo_keyOf_7 rfl (lv_at hl 1 rfl) ?_
    refine y_get S hk hP 0 rfl f_Mo_7 rfl d_Mo_keyOf_8 ?_
    refine lv_iconst (v := nI 1) hx hb d_Mo_keyOf_11 (by decide) ?_
    refine x_isub hx hb d_Mo_keyOf_12 (by omega) ?_
    refine lv_istore hx hb d_Mo_keyOf_13 hl (by decide) rfl (fun ls hl => ?_)
    have hl : lv_has ls 9 [(5, .int (nI (L - 1))), (4, .int (nI 0)), (0, .ref mo), (1, .int (nI 0)), (2, .int (nI x)), (3, .int (nI y))] := hl
    rw [oI_pr (by omega)] at hl
    refine (?_ : ∀ (l k : Nat) (ls : Array Slot), l ≤ L → lv_has ls 9 [(5, .int (oI l)), (4, .int (nI k)), (0, .ref mo), (1, .int (nI 0)), (2, .int (nI x)), (3, .int (nI y))] → k * (2 ^ l * 2 ^ l) + wk l x y = wk L x y → W p la e _ s m _ below meth c s.heap [] 0 0 Q (F0 m 15 ls [])) L 0 ls (Nat.le_refl _) hl (by rw [Nat.zero_mul, Nat.zero_add])
    intro l
    induction l with
    | zero =>
      intro k ls hl' hl hg
      have hg : k * (1 * 1) + 0 = wk L x y := hg
      simp only [Nat.mul_one, Nat.add_zero] at hg
      have hl : lv_has ls 9 [(5, .int (-1)), (4, .int (nI k)), (0, .ref mo), (1, .int (nI 0)), (2, .int (nI x)), (3, .int (nI y))] := hl
      refine lv_iload hx hb d_Mo_keyOf_15 (lv_at hl 0 rfl) ?_
      refine lv_if_lt hx hb d_Mo_keyOf_17 (tgt := 48) (by decide) (fun _ => ?_) (fun h => absurd (by decide) h)
      refine lv_iload hx hb d_Mo_keyOf_48 (lv_at hl 1 rfl) ?_
      exact hret _ _ _ rfl (congrArg nI hg) d_Mo_keyOf_50
    | succ l ih =>
      intro k ls hl' hl hg
      have b3 : x / 2 ^ l ≤ x := Nat.div_le_self _ _
      have b4 : y / 2 ^ l ≤ y := Nat.div_le_self _ _
      have hl : lv_has ls 9 [(5, .int (nI l)), (4, .int (nI k)), (0, .ref mo), (1, .int (nI 0)), (2, .int (nI x)), (3, .int (nI y))] := hl
      refine lv_iload hx hb d_Mo_keyOf_15 (lv_at hl 0 rfl) ?_
      refine lv_if_lt hx hb d_Mo_keyOf_17 (tgt := 48) (by decide) (fun h => absurd h (nI_pos (by omega))) (fun _ => ?_)
      refine lv_iconst (v := nI 4) hx hb d_Mo_keyOf_20 (by decide) ?_
      refine lv_iload hx hb d_Mo_keyOf_21 (lv_at hl 1 rfl) ?_
      refine x_imul hx hb d_Mo_keyOf_23 ?_
      refine lv_iload_n hx hb d_Mo_keyOf_24 rfl (lv_at hl 4 rfl) ?_
      refine lv_iload hx hb d_Mo_keyOf_25 (lv_at hl 0 rfl) ?_
      refine x_ishr hx hb d_Mo_keyOf_27 (by omega) (by omega) ?_
      refine lv_iconst (v := nI 1) hx hb d_Mo_keyOf_28 (by decide) ?_
      refine x_iand1 hx hb d_Mo_keyOf_29 (by omega) ?_
      refine x_iadd hx hb d_Mo_keyOf_30 ?_
      refine lv_iconst (v := nI 2) hx hb d_Mo_keyOf_31 (by decide) ?_
      refine lv_iload_n hx hb d_Mo_keyOf_32 rfl (lv_at hl 5 rfl) ?_
      refine lv_iload hx hb d_Mo_keyOf_33 (lv_at hl 0 rfl) ?_
      refine x_ishr hx hb d_Mo_keyOf_35 (by omega) (by omega) ?_
      refine lv_iconst (v := nI 1) hx hb d_Mo_keyOf_36 (by decide) ?_
      refine x_iand1 hx hb d_Mo_keyOf_37 (by omega) ?_
      refine x_imul hx hb d_Mo_keyOf_38 ?_
      refine x_iadd hx hb d_Mo_keyOf_39 ?_
      refine lv_istore hx hb d_Mo_keyOf_40 hl (by decide) rfl (fun ls hl => ?_)
      have hl : lv_has ls 9 [(4, .int (nI (((4 * k) + ((x / 2 ^ l) % 2)) + (2 * ((y / 2 ^ l) % 2))))), (5, .int (nI l)), (0, .ref mo), (1, .int (nI 0)), (2, .int (nI x)), (3, .int (nI y))] := hl
      refine lv_iinc (v := oI l) hx hb d_Mo_keyOf_42 hl (k := 1) rfl (ii_m _) (by decide) rfl (fun ls hl => ?_)
      have hl : lv_has ls 9 [(5, .int (oI l)), (4, .int (nI (((4 * k) + ((x / 2 ^ l) % 2)) + (2 * ((y / 2 ^ l) % 2))))), (0, .ref mo), (1, .int (nI 0)), (2, .int (nI x)), (3, .int (nI y))] := hl
      refine lv_goto hx hb d_Mo_keyOf_45 (tgt := 15) (by decide) ?_
      have hl := lv_sub hl [0, 1, 2, 3, 4, 5] rfl
      exact ih _ _ (by omega) hl ((wk_step l k x y).trans hg)
  · have hl : lv_has ls 9 [(0, .ref mo), (1, .int (nI 1)), (2, .int (nI x)), (3, .int (nI y))] := hl
    refine lv_iconst (v := nI 0) hx hb d_Mo_keyOf_0 (by decide) ?_
    refine lv_istore hx hb d_Mo_keyOf_1 hl (by decide) rfl (fun ls hl => ?_)
    have hl : lv_has ls 9 [(4, .int (nI 0)), (0, .ref mo), (1, .int (nI 1)), (2, .int (nI x)), (3, .int (nI y))] := hl
    refine lv_iload_n hx hb d_Mo_keyOf_3 rfl (lv_at hl 2 rfl) ?_
    refine lv_if_ne hx hb d_Mo_keyOf_4 (tgt := 51) (by decide) (fun _ => ?_) (fun h => absurd h (by decide))
    refine lv_iload_n hx hb d_Mo_keyOf_51 rfl (lv_at hl 3 rfl) ?_
    refine lv_istore hx hb d_Mo_keyOf_52 hl (by decide) rfl (fun ls hl => ?_)
    have hl : lv_has ls 9 [(5, .int (nI x)), (4, .int (nI 0)), (0, .ref mo), (1, .int (nI 1)), (2, .int (nI x)), (3, .int (nI y))] := hl
    refine lv_iload_n hx hb d_Mo_keyOf_54 rfl (lv_at hl 5 rfl) ?_
    refine lv_istore hx hb d_Mo_keyOf_55 hl (by decide) rfl (fun ls hl => ?_)
    have hl : lv_has ls 9 [(6, .int (nI y)), (5, .int (nI x)), (4, .int (nI 0)), (0, .ref mo), (1, .int (nI 1)), (2, .int (nI x)), (3, .int (nI y))] := hl
    refine lv_aload_n hx hb d_Mo_keyOf_57 rfl (lv_at hl 3 rfl) ?_
    refine vp_callSi (va_Run.run (run_V S v_Mo_26 (c_Mo_side la G mo mc_ mv_ mk_ mx_ L n x0 y0 x1 y1 hL) ⟨rfl, rfl⟩ ⟨Nat.le_of_ble_eq_true rfl, Nat.le_of_ble_eq_true rfl⟩ (preR_V hP hk hs [0] rfl 0 rfl rfl) (rest := []) rfl hl.1 rfl (Nat.le_of_ble_eq_true rfl) d_Mo_keyOf_58 ⟨Nat.le_refl _, Nat.le_refl _⟩)) (fun r1 hr1 => ?_)
    subst hr1
    refine lv_iconst (v := nI 2) hx hb d_Mo_keyOf_61 (by decide) ?_
    refine x_idiv hx hb d_Mo_keyOf_62 (by omega) (by omega) (by omega) ?_
    refine lv_istore hx hb d_Mo_keyOf_63 hl (by decide) rfl (fun ls hl => ?_)
    have hl : lv_has ls 9 [(7, .int (nI ((2 ^ L) / 2))), (6, .int (nI y)), (5, .int (nI x)), (4, .int (nI 0)), (0, .ref mo), (1, .int (nI 1)), (2, .int (nI x)), (3, .int (nI y))] := hl
    have hl := lv_sub hl [0, 1, 2, 3, 4, 5, 6, 7] rfl
    refine (?_ : ∀ (l k a b : Nat) (ls : Array Slot), l ≤ L → a < 2 ^ l → b < 2 ^ l → lv_has ls 9 [(7, .int (nI (2 ^ l / 2))), (6, .int (nI b)), (5, .int (nI a)), (4, .int (nI k)), (0, .ref mo), (1, .int (nI 1)), (2, .int (nI x)), (3, .int (nI y))] → k + hkf l a b = hkf L x y → W p la e _ s m _ below meth c s.heap [] 0 0 Q (F0 m 65 ls [])) L 0 x y ls (Nat.le_refl _) hx' hy' hl (Nat.zero_add _)
    intro l
    induction l with
    | zero =>
      intro k a b ls hl' ha hb' hl hg
      have hg : k + 0 = hkf L x y := hg
      have hl : lv_has ls 9 [(7, .int (nI 0)), (6, .int (nI b)), (5, .int (nI a)), (4, .int (nI k)), (0, .ref mo), (1, .int (nI 1)), (2, .int (nI x)), (3, .int (nI y))] := hl
      refine lv_iload hx hb d_Mo_keyOf_65 (lv_at hl 0 rfl) ?_
      refine lv_if_le hx hb d_Mo_keyOf_67 (tgt := 203) (by decide) (fun _ => ?_) (fun h => absurd (by decide) h)
      refine lv_iload hx hb d_Mo_keyOf_203 (lv_at hl 3 rfl) ?_
      exact hret _ _ _ rfl (congrArg nI hg) d_Mo_keyOf_205
    | succ l ih =>
      intro k a b ls hl' ha hb' hl hg
      have h2s := p2_s l
      have hpl := Nat.two_pow_pos l
      have hle : 2 ^ l ≤ 2 ^ L := Nat.pow_le_pow_right (by omega) (by omega)
      rw [half_s] at hl
      have hl : lv_has ls 9 [(7, .int (nI (2 ^ l))), (6, .int (nI b)), (5, .int (nI a)), (4, .int (nI k)), (0, .ref mo), (1, .int (nI 1)), (2, .int (nI x)), (3, .int (nI y))] := hl
      refine lv_iload hx hb d_Mo_keyOf_65 (lv_at hl 0 rfl) ?_
      refine x_if_le hx hb d_Mo_keyOf_67 (tgt := 203) (by decide) (by omega) (fun h67 => ?_) (fun h67 => ?_)
      · exact absurd h67 (by omega)
      · refine lv_iload hx hb d_Mo_keyOf_70 (lv_at hl 2 rfl) ?_
        refine lv_istore hx hb d_Mo_keyOf_72 hl (by decide) rfl (fun ls hl => ?_)
        have hl : lv_has ls 9 [(8, .int (nI a)), (7, .int (nI (2 ^ l))), (6, .int (nI b)), (5, .int (nI a)), (4, .int (nI k)), (0, .ref mo), (1, .int (nI 1)), (2, .int (nI x)), (3, .int (nI y))] := hl
        refine lv_iload hx hb d_Mo_keyOf_74 (lv_at hl 3 rfl) ?_
        refine lv_iload hx hb d_Mo_keyOf_76 (lv_at hl 1 rfl) ?_
        refine x_icmp_ge hx hb d_Mo_keyOf_78 (tgt := 99) (by decide) (by omega) (by omega) (fun h78 => ?_) (fun h78 => ?_)
        · refine lv_iload hx hb d_Mo_keyOf_99 (lv_at hl 3 rfl) ?_
          refine lv_iload hx hb d_Mo_keyOf_101 (lv_at hl 1 rfl) ?_
          refine x_icmp_ge hx hb d_Mo_keyOf_103 (tgt := 126) (by decide) (by omega) (by omega) (fun h103 => ?_) (fun h103 => ?_)
          · refine lv_iload hx hb d_Mo_keyOf_126 (lv_at hl 2 rfl) ?_
            refine lv_iload hx hb d_Mo_keyOf_128 (lv_at hl 1 rfl) ?_
            refine x_icmp_lt hx hb d_Mo_keyOf_130 (tgt := 162) (by decide) (by omega) (by omega) (fun h130 => ?_) (fun h130 => ?_)
            · refine lv_iload hx hb d_Mo_keyOf_162 (lv_at hl 4 rfl) ?_
              refine lv_iconst (v := nI 3) hx hb d_Mo_keyOf_164 (by decide) ?_
              refine lv_iload hx hb d_Mo_keyOf_165 (lv_at hl 1 rfl) ?_
              refine x_imul hx hb d_Mo_keyOf_167 ?_
              refine lv_iload hx hb d_Mo_keyOf_168 (lv_at hl 1 rfl) ?_
              refine x_imul hx hb d_Mo_keyOf_170 ?_
              refine x_iadd hx hb d_Mo_keyOf_171 ?_
              refine lv_istore hx hb d_Mo_keyOf_172 hl (by decide) rfl (fun ls hl => ?_)
              have hl : lv_has ls 9 [(4, .int (nI (k + ((3 * (2 ^ l)) * (2 ^ l))))), (8, .int (nI a)), (7, .int (nI (2 ^ l))), (6, .int (nI b)), (5, .int (nI a)), (0, .ref mo), (1, .int (nI 1)), (2, .int (nI x)), (3, .int (nI y))] := hl
              refine lv_iload hx hb d_Mo_keyOf_174 (lv_at hl 2 rfl) ?_
              refine lv_iconst (v := nI 1) hx hb d_Mo_keyOf_176 (by decide) ?_
              refine x_isub hx hb d_Mo_keyOf_177 (by omega) ?_
              refine lv_iload hx hb d_Mo_keyOf_178 (lv_at hl 3 rfl) ?_
              refine x_isub hx hb d_Mo_keyOf_180 (by omega) ?_
              refine lv_istore hx hb d_Mo_keyOf_181 hl (by decide) rfl (fun ls hl => ?_)
              have hl : lv_has ls 9 [(5, .int (nI (((2 ^ l) - 1) - b))), (4, .int (nI (k + ((3 * (2 ^ l)) * (2 ^ l))))), (8, .int (nI a)), (7, .int (nI (2 ^ l))), (6, .int (nI b)), (0, .ref mo), (1, .int (nI 1)), (2, .int (nI x)), (3, .int (nI y))] := hl
              refine lv_iconst (v := nI 2) hx hb d_Mo_keyOf_183 (by decide) ?_
              refine lv_iload hx hb d_Mo_keyOf_184 (lv_at hl 3 rfl) ?_
              refine x_imul hx hb d_Mo_keyOf_186 ?_
              refine lv_iconst (v := nI 1) hx hb d_Mo_keyOf_187 (by decide) ?_
              refine x_isub hx hb d_Mo_keyOf_188 (by omega) ?_
              refine lv_iload hx hb d_Mo_keyOf_189 (lv_at hl 2 rfl) ?_
              refine x_isub hx hb d_Mo_keyOf_191 (by omega) ?_
              refine lv_istore hx hb d_Mo_keyOf_192 hl (by decide) rfl (fun ls hl => ?_)
              have hl : lv_has ls 9 [(6, .int (nI (((2 * (2 ^ l)) - 1) - a))), (5, .int (nI (((2 ^ l) - 1) - b))), (4, .int (nI (k + ((3 * (2 ^ l)) * (2 ^ l))))), (8, .int (nI a)), (7, .int (nI (2 ^ l))), (0, .ref mo), (1, .int (nI 1)), (2, .int (nI x)), (3, .int (nI y))] := hl
              refine lv_iload hx hb d_Mo_keyOf_194 (lv_at hl 4 rfl) ?_
              refine lv_iconst (v := nI 2) hx hb d_Mo_keyOf_196 (by decide) ?_
              refine x_idiv hx hb d_Mo_keyOf_197 (by omega) (by omega) (by omega) ?_
              refine lv_istore hx hb d_Mo_keyOf_198 hl (by decide) rfl (fun ls hl => ?_)
              have hl : lv_has ls 9 [(7, .int (nI ((2 ^ l) / 2))), (6, .int (nI (((2 * (2 ^ l)) - 1) - a))), (5, .int (nI (((2 ^ l) - 1) - b))), (4, .int (nI (k + ((3 * (2 ^ l)) * (2 ^ l))))), (8, .int (nI a)), (0, .ref mo), (1, .int (nI 1)), (2, .int (nI x)), (3, .int (nI y))] := hl
              refine lv_goto hx hb d_Mo_keyOf_200 (tgt := 65) (by decide) ?_
              have hl := lv_sub hl [0, 1, 2, 3, 5, 6, 7, 8] rfl
              exact ih _ _ _ _ (by omega) (by omega) (by omega) hl (by rw [hkf_10 h103 h130, ← Nat.add_assoc, ← Nat.mul_assoc] at hg; exact hg)
            · refine lv_iload hx hb d_Mo_keyOf_133 (lv_at hl 4 rfl) ?_
              refine lv_iconst (v := nI 2) hx hb d_Mo_keyOf_135 (by decide) ?_
              refine lv_iload hx hb d_Mo_keyOf_136 (lv_at hl 1 rfl) ?_
              refine x_imul hx hb d_Mo_keyOf_138 ?_
              refine lv_iload hx hb d_Mo_keyOf_139 (lv_at hl 1 rfl) ?_
              refine x_imul hx hb d_Mo_keyOf_141 ?_
              refine x_iadd hx hb d_Mo_keyOf_142 ?_
              refine lv_istore hx hb d_Mo_keyOf_143 hl (by decide) rfl (fun ls hl => ?_)
              have hl : lv_has ls 9 [(4, .int (nI (k + ((2 * (2 ^ l)) * (2 ^ l))))), (8, .int (nI a)), (7, .int (nI (2 ^ l))), (6, .int (nI b)), (5, .int (nI a)), (0, .ref mo), (1, .int (nI 1)), (2, .int (nI x)), (3, .int (nI y))] := hl
              refine lv_iload hx hb d_Mo_keyOf_145 (lv_at hl 4 rfl) ?_
              refine lv_iload hx hb d_Mo_keyOf_147 (lv_at hl 2 rfl) ?_
              refine x_isub hx hb d_Mo_keyOf_149 (by omega) ?_
              refine lv_istore hx hb d_Mo_keyOf_150 hl (by decide) rfl (fun ls hl => ?_)
              have hl : lv_has ls 9 [(5, .int (nI (a - (2 ^ l)))), (4, .int (nI (k + ((2 * (2 ^ l)) * (2 ^ l))))), (8, .int (nI a)), (7, .int (nI (2 ^ l))), (6, .int (nI b)), (0, .ref mo), (1, .int (nI 1)), (2, .int (nI x)), (3, .int (nI y))] := hl
              refine lv_iload hx hb d_Mo_keyOf_152 (lv_at hl 4 rfl) ?_
              refine lv_iload hx hb d_Mo_keyOf_154 (lv_at hl 3 rfl) ?_
              refine x_isub hx hb d_Mo_keyOf_156 (by omega) ?_
              refine lv_istore hx hb d_Mo_keyOf_157 hl (by decide) rfl (fun ls hl => ?_)
              have hl : lv_has ls 9 [(6, .int (nI (b - (2 ^ l)))), (5, .int (nI (a - (2 ^ l)))), (4, .int (nI (k + ((2 * (2 ^ l)) * (2 ^ l))))), (8, .int (nI a)), (7, .int (nI (2 ^ l))), (0, .ref mo), (1, .int (nI 1)), (2, .int (nI x)), (3, .int (nI y))] := hl
              refine lv_goto hx hb d_Mo_keyOf_159 (tgt := 194) (by decide) ?_
              refine lv_iload hx hb d_Mo_keyOf_194 (lv_at hl 4 rfl) ?_
              refine lv_iconst (v := nI 2) hx hb d_Mo_keyOf_196 (by decide) ?_
              refine x_idiv hx hb d_Mo_keyOf_197 (by omega) (by omega) (by omega) ?_
              refine lv_istore hx hb d_Mo_keyOf_198 hl (by decide) rfl (fun ls hl => ?_)
              have hl : lv_has ls 9 [(7, .int (nI ((2 ^ l) / 2))), (6, .int (nI (b - (2 ^ l)))), (5, .int (nI (a - (2 ^ l)))), (4, .int (nI (k + ((2 * (2 ^ l)) * (2 ^ l))))), (8, .int (nI a)), (0, .ref mo), (1, .int (nI 1)), (2, .int (nI x)), (3, .int (nI y))] := hl
              refine lv_goto hx hb d_Mo_keyOf_200 (tgt := 65) (by decide) ?_
              have hl := lv_sub hl [0, 1, 2, 3, 5, 6, 7, 8] rfl
              exact ih _ _ _ _ (by omega) (by omega) (by omega) hl (by rw [hkf_11 h103 h130, ← Nat.add_assoc, ← Nat.mul_assoc] at hg; exact hg)
          · exact absurd h103 (by omega)
        · refine lv_iload hx hb d_Mo_keyOf_81 (lv_at hl 2 rfl) ?_
          refine lv_iload hx hb d_Mo_keyOf_83 (lv_at hl 1 rfl) ?_
          refine x_icmp_ge hx hb d_Mo_keyOf_85 (tgt := 99) (by decide) (by omega) (by omega) (fun h85 => ?_) (fun h85 => ?_)
          · refine lv_iload hx hb d_Mo_keyOf_99 (lv_at hl 3 rfl) ?_
            refine lv_iload hx hb d_Mo_keyOf_101 (lv_at hl 1 rfl) ?_
            refine x_icmp_ge hx hb d_Mo_keyOf_103 (tgt := 126) (by decide) (by omega) (by omega) (fun h103 => ?_) (fun h103 => ?_)
            · exact absurd h103 (by omega)
            · refine lv_iload hx hb d_Mo_keyOf_106 (lv_at hl 4 rfl) ?_
              refine lv_iload hx hb d_Mo_keyOf_108 (lv_at hl 1 rfl) ?_
              refine lv_iload hx hb d_Mo_keyOf_110 (lv_at hl 1 rfl) ?_
              refine x_imul hx hb d_Mo_keyOf_112 ?_
              refine x_iadd hx hb d_Mo_keyOf_113 ?_
              refine lv_istore hx hb d_Mo_keyOf_114 hl (by decide) rfl (fun ls hl => ?_)
              have hl : lv_has ls 9 [(4, .int (nI (k + ((2 ^ l) * (2 ^ l))))), (8, .int (nI a)), (7, .int (nI (2 ^ l))), (6, .int (nI b)), (5, .int (nI a)), (0, .ref mo), (1, .int (nI 1)), (2, .int (nI x)), (3, .int (nI y))] := hl
              refine lv_iload hx hb d_Mo_keyOf_116 (lv_at hl 3 rfl) ?_
              refine lv_iload hx hb d_Mo_keyOf_118 (lv_at hl 2 rfl) ?_
              refine x_isub hx hb d_Mo_keyOf_120 (by omega) ?_
              refine lv_istore hx hb d_Mo_keyOf_121 hl (by decide) rfl (fun ls hl => ?_)
              have hl : lv_has ls 9 [(6, .int (nI (b - (2 ^ l)))), (4, .int (nI (k + ((2 ^ l) * (2 ^ l))))), (8, .int (nI a)), (7, .int (nI (2 ^ l))), (5, .int (nI a)), (0, .ref mo), (1, .int (nI 1)), (2, .int (nI x)), (3, .int (nI y))] := hl
              refine lv_goto hx hb d_Mo_keyOf_123 (tgt := 194) (by decide) ?_
              refine lv_iload hx hb d_Mo_keyOf_194 (lv_at hl 3 rfl) ?_
              refine lv_iconst (v := nI 2) hx hb d_Mo_keyOf_196 (by decide) ?_
              refine x_idiv hx hb d_Mo_keyOf_197 (by omega) (by omega) (by omega) ?_
              refine lv_istore hx hb d_Mo_keyOf_198 hl (by decide) rfl (fun ls hl => ?_)
              have hl : lv_has ls 9 [(7, .int (nI ((2 ^ l) / 2))), (6, .int (nI (b - (2 ^ l)))), (4, .int (nI (k + ((2 ^ l) * (2 ^ l))))), (8, .int (nI a)), (5, .int (nI a)), (0, .ref mo), (1, .int (nI 1)), (2, .int (nI x)), (3, .int (nI y))] := hl
              refine lv_goto hx hb d_Mo_keyOf_200 (tgt := 65) (by decide) ?_
              have hl := lv_sub hl [0, 1, 4, 2, 5, 6, 7, 8] rfl
              exact ih _ _ _ _ (by omega) (by omega) (by omega) hl (by rw [hkf_01 h103 h85, ← Nat.add_assoc] at hg; exact hg)
          · refine lv_iload hx hb d_Mo_keyOf_88 (lv_at hl 2 rfl) ?_
            refine lv_istore hx hb d_Mo_keyOf_90 hl (by decide) rfl (fun ls hl => ?_)
            have hl : lv_has ls 9 [(5, .int (nI b)), (8, .int (nI a)), (7, .int (nI (2 ^ l))), (6, .int (nI b)), (4, .int (nI k)), (0, .ref mo), (1, .int (nI 1)), (2, .int (nI x)), (3, .int (nI y))] := hl
            refine lv_iload hx hb d_Mo_keyOf_92 (lv_at hl 1 rfl) ?_
            refine lv_istore hx hb d_Mo_keyOf_94 hl (by decide) rfl (fun ls hl => ?_)
            have hl : lv_has ls 9 [(6, .int (nI a)), (5, .int (nI b)), (8, .int (nI a)), (7, .int (nI (2 ^ l))), (4, .int (nI k)), (0, .ref mo), (1, .int (nI 1)), (2, .int (nI x)), (3, .int (nI y))] := hl
            refine lv_goto hx hb d_Mo_keyOf_96 (tgt := 194) (by decide) ?_
            refine lv_iload hx hb d_Mo_keyOf_194 (lv_at hl 3 rfl) ?_
            refine lv_iconst (v := nI 2) hx hb d_Mo_keyOf_196 (by decide) ?_
            refine x_idiv hx hb d_Mo_keyOf_197 (by omega) (by omega) (by omega) ?_
            refine lv_istore hx hb d_Mo_keyOf_198 hl (by decide) rfl (fun ls hl => ?_)
            have hl : lv_has ls 9 [(7, .int (nI ((2 ^ l) / 2))), (6, .int (nI a)), (5, .int (nI b)), (8, .int (nI a)), (4, .int (nI k)), (0, .ref mo), (1, .int (nI 1)), (2, .int (nI x)), (3, .int (nI y))] := hl
            refine lv_goto hx hb d_Mo_keyOf_200 (tgt := 65) (by decide) ?_
            have hl := lv_sub hl [0, 1, 2, 4, 5, 6, 7, 8] rfl
            exact ih _ _ _ _ (by omega) (by omega) (by omega) hl (by rw [hkf_00 h78 h85] at hg; exact hg)
set_option maxHeartbeats 4000000 in
set_option maxRecDepth 100000 in
theorem c_Mo_cellOf (la : Launch) (G : gG) (mo mc_ mv_ mk_ mx_ L n x0 y0 x1 y1 : Nat) (cu k : Nat) (hL : L ≤ 15) (hcu : cu < 2) (hk' : k < 2 ^ L * 2 ^ L) : MetR la y_Mo_cellOf b_Mo_cellOf 9 .int 1 20 [.ref mo, .int (nI cu), .int (nI k)] G [(mo, .inr (4, [.int (nI L), .int (nI n), .ref mc_, .ref mv_, .int (nI x0), .int (nI y0), .int (nI x1), .int (nI y1), .ref mk_, .ref mx_]))] (fun r => r = nI ((kc cu L k).1 * 2 ^ L + (kc cu L k).2)) := by
  refine MetR.mk (by decide +kernel) (Nat.le_of_ble_eq_true rfl) ?_
  intro p e s m below meth c Q ls S hP hk hs hret hl
  have hx := S.1
  have hb := S.2.1
  have hp := p2_15 hL
  have hp4 := p4_15 hL
  have e01 : cu = 0 ∨ cu = 1 := by omega
  rcases e01 with rfl | rfl
  · have hl : lv_has ls 9 [(0, .ref mo), (1, .int (nI 0)), (2, .int (nI k))] := hl
    refine lv_iconst (v := nI 0) hx hb d_Mo_cellOf_0 (by decide) ?_
    refine lv_istore_n hx hb d_Mo_cellOf_1 rfl hl (by decide) rfl (fun ls hl => ?_)
    have hl : lv_has ls 9 [(3, .int (nI 0)), (0, .ref mo), (1, .int (nI 0)), (2, .int (nI k))] := hl
    refine lv_iconst (v := nI 0) hx hb d_Mo_cellOf_2 (by decide) ?_
    refine lv_istore hx hb d_Mo_cellOf_3 hl (by decide) rfl (fun ls hl => ?_)
    have hl : lv_has ls 9 [(4, .int (nI 0)), (3, .int (nI 0)), (0, .ref mo), (1, .int (nI 0)), (2, .int (nI k))] := hl
    refine lv_iconst (v := nI 0) hx hb d_Mo_cellOf_5 (by decide) ?_
    refine lv_istore hx hb d_Mo_cellOf_6 hl (by decide) rfl (fun ls hl => ?_)
    have hl : lv_has ls 9 [(5, .int (nI 0)), (4, .int (nI 0)), (3, .int (nI 0)), (0, .ref mo), (1, .int (nI 0)), (2, .int (nI k))] := hl
    have hl := lv_sub hl [0, 1, 2, 3, 4, 5] rfl
    refine (?_ : ∀ (d : Nat) (i : Nat) (x : Nat) (y : Nat) (ls : Array Slot), L - i < d → lv_has ls 9 [(5, .int (nI i)), (4, .int (nI y)), (3, .int (nI x)), (0, .ref mo), (1, .int (nI 0)), (2, .int (nI k))] → (i ≤ L) → ((x, y) = wcx i k) → W p la e _ s m _ below meth c s.heap [] 0 0 Q (F0 m 8 ls [])) (L - 0 + 1) 0 0 0 ls (Nat.lt_succ_self _) hl (Nat.zero_le _) (rfl)
    intro d
    induction d with
    | zero => intro i x y ls hd; exact absurd hd (Nat.not_lt_zero _)
    | succ d ih =>
      intro i x y ls hd hl hi hg
      have hlt := wcx_lt i k
      rw [← hg] at hlt
      dsimp only at hlt
      have hpi := Nat.two_pow_pos i
      have hpl : 2 ^ i ≤ 2 ^ L := Nat.pow_le_pow_right (by omega) hi
      have e22 := p22 i
      have b3 : k / 2 ^ (2 * i) ≤ k := Nat.div_le_self _ _
      refine lv_iload hx hb d_Mo_cellOf_8 (lv_at hl 0 rfl) ?_
      refine lv_aload_n hx hb d_Mo_cellOf_10 rfl (lv_at hl 3 rfl) ?_
      refine y_get S hk hP 0 rfl f_Mo_7 rfl d_Mo_cellOf_11 ?_
      refine x_icmp_ge hx hb d_Mo_cellOf_14 (tgt := 142) (by decide) (by omega) (by omega) (fun h14 => ?_) (fun h14 => ?_)
      · refine lv_iload_n hx hb d_Mo_cellOf_142 rfl (lv_at hl 2 rfl) ?_
        refine lv_aload_n hx hb d_Mo_cellOf_143 rfl (lv_at hl 3 rfl) ?_
        refine vp_callSi (va_Run.run (run_V S v_Mo_26 (c_Mo_side la G mo mc_ mv_ mk_ mx_ L n x0 y0 x1 y1 hL) ⟨rfl, rfl⟩ ⟨Nat.le_of_ble_eq_true rfl, Nat.le_of_ble_eq_true rfl⟩ (preR_V hP hk hs [0] rfl 0 rfl rfl) (rest := [.int (nI x)]) rfl hl.1 rfl (Nat.le_of_ble_eq_true rfl) d_Mo_cellOf_144 ⟨Nat.le_refl _, Nat.le_refl _⟩)) (fun r1 hr1 => ?_)
        subst hr1
        refine x_imul hx hb d_Mo_cellOf_147 ?_
        refine lv_iload hx hb d_Mo_cellOf_148 (lv_at hl 1 rfl) ?_
        refine x_iadd hx hb d_Mo_cellOf_150 ?_
        exact hret _ _ _ rfl (by have e : (x, y) = kc 0 L k := (by rw [show L = i by omega]; exact hg); rw [← e]) d_Mo_cellOf_151
      · refine lv_iconst (v := nI 1) hx hb d_Mo_cellOf_17 (by decide) ?_
        refine lv_iload hx hb d_Mo_cellOf_18 (lv_at hl 0 rfl) ?_
        refine x_ishl hx hb d_Mo_cellOf_20 (by omega) (by rw [Nat.one_mul]; omega) ?_
        refine x_reN (b := 2 ^ i) (Nat.one_mul _) ?_
        refine lv_istore hx hb d_Mo_cellOf_21 hl (by decide) rfl (fun ls hl => ?_)
        have hl : lv_has ls 9 [(6, .int (nI (2 ^ i))), (5, .int (nI i)), (4, .int (nI y)), (3, .int (nI x)), (0, .ref mo), (1, .int (nI 0)), (2, .int (nI k))] := hl
        refine lv_iload_n hx hb d_Mo_cellOf_23 rfl (lv_at hl 6 rfl) ?_
        refine lv_iconst (v := nI 2) hx hb d_Mo_cellOf_24 (by decide) ?_
        refine lv_iload hx hb d_Mo_cellOf_25 (lv_at hl 1 rfl) ?_
        refine x_imul hx hb d_Mo_cellOf_27 ?_
        refine x_ishr hx hb d_Mo_cellOf_28 (by omega) (by omega) ?_
        refine lv_iconst (v := nI 3) hx hb d_Mo_cellOf_29 (by decide) ?_
        refine x_iand3 hx hb d_Mo_cellOf_30 (by omega) ?_
        refine lv_istore hx hb d_Mo_cellOf_31 hl (by decide) rfl (fun ls hl => ?_)
        have hl : lv_has ls 9 [(7, .int (nI ((k / 2 ^ (2 * i)) % 4))), (6, .int (nI (2 ^ i))), (5, .int (nI i)), (4, .int (nI y)), (3, .int (nI x)), (0, .ref mo), (1, .int (nI 0)), (2, .int (nI k))] := hl
        refine lv_iload_n hx hb d_Mo_cellOf_33 rfl (lv_at hl 6 rfl) ?_
        refine lv_if_ne hx hb d_Mo_cellOf_34 (tgt := 62) (by decide) (fun h => absurd rfl h) (fun _ => ?_)
        refine lv_iload_n hx hb d_Mo_cellOf_37 rfl (lv_at hl 4 rfl) ?_
        refine lv_iload hx hb d_Mo_cellOf_38 (lv_at hl 1 rfl) ?_
        refine lv_iload hx hb d_Mo_cellOf_40 (lv_at hl 0 rfl) ?_
        refine lv_iconst (v := nI 1) hx hb d_Mo_cellOf_42 (by decide) ?_
        refine x_iand1 hx hb d_Mo_cellOf_43 (by omega) ?_
        refine x_imul hx hb d_Mo_cellOf_44 ?_
        refine x_iadd hx hb d_Mo_cellOf_45 ?_
        refine lv_istore_n hx hb d_Mo_cellOf_46 rfl hl (by decide) rfl (fun ls hl => ?_)
        have hl : lv_has ls 9 [(3, .int (nI (x + ((2 ^ i) * (((k / 2 ^ (2 * i)) % 4) % 2))))), (7, .int (nI ((k / 2 ^ (2 * i)) % 4))), (6, .int (nI (2 ^ i))), (5, .int (nI i)), (4, .int (nI y)), (0, .ref mo), (1, .int (nI 0)), (2, .int (nI k))] := hl
        refine lv_iload hx hb d_Mo_cellOf_47 (lv_at hl 4 rfl) ?_
        refine lv_iload hx hb d_Mo_cellOf_49 (lv_at hl 2 rfl) ?_
        refine lv_iload hx hb d_Mo_cellOf_51 (lv_at hl 1 rfl) ?_
        refine lv_iconst (v := nI 1) hx hb d_Mo_cellOf_53 (by decide) ?_
        refine x_ishr hx hb d_Mo_cellOf_54 (by omega) (by omega) ?_
        refine x_imul hx hb d_Mo_cellOf_55 ?_
        refine x_iadd hx hb d_Mo_cellOf_56 ?_
        refine lv_istore hx hb d_Mo_cellOf_57 hl (by decide) rfl (fun ls hl => ?_)
        have hl : lv_has ls 9 [(4, .int (nI (y + ((2 ^ i) * (((k / 2 ^ (2 * i)) % 4) / 2 ^ 1))))), (3, .int (nI (x + ((2 ^ i) * (((k / 2 ^ (2 * i)) % 4) % 2))))), (7, .int (nI ((k / 2 ^ (2 * i)) % 4))), (6, .int (nI (2 ^ i))), (5, .int (nI i)), (0, .ref mo), (1, .int (nI 0)), (2, .int (nI k))] := hl
        refine lv_goto hx hb d_Mo_cellOf_59 (tgt := 136) (by decide) ?_
        refine lv_iinc (v := nI (i + 1)) hx hb d_Mo_cellOf_136 hl (k := 4) rfl (ii_p _ 1) (by decide) rfl (fun ls hl => ?_)
        have hl : lv_has ls 9 [(5, .int (nI (i + 1))), (4, .int (nI (y + ((2 ^ i) * (((k / 2 ^ (2 * i)) % 4) / 2 ^ 1))))), (3, .int (nI (x + ((2 ^ i) * (((k / 2 ^ (2 * i)) % 4) % 2))))), (7, .int (nI ((k / 2 ^ (2 * i)) % 4))), (6, .int (nI (2 ^ i))), (0, .ref mo), (1, .int (nI 0)), (2, .int (nI k))] := hl
        refine lv_goto hx hb d_Mo_cellOf_139 (tgt := 8) (by decide) ?_
        have hl := lv_sub hl [0, 1, 2, 5, 6, 7] rfl
        exact ih (i + 1) _ _ _ (by omega) hl (by omega) (by show _ = ((wcx i k).1 + 2 ^ i * (k / (2 ^ i * 2 ^ i) % 4 % 2), (wcx i k).2 + 2 ^ i * (k / (2 ^ i * 2 ^ i) % 4 / 2)); rw [← hg, e22, Nat.pow_one])
  · have hl : lv_has ls 9 [(0, .ref mo), (1, .int (nI 1)), (2, .int (nI k))] := hl
    refine lv_iconst (v := nI 0) hx hb d_Mo_cellOf_0 (by decide) ?_
    refine lv_istore_n hx hb d_Mo_cellOf_1 rfl hl (by decide) rfl (fun ls hl => ?_)
    have hl : lv_has ls 9 [(3, .int (nI 0)), (0, .ref mo), (1, .int (nI 1)), (2, .int (nI k))] := hl
    refine lv_iconst (v := nI 0) hx hb d_Mo_cellOf_2 (by decide) ?_
    refine lv_istore hx hb d_Mo_cellOf_3 hl (by decide) rfl (fun ls hl => ?_)
    have hl : lv_has ls 9 [(4, .int (nI 0)), (3, .int (nI 0)), (0, .ref mo), (1, .int (nI 1)), (2, .int (nI k))] := hl
    refine lv_iconst (v := nI 0) hx hb d_Mo_cellOf_5 (by decide) ?_
    refine lv_istore hx hb d_Mo_cellOf_6 hl (by decide) rfl (fun ls hl => ?_)
    have hl : lv_has ls 9 [(5, .int (nI 0)), (4, .int (nI 0)), (3, .int (nI 0)), (0, .ref mo), (1, .int (nI 1)), (2, .int (nI k))] := hl
    have hl := lv_sub hl [0, 1, 2, 3, 4, 5] rfl
    refine (?_ : ∀ (d : Nat) (i : Nat) (x : Nat) (y : Nat) (ls : Array Slot), L - i < d → lv_has ls 9 [(5, .int (nI i)), (4, .int (nI y)), (3, .int (nI x)), (0, .ref mo), (1, .int (nI 1)), (2, .int (nI k))] → (i ≤ L) → ((x, y) = hcx i k) → W p la e _ s m _ below meth c s.heap [] 0 0 Q (F0 m 8 ls [])) (L - 0 + 1) 0 0 0 ls (Nat.lt_succ_self _) hl (Nat.zero_le _) (rfl)
    intro d
    induction d with
    | zero => intro i x y ls hd; exact absurd hd (Nat.not_lt_zero _)
    | succ d ih =>
      intro i x y ls hd hl hi hg
      have hlt := hcx_lt i k
      rw [← hg] at hlt
      dsimp only at hlt
      have hpi := Nat.two_pow_pos i
      have hpl : 2 ^ i ≤ 2 ^ L := Nat.pow_le_pow_right (by omega) hi
      have e22 := p22 i
      have b3 : k / 2 ^ (2 * i) ≤ k := Nat.div_le_self _ _
      refine lv_iload hx hb d_Mo_cellOf_8 (lv_at hl 0 rfl) ?_
      refine lv_aload_n hx hb d_Mo_cellOf_10 rfl (lv_at hl 3 rfl) ?_
      refine y_get S hk hP 0 rfl f_Mo_7 rfl d_Mo_cellOf_11 ?_
      refine x_icmp_ge hx hb d_Mo_cellOf_14 (tgt := 142) (by decide) (by omega) (by omega) (fun h14 => ?_) (fun h14 => ?_)
      · refine lv_iload_n hx hb d_Mo_cellOf_142 rfl (lv_at hl 2 rfl) ?_
        refine lv_aload_n hx hb d_Mo_cellOf_143 rfl (lv_at hl 3 rfl) ?_
        refine vp_callSi (va_Run.run (run_V S v_Mo_26 (c_Mo_side la G mo mc_ mv_ mk_ mx_ L n x0 y0 x1 y1 hL) ⟨rfl, rfl⟩ ⟨Nat.le_of_ble_eq_true rfl, Nat.le_of_ble_eq_true rfl⟩ (preR_V hP hk hs [0] rfl 0 rfl rfl) (rest := [.int (nI x)]) rfl hl.1 rfl (Nat.le_of_ble_eq_true rfl) d_Mo_cellOf_144 ⟨Nat.le_refl _, Nat.le_refl _⟩)) (fun r1 hr1 => ?_)
        subst hr1
        refine x_imul hx hb d_Mo_cellOf_147 ?_
        refine lv_iload hx hb d_Mo_cellOf_148 (lv_at hl 1 rfl) ?_
        refine x_iadd hx hb d_Mo_cellOf_150 ?_
        exact hret _ _ _ rfl (by have e : (x, y) = kc 1 L k := (by rw [show L = i by omega]; exact hg); rw [← e]) d_Mo_cellOf_151
      · refine lv_iconst (v := nI 1) hx hb d_Mo_cellOf_17 (by decide) ?_
        refine lv_iload hx hb d_Mo_cellOf_18 (lv_at hl 0 rfl) ?_
        refine x_ishl hx hb d_Mo_cellOf_20 (by omega) (by rw [Nat.one_mul]; omega) ?_
        refine x_reN (b := 2 ^ i) (Nat.one_mul _) ?_
        refine lv_istore hx hb d_Mo_cellOf_21 hl (by decide) rfl (fun ls hl => ?_)
        have hl : lv_has ls 9 [(6, .int (nI (2 ^ i))), (5, .int (nI i)), (4, .int (nI y)), (3, .int (nI x)), (0, .ref mo), (1, .int (nI 1)), (2, .int (nI k))] := hl
        refine lv_iload_n hx hb d_Mo_cellOf_23 rfl (lv_at hl 6 rfl) ?_
        refine lv_iconst (v := nI 2) hx hb d_Mo_cellOf_24 (by decide) ?_
        refine lv_iload hx hb d_Mo_cellOf_25 (lv_at hl 1 rfl) ?_
        refine x_imul hx hb d_Mo_cellOf_27 ?_
        refine x_ishr hx hb d_Mo_cellOf_28 (by omega) (by omega) ?_
        refine lv_iconst (v := nI 3) hx hb d_Mo_cellOf_29 (by decide) ?_
        refine x_iand3 hx hb d_Mo_cellOf_30 (by omega) ?_
        refine lv_istore hx hb d_Mo_cellOf_31 hl (by decide) rfl (fun ls hl => ?_)
        have hl : lv_has ls 9 [(7, .int (nI ((k / 2 ^ (2 * i)) % 4))), (6, .int (nI (2 ^ i))), (5, .int (nI i)), (4, .int (nI y)), (3, .int (nI x)), (0, .ref mo), (1, .int (nI 1)), (2, .int (nI k))] := hl
        refine lv_iload_n hx hb d_Mo_cellOf_33 rfl (lv_at hl 6 rfl) ?_
        refine lv_if_ne hx hb d_Mo_cellOf_34 (tgt := 62) (by decide) (fun _ => ?_) (fun h => absurd h (by decide))
        refine lv_iload_n hx hb d_Mo_cellOf_62 rfl (lv_at hl 4 rfl) ?_
        refine lv_istore hx hb d_Mo_cellOf_63 hl (by decide) rfl (fun ls hl => ?_)
        have hl : lv_has ls 9 [(8, .int (nI x)), (7, .int (nI ((k / 2 ^ (2 * i)) % 4))), (6, .int (nI (2 ^ i))), (5, .int (nI i)), (4, .int (nI y)), (3, .int (nI x)), (0, .ref mo), (1, .int (nI 1)), (2, .int (nI k))] := hl
        refine lv_iload hx hb d_Mo_cellOf_65 (lv_at hl 1 rfl) ?_
        refine x_if_ne hx hb d_Mo_cellOf_67 (tgt := 80) (by decide) (by omega) (fun h67 => ?_) (fun h67 => ?_)
        · refine lv_iload hx hb d_Mo_cellOf_80 (lv_at hl 1 rfl) ?_
          refine lv_iconst (v := nI 1) hx hb d_Mo_cellOf_82 (by decide) ?_
          refine x_icmp_ne hx hb d_Mo_cellOf_83 (tgt := 96) (by decide) (by omega) (by omega) (fun h83 => ?_) (fun h83 => ?_)
          · refine lv_iload hx hb d_Mo_cellOf_96 (lv_at hl 1 rfl) ?_
            refine lv_iconst (v := nI 2) hx hb d_Mo_cellOf_98 (by decide) ?_
            refine x_icmp_ne hx hb d_Mo_cellOf_99 (tgt := 117) (by decide) (by omega) (by omega) (fun h99 => ?_) (fun h99 => ?_)
            · refine lv_iconst (v := nI 2) hx hb d_Mo_cellOf_117 (by decide) ?_
              refine lv_iload hx hb d_Mo_cellOf_118 (lv_at hl 2 rfl) ?_
              refine x_imul hx hb d_Mo_cellOf_120 ?_
              refine lv_iconst (v := nI 1) hx hb d_Mo_cellOf_121 (by decide) ?_
              refine x_isub hx hb d_Mo_cellOf_122 (by omega) ?_
              refine lv_iload hx hb d_Mo_cellOf_123 (lv_at hl 4 rfl) ?_
              refine x_isub hx hb d_Mo_cellOf_125 (by omega) ?_
              refine lv_istore_n hx hb d_Mo_cellOf_126 rfl hl (by decide) rfl (fun ls hl => ?_)
              have hl : lv_has ls 9 [(3, .int (nI (((2 * (2 ^ i)) - 1) - y))), (8, .int (nI x)), (7, .int (nI ((k / 2 ^ (2 * i)) % 4))), (6, .int (nI (2 ^ i))), (5, .int (nI i)), (4, .int (nI y)), (0, .ref mo), (1, .int (nI 1)), (2, .int (nI k))] := hl
              refine lv_iload hx hb d_Mo_cellOf_127 (lv_at hl 3 rfl) ?_
              refine lv_iconst (v := nI 1) hx hb d_Mo_cellOf_129 (by decide) ?_
              refine x_isub hx hb d_Mo_cellOf_130 (by omega) ?_
              refine lv_iload hx hb d_Mo_cellOf_131 (lv_at hl 1 rfl) ?_
              refine x_isub hx hb d_Mo_cellOf_133 (by omega) ?_
              refine lv_istore hx hb d_Mo_cellOf_134 hl (by decide) rfl (fun ls hl => ?_)
              have hl : lv_has ls 9 [(4, .int (nI (((2 ^ i) - 1) - x))), (3, .int (nI (((2 * (2 ^ i)) - 1) - y))), (8, .int (nI x)), (7, .int (nI ((k / 2 ^ (2 * i)) % 4))), (6, .int (nI (2 ^ i))), (5, .int (nI i)), (0, .ref mo), (1, .int (nI 1)), (2, .int (nI k))] := hl
              refine lv_iinc (v := nI (i + 1)) hx hb d_Mo_cellOf_136 hl (k := 5) rfl (ii_p _ 1) (by decide) rfl (fun ls hl => ?_)
              have hl : lv_has ls 9 [(5, .int (nI (i + 1))), (4, .int (nI (((2 ^ i) - 1) - x))), (3, .int (nI (((2 * (2 ^ i)) - 1) - y))), (8, .int (nI x)), (7, .int (nI ((k / 2 ^ (2 * i)) % 4))), (6, .int (nI (2 ^ i))), (0, .ref mo), (1, .int (nI 1)), (2, .int (nI k))] := hl
              refine lv_goto hx hb d_Mo_cellOf_139 (tgt := 8) (by decide) ?_
              have hl := lv_sub hl [0, 1, 2, 6, 7, 8] rfl
              exact ih (i + 1) _ _ _ (by omega) hl (by omega) (by rw [hcx_3 (by rw [← e22]; omega), ← hg])
            · refine lv_iload_n hx hb d_Mo_cellOf_102 rfl (lv_at hl 5 rfl) ?_
              refine lv_iload hx hb d_Mo_cellOf_103 (lv_at hl 2 rfl) ?_
              refine x_iadd hx hb d_Mo_cellOf_105 ?_
              refine lv_istore_n hx hb d_Mo_cellOf_106 rfl hl (by decide) rfl (fun ls hl => ?_)
              have hl : lv_has ls 9 [(3, .int (nI (x + (2 ^ i)))), (8, .int (nI x)), (7, .int (nI ((k / 2 ^ (2 * i)) % 4))), (6, .int (nI (2 ^ i))), (5, .int (nI i)), (4, .int (nI y)), (0, .ref mo), (1, .int (nI 1)), (2, .int (nI k))] := hl
              refine lv_iload hx hb d_Mo_cellOf_107 (lv_at hl 5 rfl) ?_
              refine lv_iload hx hb d_Mo_cellOf_109 (lv_at hl 3 rfl) ?_
              refine x_iadd hx hb d_Mo_cellOf_111 ?_
              refine lv_istore hx hb d_Mo_cellOf_112 hl (by decide) rfl (fun ls hl => ?_)
              have hl : lv_has ls 9 [(4, .int (nI (y + (2 ^ i)))), (3, .int (nI (x + (2 ^ i)))), (8, .int (nI x)), (7, .int (nI ((k / 2 ^ (2 * i)) % 4))), (6, .int (nI (2 ^ i))), (5, .int (nI i)), (0, .ref mo), (1, .int (nI 1)), (2, .int (nI k))] := hl
              refine lv_goto hx hb d_Mo_cellOf_114 (tgt := 136) (by decide) ?_
              refine lv_iinc (v := nI (i + 1)) hx hb d_Mo_cellOf_136 hl (k := 5) rfl (ii_p _ 1) (by decide) rfl (fun ls hl => ?_)
              have hl : lv_has ls 9 [(5, .int (nI (i + 1))), (4, .int (nI (y + (2 ^ i)))), (3, .int (nI (x + (2 ^ i)))), (8, .int (nI x)), (7, .int (nI ((k / 2 ^ (2 * i)) % 4))), (6, .int (nI (2 ^ i))), (0, .ref mo), (1, .int (nI 1)), (2, .int (nI k))] := hl
              refine lv_goto hx hb d_Mo_cellOf_139 (tgt := 8) (by decide) ?_
              have hl := lv_sub hl [0, 1, 2, 6, 7, 8] rfl
              exact ih (i + 1) _ _ _ (by omega) hl (by omega) (by rw [hcx_2 (by rw [← e22]; exact h99), ← hg])
          · refine lv_iload hx hb d_Mo_cellOf_86 (lv_at hl 4 rfl) ?_
            refine lv_iload hx hb d_Mo_cellOf_88 (lv_at hl 2 rfl) ?_
            refine x_iadd hx hb d_Mo_cellOf_90 ?_
            refine lv_istore hx hb d_Mo_cellOf_91 hl (by decide) rfl (fun ls hl => ?_)
            have hl : lv_has ls 9 [(4, .int (nI (y + (2 ^ i)))), (8, .int (nI x)), (7, .int (nI ((k / 2 ^ (2 * i)) % 4))), (6, .int (nI (2 ^ i))), (5, .int (nI i)), (3, .int (nI x)), (0, .ref mo), (1, .int (nI 1)), (2, .int (nI k))] := hl
            refine lv_goto hx hb d_Mo_cellOf_93 (tgt := 136) (by decide) ?_
            refine lv_iinc (v := nI (i + 1)) hx hb d_Mo_cellOf_136 hl (k := 4) rfl (ii_p _ 1) (by decide) rfl (fun ls hl => ?_)
            have hl : lv_has ls 9 [(5, .int (nI (i + 1))), (4, .int (nI (y + (2 ^ i)))), (8, .int (nI x)), (7, .int (nI ((k / 2 ^ (2 * i)) % 4))), (6, .int (nI (2 ^ i))), (3, .int (nI x)), (0, .ref mo), (1, .int (nI 1)), (2, .int (nI k))] := hl
            refine lv_goto hx hb d_Mo_cellOf_139 (tgt := 8) (by decide) ?_
            have hl := lv_sub hl [0, 1, 5, 6, 7, 8] rfl
            exact ih (i + 1) _ _ _ (by omega) hl (by omega) (by rw [hcx_1 (by rw [← e22]; exact h83), ← hg])
        · refine lv_iload hx hb d_Mo_cellOf_70 (lv_at hl 4 rfl) ?_
          refine lv_istore_n hx hb d_Mo_cellOf_72 rfl hl (by decide) rfl (fun ls hl => ?_)
          have hl : lv_has ls 9 [(3, .int (nI y)), (8, .int (nI x)), (7, .int (nI ((k / 2 ^ (2 * i)) % 4))), (6, .int (nI (2 ^ i))), (5, .int (nI i)), (4, .int (nI y)), (0, .ref mo), (1, .int (nI 1)), (2, .int (nI k))] := hl
          refine lv_iload hx hb d_Mo_cellOf_73 (lv_at hl 1 rfl) ?_
          refine lv_istore hx hb d_Mo_cellOf_75 hl (by decide) rfl (fun ls hl => ?_)
          have hl : lv_has ls 9 [(4, .int (nI x)), (3, .int (nI y)), (8, .int (nI x)), (7, .int (nI ((k / 2 ^ (2 * i)) % 4))), (6, .int (nI (2 ^ i))), (5, .int (nI i)), (0, .ref mo), (1, .int (nI 1)), (2, .int (nI k))] := hl
          refine lv_goto hx hb d_Mo_cellOf_77 (tgt := 136) (by decide) ?_
          refine lv_iinc (v := nI (i + 1)) hx hb d_Mo_cellOf_136 hl (k := 5) rfl (ii_p _ 1) (by decide) rfl (fun ls hl => ?_)
          have hl : lv_has ls 9 [(5, .int (nI (i + 1))), (4, .int (nI x)), (3, .int (nI y)), (8, .int (nI x)), (7, .int (nI ((k / 2 ^ (2 * i)) % 4))), (6, .int (nI (2 ^ i))), (0, .ref mo), (1, .int (nI 1)), (2, .int (nI k))] := hl
          refine lv_goto hx hb d_Mo_cellOf_139 (tgt := 8) (by decide) ?_
          have hl := lv_sub hl [0, 1, 2, 6, 7, 8] rfl
          exact ih (i + 1) _ _ _ (by omega) hl (by omega) (by rw [hcx_0 (by rw [← e22]; exact h67), ← hg])
set_option maxHeartbeats 4000000 in
set_option maxRecDepth 100000 in
theorem c_Mo_find (la : Launch) (G : gG) (mo mc_ mv_ mk_ mx_ L n x0 y0 x1 y1 : Nat) (C : Nat → Nat) (cn : Nat) (hn : n ≤ 500) (hC : bd C) (hcn : cn < 2147483648) : MetR la y_Mo_find b_Mo_find 3 .int 0 0 [.ref mo, .int (nI cn)] G [(mo, .inr (4, [.int (nI L), .int (nI n), .ref mc_, .ref mv_, .int (nI x0), .int (nI y0), .int (nI x1), .int (nI y1), .ref mk_, .ref mx_])), (mc_, .inl (G.2.1, 500, .inl (fun zz => nI (C zz))))] (fun r => ∃ k, fnd n C cn k ∧ r = nI k) := by
  refine MetR.mk (by decide +kernel) (Nat.le_of_ble_eq_true rfl) ?_
  intro p e s m below meth c Q ls S hP hk hs hret hl
  have hx := S.1
  have hb := S.2.1
  have hl : lv_has ls 3 [(0, .ref mo), (1, .int (nI cn))] := hl
  refine lv_iconst (v := nI 0) hx hb d_Mo_find_0 (by decide) ?_
  refine lv_istore_n hx hb d_Mo_find_1 rfl hl (by decide) rfl (fun ls hl => ?_)
  have hl : lv_has ls 3 [(2, .int (nI 0)), (0, .ref mo), (1, .int (nI cn))] := hl
  refine (?_ : ∀ (d : Nat) (q : Nat) (ls : Array Slot), n - q < d → lv_has ls 3 [(2, .int (nI q)), (0, .ref mo), (1, .int (nI cn))] → (q ≤ n) → (∀ i, i < q → C i ≠ cn) → W p la e _ s m _ below meth c s.heap [] 0 0 Q (F0 m 2 ls [])) (n - 0 + 1) 0 ls (Nat.lt_succ_self _) hl (Nat.zero_le _) (fun i h => absurd h (Nat.not_lt_zero _))
  intro d
  induction d with
  | zero => intro q ls hd; exact absurd hd (Nat.not_lt_zero _)
  | succ d ih =>
    intro q ls hd hl hq hlt
    refine lv_iload_n hx hb d_Mo_find_2 rfl (lv_at hl 0 rfl) ?_
    refine lv_aload_n hx hb d_Mo_find_3 rfl (lv_at hl 1 rfl) ?_
    refine y_get S hk hP 0 rfl f_Mo_30 rfl d_Mo_find_4 ?_
    refine x_icmp_ge hx hb d_Mo_find_7 (tgt := 26) (by decide) (by omega) (by omega) (fun h7 => ?_) (fun h7 => ?_)
    · refine lv_iload_n hx hb d_Mo_find_26 rfl (lv_at hl 0 rfl) ?_
      exact hret _ _ _ rfl (⟨q, ⟨hq, hlt, fun h => by first | exact absurd h (by omega) | exact h17⟩, rfl⟩) d_Mo_find_27
    · refine lv_aload_n hx hb d_Mo_find_10 rfl (lv_at hl 1 rfl) ?_
      refine y_get S hk hP 0 rfl f_Mo_13 rfl d_Mo_find_11 ?_
      refine lv_iload_n hx hb d_Mo_find_14 rfl (lv_at hl 0 rfl) ?_
      refine y_ald hx hb hk hP 1 rfl (by omega) (by decide) d_Mo_find_15 ?_
      refine lv_iload_n hx hb d_Mo_find_16 rfl (lv_at hl 2 rfl) ?_
      refine x_icmp_eq hx hb d_Mo_find_17 (tgt := 26) (by decide) (hC _) (hcn) (fun h17 => ?_) (fun h17 => ?_)
      · refine lv_iload_n hx hb d_Mo_find_26 rfl (lv_at hl 0 rfl) ?_
        exact hret _ _ _ rfl (⟨q, ⟨hq, hlt, fun h => by first | exact absurd h (by omega) | exact h17⟩, rfl⟩) d_Mo_find_27
      · refine lv_iinc (v := nI (q + 1)) hx hb d_Mo_find_20 hl (k := 0) rfl (ii_p _ 1) (by decide) rfl (fun ls hl => ?_)
        have hl : lv_has ls 3 [(2, .int (nI (q + 1))), (0, .ref mo), (1, .int (nI cn))] := hl
        refine lv_goto hx hb d_Mo_find_23 (tgt := 2) (by decide) ?_
        have hl := lv_sub hl [0, 1, 2] rfl
        exact ih (q + 1) _ (by omega) hl (by omega) (fun i h => by rcases Nat.lt_or_ge i q with g | g; exact hlt i g; obtain rfl : i = q := (by omega); exact h17)
set_option maxHeartbeats 4000000 in
set_option maxRecDepth 100000 in
theorem c_Mo_isInside (la : Launch) (G : gG) (mo mc_ mv_ mk_ mx_ L n x0 y0 x1 y1 : Nat) (C : Nat → Nat) (k : Nat) (hL : L ≤ 15) (hC : bd C) (h0 : x0 < 32768) (h1 : y0 < 32768) (h2 : x1 < 32768) (h3 : y1 < 32768) (hk' : k < 500) : MetR la y_Mo_isInside b_Mo_isInside 4 .boolean 1 20 [.ref mo, .int (nI k)] G [(mo, .inr (4, [.int (nI L), .int (nI n), .ref mc_, .ref mv_, .int (nI x0), .int (nI y0), .int (nI x1), .int (nI y1), .ref mk_, .ref mx_])), (mc_, .inl (G.2.1, 500, .inl (fun zz => nI (C zz))))] (fun r => (r = 1 ∧ inc L (x0, y0, x1, y1) (C k) = true) ∨ (r = 0 ∧ inc L (x0, y0, x1, y1) (C k) = false)) := by
  refine MetR.mk (by decide +kernel) (Nat.le_of_ble_eq_true rfl) ?_
  intro p e s m below meth c Q ls S hP hk hs hret hl
  have hx := S.1
  have hb := S.2.1
  have hp := p2_15 hL
  have hpp := Nat.two_pow_pos L
  have hck := hC k
  have hd1 : C k / 2 ^ L ≤ C k := Nat.div_le_self _ _
  have hd2 : C k % 2 ^ L ≤ C k := Nat.mod_le _ _
  have hl : lv_has ls 4 [(0, .ref mo), (1, .int (nI k))] := hl
  refine lv_aload_n hx hb d_Mo_isInside_0 rfl (lv_at hl 0 rfl) ?_
  refine y_get S hk hP 0 rfl f_Mo_13 rfl d_Mo_isInside_1 ?_
  refine lv_iload_n hx hb d_Mo_isInside_4 rfl (lv_at hl 1 rfl) ?_
  refine y_ald hx hb hk hP 1 rfl (by omega) (by decide) d_Mo_isInside_5 ?_
  refine lv_aload_n hx hb d_Mo_isInside_6 rfl (lv_at hl 0 rfl) ?_
  refine vp_callSi (va_Run.run (run_V S v_Mo_26 (c_Mo_side la G mo mc_ mv_ mk_ mx_ L n x0 y0 x1 y1 hL) ⟨rfl, rfl⟩ ⟨Nat.le_of_ble_eq_true rfl, Nat.le_of_ble_eq_true rfl⟩ (preR_V hP hk hs [0] rfl 0 rfl rfl) (rest := [.int (nI (C k))]) rfl hl.1 rfl (Nat.le_of_ble_eq_true rfl) d_Mo_isInside_7 ⟨Nat.le_refl _, Nat.le_refl _⟩)) (fun r7 hr7 => ?_)
  subst hr7
  refine x_idiv hx hb d_Mo_isInside_10 (by omega) (by omega) (by omega) ?_
  refine lv_istore_n hx hb d_Mo_isInside_11 rfl hl (by decide) rfl (fun ls hl => ?_)
  have hl : lv_has ls 4 [(2, .int (nI ((C k) / (2 ^ L)))), (0, .ref mo), (1, .int (nI k))] := hl
  refine lv_aload_n hx hb d_Mo_isInside_12 rfl (lv_at hl 1 rfl) ?_
  refine y_get S hk hP 0 rfl f_Mo_13 rfl d_Mo_isInside_13 ?_
  refine lv_iload_n hx hb d_Mo_isInside_16 rfl (lv_at hl 2 rfl) ?_
  refine y_ald hx hb hk hP 1 rfl (by omega) (by decide) d_Mo_isInside_17 ?_
  refine lv_aload_n hx hb d_Mo_isInside_18 rfl (lv_at hl 1 rfl) ?_
  refine vp_callSi (va_Run.run (run_V S v_Mo_26 (c_Mo_side la G mo mc_ mv_ mk_ mx_ L n x0 y0 x1 y1 hL) ⟨rfl, rfl⟩ ⟨Nat.le_of_ble_eq_true rfl, Nat.le_of_ble_eq_true rfl⟩ (preR_V hP hk hs [0] rfl 0 rfl rfl) (rest := [.int (nI (C k))]) rfl hl.1 rfl (Nat.le_of_ble_eq_true rfl) d_Mo_isInside_19 ⟨Nat.le_refl _, Nat.le_refl _⟩)) (fun r19 hr19 => ?_)
  subst hr19
  refine x_irem hx hb d_Mo_isInside_22 (by omega) (by omega) (by omega) ?_
  refine lv_istore_n hx hb d_Mo_isInside_23 rfl hl (by decide) rfl (fun ls hl => ?_)
  have hl : lv_has ls 4 [(3, .int (nI ((C k) % (2 ^ L)))), (2, .int (nI ((C k) / (2 ^ L)))), (0, .ref mo), (1, .int (nI k))] := hl
  refine lv_iload_n hx hb d_Mo_isInside_24 rfl (lv_at hl 1 rfl) ?_
  refine lv_aload_n hx hb d_Mo_isInside_25 rfl (lv_at hl 2 rfl) ?_
  refine y_get S hk hP 0 rfl f_Mo_33 rfl d_Mo_isInside_26 ?_
  refine x_icmp_lt hx hb d_Mo_isInside_29 (tgt := 60) (by decide) (by omega) (by omega) (fun h29 => ?_) (fun h29 => ?_)
  · refine lv_iconst (v := nI 0) hx hb d_Mo_isInside_60 (by decide) ?_
    exact hret _ _ _ (by decide) (Or.inr ⟨by decide, decide_eq_false (by (try dsimp only); omega)⟩) d_Mo_isInside_61
  · refine lv_iload_n hx hb d_Mo_isInside_32 rfl (lv_at hl 1 rfl) ?_
    refine lv_aload_n hx hb d_Mo_isInside_33 rfl (lv_at hl 2 rfl) ?_
    refine y_get S hk hP 0 rfl f_Mo_39 rfl d_Mo_isInside_34 ?_
    refine x_icmp_gt hx hb d_Mo_isInside_37 (tgt := 60) (by decide) (by omega) (by omega) (fun h37 => ?_) (fun h37 => ?_)
    · refine lv_iconst (v := nI 0) hx hb d_Mo_isInside_60 (by decide) ?_
      exact hret _ _ _ (by decide) (Or.inr ⟨by decide, decide_eq_false (by (try dsimp only); omega)⟩) d_Mo_isInside_61
    · refine lv_iload_n hx hb d_Mo_isInside_40 rfl (lv_at hl 0 rfl) ?_
      refine lv_aload_n hx hb d_Mo_isInside_41 rfl (lv_at hl 2 rfl) ?_
      refine y_get S hk hP 0 rfl f_Mo_36 rfl d_Mo_isInside_42 ?_
      refine x_icmp_lt hx hb d_Mo_isInside_45 (tgt := 60) (by decide) (by omega) (by omega) (fun h45 => ?_) (fun h45 => ?_)
      · refine lv_iconst (v := nI 0) hx hb d_Mo_isInside_60 (by decide) ?_
        exact hret _ _ _ (by decide) (Or.inr ⟨by decide, decide_eq_false (by (try dsimp only); omega)⟩) d_Mo_isInside_61
      · refine lv_iload_n hx hb d_Mo_isInside_48 rfl (lv_at hl 0 rfl) ?_
        refine lv_aload_n hx hb d_Mo_isInside_49 rfl (lv_at hl 2 rfl) ?_
        refine y_get S hk hP 0 rfl f_Mo_42 rfl d_Mo_isInside_50 ?_
        refine x_icmp_gt hx hb d_Mo_isInside_53 (tgt := 60) (by decide) (by omega) (by omega) (fun h53 => ?_) (fun h53 => ?_)
        · refine lv_iconst (v := nI 0) hx hb d_Mo_isInside_60 (by decide) ?_
          exact hret _ _ _ (by decide) (Or.inr ⟨by decide, decide_eq_false (by (try dsimp only); omega)⟩) d_Mo_isInside_61
        · refine lv_iconst (v := nI 1) hx hb d_Mo_isInside_56 (by decide) ?_
          refine lv_goto hx hb d_Mo_isInside_57 (tgt := 61) (by decide) ?_
          exact hret _ _ _ (by decide) (Or.inl ⟨by decide, decide_eq_true (by (try dsimp only); omega)⟩) d_Mo_isInside_61
set_option maxHeartbeats 4000000 in
set_option maxRecDepth 100000 in
theorem c_Mo_keyAt (la : Launch) (G : gG) (mo mc_ mv_ mk_ mx_ L n x0 y0 x1 y1 : Nat) (C : Nat → Nat) (cu k : Nat) (hL : L ≤ 15) (hL1 : 1 ≤ L) (hC : bd C) (hcu : cu < 2) (hk' : k < 500) (hck : C k < 2 ^ L * 2 ^ L) : MetR la y_Mo_keyAt b_Mo_keyAt 3 .int 2 48 [.ref mo, .int (nI cu), .int (nI k)] G [(mo, .inr (4, [.int (nI L), .int (nI n), .ref mc_, .ref mv_, .int (nI x0), .int (nI y0), .int (nI x1), .int (nI y1), .ref mk_, .ref mx_])), (mc_, .inl (G.2.1, 500, .inl (fun zz => nI (C zz))))] (fun r => r = nI (ke cu L (C k))) := by
  refine MetR.mk (by decide +kernel) (Nat.le_of_ble_eq_true rfl) ?_
  intro p e s m below meth c Q ls S hP hk hs hret hl
  have hx := S.1
  have hb := S.2.1
  have hp := p2_15 hL
  have hpp := Nat.two_pow_pos L
  have hck' := hC k
  obtain ⟨hc1, hc2⟩ := cl_of hck
  have hl : lv_has ls 3 [(0, .ref mo), (1, .int (nI cu)), (2, .int (nI k))] := hl
  refine lv_aload_n hx hb d_Mo_keyAt_0 rfl (lv_at hl 0 rfl) ?_
  refine lv_iload_n hx hb d_Mo_keyAt_1 rfl (lv_at hl 1 rfl) ?_
  refine lv_aload_n hx hb d_Mo_keyAt_2 rfl (lv_at hl 0 rfl) ?_
  refine y_get S hk hP 0 rfl f_Mo_13 rfl d_Mo_keyAt_3 ?_
  refine lv_iload_n hx hb d_Mo_keyAt_6 rfl (lv_at hl 2 rfl) ?_
  refine y_ald hx hb hk hP 1 rfl (by omega) (by decide) d_Mo_keyAt_7 ?_
  refine lv_aload_n hx hb d_Mo_keyAt_8 rfl (lv_at hl 0 rfl) ?_
  refine vp_callSi (va_Run.run (run_V S v_Mo_26 (c_Mo_side la G mo mc_ mv_ mk_ mx_ L n x0 y0 x1 y1 hL) ⟨rfl, rfl⟩ ⟨Nat.le_of_ble_eq_true rfl, Nat.le_of_ble_eq_true rfl⟩ (preR_V hP hk hs [0] rfl 0 rfl rfl) (rest := [.int (nI (C k)), .int (nI cu), .ref mo]) rfl hl.1 rfl (Nat.le_of_ble_eq_true rfl) d_Mo_keyAt_9 ⟨Nat.le_refl _, Nat.le_refl _⟩)) (fun r9 hr9 => ?_)
  subst hr9
  refine x_idiv hx hb d_Mo_keyAt_12 (by omega) (by omega) (by omega) ?_
  refine lv_aload_n hx hb d_Mo_keyAt_13 rfl (lv_at hl 0 rfl) ?_
  refine y_get S hk hP 0 rfl f_Mo_13 rfl d_Mo_keyAt_14 ?_
  refine lv_iload_n hx hb d_Mo_keyAt_17 rfl (lv_at hl 2 rfl) ?_
  refine y_ald hx hb hk hP 1 rfl (by omega) (by decide) d_Mo_keyAt_18 ?_
  refine lv_aload_n hx hb d_Mo_keyAt_19 rfl (lv_at hl 0 rfl) ?_
  refine vp_callSi (va_Run.run (run_V S v_Mo_26 (c_Mo_side la G mo mc_ mv_ mk_ mx_ L n x0 y0 x1 y1 hL) ⟨rfl, rfl⟩ ⟨Nat.le_of_ble_eq_true rfl, Nat.le_of_ble_eq_true rfl⟩ (preR_V hP hk hs [0] rfl 0 rfl rfl) (rest := [.int (nI (C k)), .int (nI ((C k) / (2 ^ L))), .int (nI cu), .ref mo]) rfl hl.1 rfl (Nat.le_of_ble_eq_true rfl) d_Mo_keyAt_20 ⟨Nat.le_refl _, Nat.le_refl _⟩)) (fun r20 hr20 => ?_)
  subst hr20
  refine x_irem hx hb d_Mo_keyAt_23 (by omega) (by omega) (by omega) ?_
  refine vp_callSi (va_Run.run (run_V S v_Mo_53 (c_Mo_keyOf la G mo mc_ mv_ mk_ mx_ L n x0 y0 x1 y1 cu (C k / 2 ^ L) (C k % 2 ^ L) hL hL1 hcu hc1 hc2) ⟨rfl, rfl⟩ ⟨Nat.le_of_ble_eq_true rfl, Nat.le_of_ble_eq_true rfl⟩ (preR_V hP hk hs [0] rfl 0 rfl rfl) (rest := []) rfl hl.1 rfl (Nat.le_of_ble_eq_true rfl) d_Mo_keyAt_24 ⟨Nat.le_refl _, Nat.le_refl _⟩)) (fun r1 hr1 => ?_)
  subst hr1
  exact hret _ _ _ rfl (rfl) d_Mo_keyAt_27
set_option maxHeartbeats 4000000 in
set_option maxRecDepth 100000 in
theorem c_Mo_key (la : Launch) (G : gG) (mo mc_ mv_ mk_ mx_ L n x0 y0 x1 y1 : Nat) (C V K X : Nat → Nat) (cu x y : Int32) (hM : okMo (L, (n, C, V), (x0, y0, x1, y1), (K, X))) : MetR la y_Mo_key b_Mo_key 4 .int 2 48 [.ref mo, .int cu, .int x, .int y] G [(mo, .inr (4, [.int (nI L), .int (nI n), .ref mc_, .ref mv_, .int (nI x0), .int (nI y0), .int (nI x1), .int (nI y1), .ref mk_, .ref mx_])), (mc_, .inl (G.2.1, 500, .inl (fun zz => nI (C zz)))), (mv_, .inl (G.2.1, 500, .inl (fun zz => nI (V zz)))), (mk_, .inl (G.2.1, 4096, .inl (fun zz => nI (K zz)))), (mx_, .inl (G.2.1, 4096, .inl (fun zz => nI (X zz))))] (fun r => keyS L cu x y r) := by
  refine MetR.mk (by decide +kernel) (Nat.le_of_ble_eq_true rfl) ?_
  intro p e s m below meth c Q ls S hP hk hs hret hl
  have hx := S.1
  have hb := S.2.1
  have hM' := hM
  obtain ⟨⟨hL1, hL⟩, hm, ⟨hC, hV⟩, hF, hK, hX⟩ := hM
  dsimp only at hL1 hL hm hC hV hF hK hX
  have hFb := hF.b hL
  obtain ⟨hf1, hf2, hf3, hf4⟩ := hF
  dsimp only at hf1 hf2 hf3 hf4 hFb
  have hp2 := p2_15 hL
  have hp4 := p4_15 hL
  have hpp := Nat.two_pow_pos L
  have hn5 := hm.1
  have hl : lv_has ls 4 [(0, .ref mo), (1, .int cu), (2, .int x), (3, .int y)] := hl
  refine lv_iload_n hx hb d_Mo_key_0 rfl (lv_at hl 1 rfl) ?_
  refine vp_callSi (va_Run.run (run_S S v_Mo_45 (c_Mo_isCurve la G cu) ⟨rfl, rfl⟩ ⟨Nat.le_of_ble_eq_true rfl, Nat.le_of_ble_eq_true rfl⟩ (preR_S hP hk hs [] rfl) (rest := []) rfl hl.1 rfl (Nat.le_of_ble_eq_true rfl) d_Mo_key_1 ⟨Nat.le_refl _, Nat.le_refl _⟩)) (fun r1 hr1 => ?_)
  rcases hr1 with ⟨rfl, k, hk', rfl⟩ | ⟨rfl, q1⟩
  · have hl : lv_has ls 4 [(0, .ref mo), (1, .int (nI k)), (2, .int x), (3, .int y)] := hl
    refine lv_if_eq hx hb d_Mo_key_4 (tgt := 26) (by decide) (fun h => absurd h (by decide)) (fun _ => ?_)
    refine lv_aload_n hx hb d_Mo_key_7 rfl (lv_at hl 0 rfl) ?_
    refine lv_iload_n hx hb d_Mo_key_8 rfl (lv_at hl 2 rfl) ?_
    refine lv_iload_n hx hb d_Mo_key_9 rfl (lv_at hl 3 rfl) ?_
    refine vp_callSi (va_Run.run (run_V S v_Mo_49 (c_Mo_isCell la G mo mc_ mv_ mk_ mx_ L n x0 y0 x1 y1 x y hL) ⟨rfl, rfl⟩ ⟨Nat.le_of_ble_eq_true rfl, Nat.le_of_ble_eq_true rfl⟩ (preR_V hP hk hs [0] rfl 0 rfl rfl) (rest := []) rfl hl.1 rfl (Nat.le_of_ble_eq_true rfl) d_Mo_key_10 ⟨Nat.le_refl _, Nat.le_refl _⟩)) (fun r2 hr2 => ?_)
    rcases hr2 with ⟨rfl, a, b, ha, hb', rfl, rfl⟩ | ⟨rfl, q2⟩
    · have hl : lv_has ls 4 [(0, .ref mo), (1, .int (nI k)), (2, .int (nI a)), (3, .int (nI b))] := hl
      refine lv_if_eq hx hb d_Mo_key_13 (tgt := 26) (by decide) (fun h => absurd h (by decide)) (fun _ => ?_)
      refine lv_aload_n hx hb d_Mo_key_16 rfl (lv_at hl 0 rfl) ?_
      refine lv_iload_n hx hb d_Mo_key_17 rfl (lv_at hl 1 rfl) ?_
      refine lv_iload_n hx hb d_Mo_key_18 rfl (lv_at hl 2 rfl) ?_
      refine lv_iload_n hx hb d_Mo_key_19 rfl (lv_at hl 3 rfl) ?_
      refine vp_callSi (va_Run.run (run_V S v_Mo_53 (c_Mo_keyOf la G mo mc_ mv_ mk_ mx_ L n x0 y0 x1 y1 k a b hL hL1 hk' ha hb') ⟨rfl, rfl⟩ ⟨Nat.le_of_ble_eq_true rfl, Nat.le_of_ble_eq_true rfl⟩ (preR_V hP hk hs [0] rfl 0 rfl rfl) (rest := []) rfl hl.1 rfl (Nat.le_of_ble_eq_true rfl) d_Mo_key_20 ⟨Nat.le_refl _, Nat.le_refl _⟩)) (fun r3 hr3 => ?_)
      subst hr3
      refine lv_goto hx hb d_Mo_key_23 (tgt := 27) (by decide) ?_
      exact hret _ _ _ rfl (Or.inl ⟨k, a, b, hk', ha, hb', rfl, rfl, rfl, rfl⟩) d_Mo_key_27
    · refine lv_if_eq hx hb d_Mo_key_13 (tgt := 26) (by decide) (fun _ => ?_) (fun h => absurd (by decide) h)
      refine lv_iconst (v := (-1)) hx hb d_Mo_key_26 (by decide) ?_
      exact hret _ _ _ rfl (Or.inr ⟨by first | exact fun z => q1 z.1 | exact fun z => q2 z.2, rfl⟩) d_Mo_key_27
  · refine lv_if_eq hx hb d_Mo_key_4 (tgt := 26) (by decide) (fun _ => ?_) (fun h => absurd (by decide) h)
    refine lv_iconst (v := (-1)) hx hb d_Mo_key_26 (by decide) ?_
    exact hret _ _ _ rfl (Or.inr ⟨by first | exact fun z => q1 z.1 | exact fun z => q2 z.2, rfl⟩) d_Mo_key_27
set_option maxHeartbeats 4000000 in
set_option maxRecDepth 100000 in
theorem c_Mo_cell (la : Launch) (G : gG) (mo mc_ mv_ mk_ mx_ L n x0 y0 x1 y1 : Nat) (C V K X : Nat → Nat) (cu x : Int32) (hM : okMo (L, (n, C, V), (x0, y0, x1, y1), (K, X))) : MetR la y_Mo_cell b_Mo_cell 3 .int 2 48 [.ref mo, .int cu, .int x] G [(mo, .inr (4, [.int (nI L), .int (nI n), .ref mc_, .ref mv_, .int (nI x0), .int (nI y0), .int (nI x1), .int (nI y1), .ref mk_, .ref mx_])), (mc_, .inl (G.2.1, 500, .inl (fun zz => nI (C zz)))), (mv_, .inl (G.2.1, 500, .inl (fun zz => nI (V zz)))), (mk_, .inl (G.2.1, 4096, .inl (fun zz => nI (K zz)))), (mx_, .inl (G.2.1, 4096, .inl (fun zz => nI (X zz))))] (fun r => cellS L cu x r) := by
  refine MetR.mk (by decide +kernel) (Nat.le_of_ble_eq_true rfl) ?_
  intro p e s m below meth c Q ls S hP hk hs hret hl
  have hx := S.1
  have hb := S.2.1
  have hM' := hM
  obtain ⟨⟨hL1, hL⟩, hm, ⟨hC, hV⟩, hF, hK, hX⟩ := hM
  dsimp only at hL1 hL hm hC hV hF hK hX
  have hFb := hF.b hL
  obtain ⟨hf1, hf2, hf3, hf4⟩ := hF
  dsimp only at hf1 hf2 hf3 hf4 hFb
  have hp2 := p2_15 hL
  have hp4 := p4_15 hL
  have hpp := Nat.two_pow_pos L
  have hn5 := hm.1
  rcases ng x with hx0 | ⟨j, hj, rfl⟩
  · have hl : lv_has ls 3 [(0, .ref mo), (1, .int cu), (2, .int x)] := hl
    refine lv_iload_n hx hb d_Mo_cell_0 rfl (lv_at hl 1 rfl) ?_
    refine vp_callSi (va_Run.run (run_S S v_Mo_45 (c_Mo_isCurve la G cu) ⟨rfl, rfl⟩ ⟨Nat.le_of_ble_eq_true rfl, Nat.le_of_ble_eq_true rfl⟩ (preR_S hP hk hs [] rfl) (rest := []) rfl hl.1 rfl (Nat.le_of_ble_eq_true rfl) d_Mo_cell_1 ⟨Nat.le_refl _, Nat.le_refl _⟩)) (fun r1 hr1 => ?_)
    rcases hr1 with ⟨rfl, k, hk', rfl⟩ | ⟨rfl, q1⟩
    · have hl : lv_has ls 3 [(0, .ref mo), (1, .int (nI k)), (2, .int x)] := hl
      refine lv_if_eq hx hb d_Mo_cell_4 (tgt := 33) (by decide) (fun h => absurd h (by decide)) (fun _ => ?_)
      refine lv_iload_n hx hb d_Mo_cell_7 rfl (lv_at hl 2 rfl) ?_
      refine lv_if_lt hx hb d_Mo_cell_8 (tgt := 33) (by decide) (fun _ => ?_) (fun h => absurd hx0 h)
      refine lv_iconst (v := (-1)) hx hb d_Mo_cell_33 (by decide) ?_
      exact hret _ _ _ rfl (Or.inr ⟨by first | exact fun z => q1 z.1 | (rintro ⟨-, i, hi, rfl⟩; exact nI_pos (by omega) hx0) | (rintro ⟨-, i, hi, e⟩; rw [nI_eq hj (by omega)] at e; omega), rfl⟩) d_Mo_cell_34
    · refine lv_if_eq hx hb d_Mo_cell_4 (tgt := 33) (by decide) (fun _ => ?_) (fun h => absurd (by decide) h)
      refine lv_iconst (v := (-1)) hx hb d_Mo_cell_33 (by decide) ?_
      exact hret _ _ _ rfl (Or.inr ⟨by first | exact fun z => q1 z.1 | (rintro ⟨-, i, hi, rfl⟩; exact nI_pos (by omega) hx0) | (rintro ⟨-, i, hi, e⟩; rw [nI_eq hj (by omega)] at e; omega), rfl⟩) d_Mo_cell_34
  · have hl : lv_has ls 3 [(0, .ref mo), (1, .int cu), (2, .int (nI j))] := hl
    refine lv_iload_n hx hb d_Mo_cell_0 rfl (lv_at hl 1 rfl) ?_
    refine vp_callSi (va_Run.run (run_S S v_Mo_45 (c_Mo_isCurve la G cu) ⟨rfl, rfl⟩ ⟨Nat.le_of_ble_eq_true rfl, Nat.le_of_ble_eq_true rfl⟩ (preR_S hP hk hs [] rfl) (rest := []) rfl hl.1 rfl (Nat.le_of_ble_eq_true rfl) d_Mo_cell_1 ⟨Nat.le_refl _, Nat.le_refl _⟩)) (fun r1 hr1 => ?_)
    rcases hr1 with ⟨rfl, k, hk', rfl⟩ | ⟨rfl, q1⟩
    · have hl : lv_has ls 3 [(0, .ref mo), (1, .int (nI k)), (2, .int (nI j))] := hl
      refine lv_if_eq hx hb d_Mo_cell_4 (tgt := 33) (by decide) (fun h => absurd h (by decide)) (fun _ => ?_)
      refine lv_iload_n hx hb d_Mo_cell_7 rfl (lv_at hl 2 rfl) ?_
      refine lv_if_lt hx hb d_Mo_cell_8 (tgt := 33) (by decide) (fun h => absurd h (nI_pos (by omega))) (fun _ => ?_)
      refine lv_iload_n hx hb d_Mo_cell_11 rfl (lv_at hl 2 rfl) ?_
      refine lv_aload_n hx hb d_Mo_cell_12 rfl (lv_at hl 0 rfl) ?_
      refine vp_callSi (va_Run.run (run_V S v_Mo_26 (c_Mo_side la G mo mc_ mv_ mk_ mx_ L n x0 y0 x1 y1 hL) ⟨rfl, rfl⟩ ⟨Nat.le_of_ble_eq_true rfl, Nat.le_of_ble_eq_true rfl⟩ (preR_V hP hk hs [0] rfl 0 rfl rfl) (rest := [.int (nI j)]) rfl hl.1 rfl (Nat.le_of_ble_eq_true rfl) d_Mo_cell_13 ⟨Nat.le_refl _, Nat.le_refl _⟩)) (fun r13 hr13 => ?_)
      subst hr13
      refine lv_aload_n hx hb d_Mo_cell_16 rfl (lv_at hl 0 rfl) ?_
      refine vp_callSi (va_Run.run (run_V S v_Mo_26 (c_Mo_side la G mo mc_ mv_ mk_ mx_ L n x0 y0 x1 y1 hL) ⟨rfl, rfl⟩ ⟨Nat.le_of_ble_eq_true rfl, Nat.le_of_ble_eq_true rfl⟩ (preR_V hP hk hs [0] rfl 0 rfl rfl) (rest := [.int (nI (2 ^ L)), .int (nI j)]) rfl hl.1 rfl (Nat.le_of_ble_eq_true rfl) d_Mo_cell_17 ⟨Nat.le_refl _, Nat.le_refl _⟩)) (fun r17 hr17 => ?_)
      subst hr17
      refine x_imul hx hb d_Mo_cell_20 ?_
      refine x_icmp_ge hx hb d_Mo_cell_21 (tgt := 33) (by decide) (by omega) (by omega) (fun h21 => ?_) (fun h21 => ?_)
      · refine lv_iconst (v := (-1)) hx hb d_Mo_cell_33 (by decide) ?_
        exact hret _ _ _ rfl (Or.inr ⟨by first | exact fun z => q1 z.1 | (rintro ⟨-, i, hi, rfl⟩; exact nI_pos (by omega) hx0) | (rintro ⟨-, i, hi, e⟩; rw [nI_eq hj (by omega)] at e; omega), rfl⟩) d_Mo_cell_34
      · refine lv_aload_n hx hb d_Mo_cell_24 rfl (lv_at hl 0 rfl) ?_
        refine lv_iload_n hx hb d_Mo_cell_25 rfl (lv_at hl 1 rfl) ?_
        refine lv_iload_n hx hb d_Mo_cell_26 rfl (lv_at hl 2 rfl) ?_
        refine vp_callSi (va_Run.run (run_V S v_Mo_57 (c_Mo_cellOf la G mo mc_ mv_ mk_ mx_ L n x0 y0 x1 y1 k j hL hk' (by omega)) ⟨rfl, rfl⟩ ⟨Nat.le_of_ble_eq_true rfl, Nat.le_of_ble_eq_true rfl⟩ (preR_V hP hk hs [0] rfl 0 rfl rfl) (rest := []) rfl hl.1 rfl (Nat.le_of_ble_eq_true rfl) d_Mo_cell_27 ⟨Nat.le_refl _, Nat.le_refl _⟩)) (fun r3 hr3 => ?_)
        subst hr3
        refine lv_goto hx hb d_Mo_cell_30 (tgt := 34) (by decide) ?_
        exact hret _ _ _ rfl (Or.inl ⟨k, j, hk', by omega, rfl, rfl, rfl⟩) d_Mo_cell_34
    · refine lv_if_eq hx hb d_Mo_cell_4 (tgt := 33) (by decide) (fun _ => ?_) (fun h => absurd (by decide) h)
      refine lv_iconst (v := (-1)) hx hb d_Mo_cell_33 (by decide) ?_
      exact hret _ _ _ rfl (Or.inr ⟨by first | exact fun z => q1 z.1 | (rintro ⟨-, i, hi, rfl⟩; exact nI_pos (by omega) hx0) | (rintro ⟨-, i, hi, e⟩; rw [nI_eq hj (by omega)] at e; omega), rfl⟩) d_Mo_cell_34
set_option maxHeartbeats 4000000 in
set_option maxRecDepth 100000 in
theorem c_Mo_many (la : Launch) (G : gG) (mo mc_ mv_ mk_ mx_ L n x0 y0 x1 y1 : Nat) (C V K X : Nat → Nat)  (hM : okMo (L, (n, C, V), (x0, y0, x1, y1), (K, X))) : MetR la y_Mo_many b_Mo_many 1 .int 0 0 [.ref mo] G [(mo, .inr (4, [.int (nI L), .int (nI n), .ref mc_, .ref mv_, .int (nI x0), .int (nI y0), .int (nI x1), .int (nI y1), .ref mk_, .ref mx_])), (mc_, .inl (G.2.1, 500, .inl (fun zz => nI (C zz)))), (mv_, .inl (G.2.1, 500, .inl (fun zz => nI (V zz)))), (mk_, .inl (G.2.1, 4096, .inl (fun zz => nI (K zz)))), (mx_, .inl (G.2.1, 4096, .inl (fun zz => nI (X zz))))] (fun r => r = nI n) := by
  refine MetR.mk (by decide +kernel) (Nat.le_of_ble_eq_true rfl) ?_
  intro p e s m below meth c Q ls S hP hk hs hret hl
  have hx := S.1
  have hb := S.2.1
  have hM' := hM
  obtain ⟨⟨hL1, hL⟩, hm, ⟨hC, hV⟩, hF, hK, hX⟩ := hM
  dsimp only at hL1 hL hm hC hV hF hK hX
  have hFb := hF.b hL
  obtain ⟨hf1, hf2, hf3, hf4⟩ := hF
  dsimp only at hf1 hf2 hf3 hf4 hFb
  have hp2 := p2_15 hL
  have hp4 := p4_15 hL
  have hpp := Nat.two_pow_pos L
  have hn5 := hm.1
  have hl : lv_has ls 1 [(0, .ref mo)] := hl
  refine lv_aload_n hx hb d_Mo_many_0 rfl (lv_at hl 0 rfl) ?_
  refine y_get S hk hP 0 rfl f_Mo_30 rfl d_Mo_many_1 ?_
  exact hret _ _ _ rfl (rfl) d_Mo_many_4
set_option maxHeartbeats 4000000 in
set_option maxRecDepth 100000 in
theorem c_Mo_at (la : Launch) (G : gG) (mo mc_ mv_ mk_ mx_ L n x0 y0 x1 y1 : Nat) (C V K X : Nat → Nat) (x y : Int32) (hM : okMo (L, (n, C, V), (x0, y0, x1, y1), (K, X))) : MetR la y_Mo_at b_Mo_at 4 .int 2 42 [.ref mo, .int x, .int y] G [(mo, .inr (4, [.int (nI L), .int (nI n), .ref mc_, .ref mv_, .int (nI x0), .int (nI y0), .int (nI x1), .int (nI y1), .ref mk_, .ref mx_])), (mc_, .inl (G.2.1, 500, .inl (fun zz => nI (C zz)))), (mv_, .inl (G.2.1, 500, .inl (fun zz => nI (V zz)))), (mk_, .inl (G.2.1, 4096, .inl (fun zz => nI (K zz)))), (mx_, .inl (G.2.1, 4096, .inl (fun zz => nI (X zz))))] (fun r => atS L n C V x y r) := by
  refine MetR.mk (by decide +kernel) (Nat.le_of_ble_eq_true rfl) ?_
  intro p e s m below meth c Q ls S hP hk hs hret hl
  have hx := S.1
  have hb := S.2.1
  have hM' := hM
  obtain ⟨⟨hL1, hL⟩, hm, ⟨hC, hV⟩, hF, hK, hX⟩ := hM
  dsimp only at hL1 hL hm hC hV hF hK hX
  have hFb := hF.b hL
  obtain ⟨hf1, hf2, hf3, hf4⟩ := hF
  dsimp only at hf1 hf2 hf3 hf4 hFb
  have hp2 := p2_15 hL
  have hp4 := p4_15 hL
  have hpp := Nat.two_pow_pos L
  have hn5 := hm.1
  have hl : lv_has ls 4 [(0, .ref mo), (1, .int x), (2, .int y)] := hl
  refine lv_aload_n hx hb d_Mo_at_0 rfl (lv_at hl 0 rfl) ?_
  refine lv_iload_n hx hb d_Mo_at_1 rfl (lv_at hl 1 rfl) ?_
  refine lv_iload_n hx hb d_Mo_at_2 rfl (lv_at hl 2 rfl) ?_
  refine vp_callSi (va_Run.run (run_V S v_Mo_49 (c_Mo_isCell la G mo mc_ mv_ mk_ mx_ L n x0 y0 x1 y1 x y hL) ⟨rfl, rfl⟩ ⟨Nat.le_of_ble_eq_true rfl, Nat.le_of_ble_eq_true rfl⟩ (preR_V hP hk hs [0] rfl 0 rfl rfl) (rest := []) rfl hl.1 rfl (Nat.le_of_ble_eq_true rfl) d_Mo_at_3 ⟨Nat.le_refl _, Nat.le_refl _⟩)) (fun r1 hr1 => ?_)
  rcases hr1 with ⟨rfl, a, b, ha, hb', rfl, rfl⟩ | ⟨rfl, q1⟩
  · have hl : lv_has ls 4 [(0, .ref mo), (1, .int (nI a)), (2, .int (nI b))] := hl
    have hcm := (cl_mk ha hb').1
    refine lv_if_ne hx hb d_Mo_at_6 (tgt := 11) (by decide) (fun _ => ?_) (fun h => absurd h (by decide))
    refine lv_aload_n hx hb d_Mo_at_11 rfl (lv_at hl 0 rfl) ?_
    refine lv_iload_n hx hb d_Mo_at_12 rfl (lv_at hl 1 rfl) ?_
    refine lv_aload_n hx hb d_Mo_at_13 rfl (lv_at hl 0 rfl) ?_
    refine vp_callSi (va_Run.run (run_V S v_Mo_26 (c_Mo_side la G mo mc_ mv_ mk_ mx_ L n x0 y0 x1 y1 hL) ⟨rfl, rfl⟩ ⟨Nat.le_of_ble_eq_true rfl, Nat.le_of_ble_eq_true rfl⟩ (preR_V hP hk hs [0] rfl 0 rfl rfl) (rest := [.int (nI a), .ref mo]) rfl hl.1 rfl (Nat.le_of_ble_eq_true rfl) d_Mo_at_14 ⟨Nat.le_refl _, Nat.le_refl _⟩)) (fun r14 hr14 => ?_)
    subst hr14
    refine x_imul hx hb d_Mo_at_17 ?_
    refine lv_iload_n hx hb d_Mo_at_18 rfl (lv_at hl 2 rfl) ?_
    refine x_iadd hx hb d_Mo_at_19 ?_
    refine vp_callSi (va_Run.run (run_V S v_Mo_61 (c_Mo_find la G mo mc_ mv_ mk_ mx_ L n x0 y0 x1 y1 C (a * 2 ^ L + b) hn5 hC (by omega)) ⟨rfl, rfl⟩ ⟨Nat.le_of_ble_eq_true rfl, Nat.le_of_ble_eq_true rfl⟩ (preR_V hP hk hs [0, 1] rfl 0 rfl rfl) (rest := []) rfl hl.1 rfl (Nat.le_of_ble_eq_true rfl) d_Mo_at_20 ⟨Nat.le_refl _, Nat.le_refl _⟩)) (fun r2 hr2 => ?_)
    obtain ⟨q, hfd, rfl⟩ := hr2
    have hq := hfd.1
    refine lv_istore_n hx hb d_Mo_at_23 rfl hl (by decide) rfl (fun ls hl => ?_)
    have hl : lv_has ls 4 [(3, .int (nI q)), (0, .ref mo), (1, .int (nI a)), (2, .int (nI b))] := hl
    refine lv_iload_n hx hb d_Mo_at_24 rfl (lv_at hl 0 rfl) ?_
    refine lv_aload_n hx hb d_Mo_at_25 rfl (lv_at hl 1 rfl) ?_
    refine y_get S hk hP 0 rfl f_Mo_30 rfl d_Mo_at_26 ?_
    refine x_icmp_ge hx hb d_Mo_at_29 (tgt := 41) (by decide) (by omega) (by omega) (fun h29 => ?_) (fun h29 => ?_)
    · refine lv_iconst (v := nI 0) hx hb d_Mo_at_41 (by decide) ?_
      exact hret _ _ _ rfl (Or.inl ⟨a, b, ha, hb', rfl, rfl, by first | rw [hm.wt1 hfd h29] | rw [hfd.wt0 (by omega)]⟩) d_Mo_at_42
    · refine lv_aload_n hx hb d_Mo_at_32 rfl (lv_at hl 1 rfl) ?_
      refine y_get S hk hP 0 rfl f_Mo_17 rfl d_Mo_at_33 ?_
      refine lv_iload_n hx hb d_Mo_at_36 rfl (lv_at hl 0 rfl) ?_
      refine y_ald hx hb hk hP 2 rfl (by omega) (by decide) d_Mo_at_37 ?_
      refine lv_goto hx hb d_Mo_at_38 (tgt := 42) (by decide) ?_
      exact hret _ _ _ rfl (Or.inl ⟨a, b, ha, hb', rfl, rfl, by first | rw [hm.wt1 hfd h29] | rw [hfd.wt0 (by omega)]⟩) d_Mo_at_42
  · refine lv_if_ne hx hb d_Mo_at_6 (tgt := 11) (by decide) (fun h => absurd rfl h) (fun _ => ?_)
    refine lv_iconst (v := (-1)) hx hb d_Mo_at_9 (by decide) ?_
    exact hret _ _ _ rfl (Or.inr ⟨q1, rfl⟩) d_Mo_at_10
set_option maxHeartbeats 4000000 in
set_option maxRecDepth 100000 in
theorem c_Mo_inside (la : Launch) (G : gG) (mo mc_ mv_ mk_ mx_ L n x0 y0 x1 y1 : Nat) (C V K X : Nat → Nat)  (hM : okMo (L, (n, C, V), (x0, y0, x1, y1), (K, X))) : MetR la y_Mo_inside b_Mo_inside 3 .int 2 43 [.ref mo] G [(mo, .inr (4, [.int (nI L), .int (nI n), .ref mc_, .ref mv_, .int (nI x0), .int (nI y0), .int (nI x1), .int (nI y1), .ref mk_, .ref mx_])), (mc_, .inl (G.2.1, 500, .inl (fun zz => nI (C zz)))), (mv_, .inl (G.2.1, 500, .inl (fun zz => nI (V zz)))), (mk_, .inl (G.2.1, 4096, .inl (fun zz => nI (K zz)))), (mx_, .inl (G.2.1, 4096, .inl (fun zz => nI (X zz))))] (fun r => r = nI (ins L (x0, y0, x1, y1) n C)) := by
  refine MetR.mk (by decide +kernel) (Nat.le_of_ble_eq_true rfl) ?_
  intro p e s m below meth c Q ls S hP hk hs hret hl
  have hx := S.1
  have hb := S.2.1
  have hM' := hM
  obtain ⟨⟨hL1, hL⟩, hm, ⟨hC, hV⟩, hF, hK, hX⟩ := hM
  dsimp only at hL1 hL hm hC hV hF hK hX
  have hFb := hF.b hL
  obtain ⟨hf1, hf2, hf3, hf4⟩ := hF
  dsimp only at hf1 hf2 hf3 hf4 hFb
  have hp2 := p2_15 hL
  have hp4 := p4_15 hL
  have hpp := Nat.two_pow_pos L
  have hn5 := hm.1
  have hl : lv_has ls 3 [(0, .ref mo)] := hl
  refine lv_iconst (v := nI 0) hx hb d_Mo_inside_0 (by decide) ?_
  refine lv_istore_n hx hb d_Mo_inside_1 rfl hl (by decide) rfl (fun ls hl => ?_)
  have hl : lv_has ls 3 [(1, .int (nI 0)), (0, .ref mo)] := hl
  refine lv_iconst (v := nI 0) hx hb d_Mo_inside_2 (by decide) ?_
  refine lv_istore_n hx hb d_Mo_inside_3 rfl hl (by decide) rfl (fun ls hl => ?_)
  have hl : lv_has ls 3 [(2, .int (nI 0)), (1, .int (nI 0)), (0, .ref mo)] := hl
  refine (?_ : ∀ (d : Nat) (q : Nat) (g : Nat) (ls : Array Slot), n - q < d → lv_has ls 3 [(2, .int (nI q)), (1, .int (nI g)), (0, .ref mo)] → (q ≤ n) → (g = ins L (x0, y0, x1, y1) q C) → W p la e _ s m _ below meth c s.heap [] 0 0 Q (F0 m 4 ls [])) (n - 0 + 1) 0 0 ls (Nat.lt_succ_self _) hl (Nat.zero_le _) (rfl)
  intro d
  induction d with
  | zero => intro q g ls hd; exact absurd hd (Nat.not_lt_zero _)
  | succ d ih =>
    intro q g ls hd hl hq hg
    refine lv_iload_n hx hb d_Mo_inside_4 rfl (lv_at hl 0 rfl) ?_
    refine lv_aload_n hx hb d_Mo_inside_5 rfl (lv_at hl 2 rfl) ?_
    refine y_get S hk hP 0 rfl f_Mo_30 rfl d_Mo_inside_6 ?_
    refine x_icmp_ge hx hb d_Mo_inside_9 (tgt := 34) (by decide) (by omega) (by omega) (fun h9 => ?_) (fun h9 => ?_)
    · refine lv_iload_n hx hb d_Mo_inside_34 rfl (lv_at hl 1 rfl) ?_
      exact hret _ _ _ rfl (by rw [hg, show q = n by omega]) d_Mo_inside_35
    · refine lv_aload_n hx hb d_Mo_inside_12 rfl (lv_at hl 2 rfl) ?_
      refine lv_iload_n hx hb d_Mo_inside_13 rfl (lv_at hl 0 rfl) ?_
      refine vp_callSi (va_Run.run (run_V S v_Mo_65 (c_Mo_isInside la G mo mc_ mv_ mk_ mx_ L n x0 y0 x1 y1 C q hL hC (by omega) (by omega) (by omega) (by omega) (by omega)) ⟨rfl, rfl⟩ ⟨Nat.le_of_ble_eq_true rfl, Nat.le_of_ble_eq_true rfl⟩ (preR_V hP hk hs [0, 1] rfl 0 rfl rfl) (rest := []) rfl hl.1 rfl (Nat.le_of_ble_eq_true rfl) d_Mo_inside_14 ⟨Nat.le_refl _, Nat.le_refl _⟩)) (fun r1 hr1 => ?_)
      rcases hr1 with ⟨rfl, q1⟩ | ⟨rfl, q1⟩
      · refine lv_if_eq hx hb d_Mo_inside_17 (tgt := 26) (by decide) (fun h => absurd h (by decide)) (fun _ => ?_)
        refine lv_iload_n hx hb d_Mo_inside_20 rfl (lv_at hl 1 rfl) ?_
        refine lv_iconst (v := nI 1) hx hb d_Mo_inside_21 (by decide) ?_
        refine x_iadd hx hb d_Mo_inside_22 ?_
        refine lv_goto hx hb d_Mo_inside_23 (tgt := 27) (by decide) ?_
        refine lv_istore_n hx hb d_Mo_inside_27 rfl hl (by decide) rfl (fun ls hl => ?_)
        have hl : lv_has ls 3 [(1, .int (nI (g + 1))), (2, .int (nI q)), (0, .ref mo)] := hl
        refine lv_iinc (v := nI (q + 1)) hx hb d_Mo_inside_28 hl (k := 1) rfl (ii_p _ 1) (by decide) rfl (fun ls hl => ?_)
        have hl : lv_has ls 3 [(2, .int (nI (q + 1))), (1, .int (nI (g + 1))), (0, .ref mo)] := hl
        refine lv_goto hx hb d_Mo_inside_31 (tgt := 4) (by decide) ?_
        have hl := lv_sub hl [0, 1, 2] rfl
        exact ih (q + 1) _ _ (by omega) hl (by omega) (by first | rw [hg, ins_1 q1] | rw [hg, ins_0 q1])
      · refine lv_if_eq hx hb d_Mo_inside_17 (tgt := 26) (by decide) (fun _ => ?_) (fun h => absurd (by decide) h)
        refine lv_iload_n hx hb d_Mo_inside_26 rfl (lv_at hl 1 rfl) ?_
        refine lv_istore_n hx hb d_Mo_inside_27 rfl hl (by decide) rfl (fun ls hl => ?_)
        have hl : lv_has ls 3 [(1, .int (nI g)), (2, .int (nI q)), (0, .ref mo)] := hl
        refine lv_iinc (v := nI (q + 1)) hx hb d_Mo_inside_28 hl (k := 1) rfl (ii_p _ 1) (by decide) rfl (fun ls hl => ?_)
        have hl : lv_has ls 3 [(2, .int (nI (q + 1))), (1, .int (nI g)), (0, .ref mo)] := hl
        refine lv_goto hx hb d_Mo_inside_31 (tgt := 4) (by decide) ?_
        have hl := lv_sub hl [0, 1, 2] rfl
        exact ih (q + 1) _ _ (by omega) hl (by omega) (by first | rw [hg, ins_1 q1] | rw [hg, ins_0 q1])
set_option maxHeartbeats 4000000 in
set_option maxRecDepth 100000 in
theorem c_Mo_sum (la : Launch) (G : gG) (mo mc_ mv_ mk_ mx_ L n x0 y0 x1 y1 : Nat) (C V K X : Nat → Nat)  (hM : okMo (L, (n, C, V), (x0, y0, x1, y1), (K, X))) : MetR la y_Mo_sum b_Mo_sum 3 .int 2 43 [.ref mo] G [(mo, .inr (4, [.int (nI L), .int (nI n), .ref mc_, .ref mv_, .int (nI x0), .int (nI y0), .int (nI x1), .int (nI y1), .ref mk_, .ref mx_])), (mc_, .inl (G.2.1, 500, .inl (fun zz => nI (C zz)))), (mv_, .inl (G.2.1, 500, .inl (fun zz => nI (V zz)))), (mk_, .inl (G.2.1, 4096, .inl (fun zz => nI (K zz)))), (mx_, .inl (G.2.1, 4096, .inl (fun zz => nI (X zz))))] (fun r => r = nI (sum L (x0, y0, x1, y1) n C V)) := by
  refine MetR.mk (by decide +kernel) (Nat.le_of_ble_eq_true rfl) ?_
  intro p e s m below meth c Q ls S hP hk hs hret hl
  have hx := S.1
  have hb := S.2.1
  have hM' := hM
  obtain ⟨⟨hL1, hL⟩, hm, ⟨hC, hV⟩, hF, hK, hX⟩ := hM
  dsimp only at hL1 hL hm hC hV hF hK hX
  have hFb := hF.b hL
  obtain ⟨hf1, hf2, hf3, hf4⟩ := hF
  dsimp only at hf1 hf2 hf3 hf4 hFb
  have hp2 := p2_15 hL
  have hp4 := p4_15 hL
  have hpp := Nat.two_pow_pos L
  have hn5 := hm.1
  have hl : lv_has ls 3 [(0, .ref mo)] := hl
  refine lv_iconst (v := nI 0) hx hb d_Mo_sum_0 (by decide) ?_
  refine lv_istore_n hx hb d_Mo_sum_1 rfl hl (by decide) rfl (fun ls hl => ?_)
  have hl : lv_has ls 3 [(1, .int (nI 0)), (0, .ref mo)] := hl
  refine lv_iconst (v := nI 0) hx hb d_Mo_sum_2 (by decide) ?_
  refine lv_istore_n hx hb d_Mo_sum_3 rfl hl (by decide) rfl (fun ls hl => ?_)
  have hl : lv_has ls 3 [(2, .int (nI 0)), (1, .int (nI 0)), (0, .ref mo)] := hl
  refine (?_ : ∀ (d : Nat) (q : Nat) (g : Nat) (ls : Array Slot), n - q < d → lv_has ls 3 [(2, .int (nI q)), (1, .int (nI g)), (0, .ref mo)] → (q ≤ n) → (g = sum L (x0, y0, x1, y1) q C V) → W p la e _ s m _ below meth c s.heap [] 0 0 Q (F0 m 4 ls [])) (n - 0 + 1) 0 0 ls (Nat.lt_succ_self _) hl (Nat.zero_le _) (rfl)
  intro d
  induction d with
  | zero => intro q g ls hd; exact absurd hd (Nat.not_lt_zero _)
  | succ d ih =>
    intro q g ls hd hl hq hg
    refine lv_iload_n hx hb d_Mo_sum_4 rfl (lv_at hl 0 rfl) ?_
    refine lv_aload_n hx hb d_Mo_sum_5 rfl (lv_at hl 2 rfl) ?_
    refine y_get S hk hP 0 rfl f_Mo_30 rfl d_Mo_sum_6 ?_
    refine x_icmp_ge hx hb d_Mo_sum_9 (tgt := 39) (by decide) (by omega) (by omega) (fun h9 => ?_) (fun h9 => ?_)
    · refine lv_iload_n hx hb d_Mo_sum_39 rfl (lv_at hl 1 rfl) ?_
      exact hret _ _ _ rfl (by rw [hg, show q = n by omega]) d_Mo_sum_40
    · refine lv_aload_n hx hb d_Mo_sum_12 rfl (lv_at hl 2 rfl) ?_
      refine lv_iload_n hx hb d_Mo_sum_13 rfl (lv_at hl 0 rfl) ?_
      refine vp_callSi (va_Run.run (run_V S v_Mo_65 (c_Mo_isInside la G mo mc_ mv_ mk_ mx_ L n x0 y0 x1 y1 C q hL hC (by omega) (by omega) (by omega) (by omega) (by omega)) ⟨rfl, rfl⟩ ⟨Nat.le_of_ble_eq_true rfl, Nat.le_of_ble_eq_true rfl⟩ (preR_V hP hk hs [0, 1] rfl 0 rfl rfl) (rest := []) rfl hl.1 rfl (Nat.le_of_ble_eq_true rfl) d_Mo_sum_14 ⟨Nat.le_refl _, Nat.le_refl _⟩)) (fun r1 hr1 => ?_)
      rcases hr1 with ⟨rfl, q1⟩ | ⟨rfl, q1⟩
      · refine lv_if_eq hx hb d_Mo_sum_17 (tgt := 31) (by decide) (fun h => absurd h (by decide)) (fun _ => ?_)
        refine lv_iload_n hx hb d_Mo_sum_20 rfl (lv_at hl 1 rfl) ?_
        refine lv_aload_n hx hb d_Mo_sum_21 rfl (lv_at hl 2 rfl) ?_
        refine y_get S hk hP 0 rfl f_Mo_17 rfl d_Mo_sum_22 ?_
        refine lv_iload_n hx hb d_Mo_sum_25 rfl (lv_at hl 0 rfl) ?_
        refine y_ald hx hb hk hP 2 rfl (by omega) (by decide) d_Mo_sum_26 ?_
        refine x_iadd hx hb d_Mo_sum_27 ?_
        refine lv_goto hx hb d_Mo_sum_28 (tgt := 32) (by decide) ?_
        refine lv_istore_n hx hb d_Mo_sum_32 rfl hl (by decide) rfl (fun ls hl => ?_)
        have hl : lv_has ls 3 [(1, .int (nI (g + (V q)))), (2, .int (nI q)), (0, .ref mo)] := hl
        refine lv_iinc (v := nI (q + 1)) hx hb d_Mo_sum_33 hl (k := 1) rfl (ii_p _ 1) (by decide) rfl (fun ls hl => ?_)
        have hl : lv_has ls 3 [(2, .int (nI (q + 1))), (1, .int (nI (g + (V q)))), (0, .ref mo)] := hl
        refine lv_goto hx hb d_Mo_sum_36 (tgt := 4) (by decide) ?_
        have hl := lv_sub hl [0, 1, 2] rfl
        exact ih (q + 1) _ _ (by omega) hl (by omega) (by first | rw [hg, sum_1 q1] | rw [hg, sum_0 q1])
      · refine lv_if_eq hx hb d_Mo_sum_17 (tgt := 31) (by decide) (fun _ => ?_) (fun h => absurd (by decide) h)
        refine lv_iload_n hx hb d_Mo_sum_31 rfl (lv_at hl 1 rfl) ?_
        refine lv_istore_n hx hb d_Mo_sum_32 rfl hl (by decide) rfl (fun ls hl => ?_)
        have hl : lv_has ls 3 [(1, .int (nI g)), (2, .int (nI q)), (0, .ref mo)] := hl
        refine lv_iinc (v := nI (q + 1)) hx hb d_Mo_sum_33 hl (k := 1) rfl (ii_p _ 1) (by decide) rfl (fun ls hl => ?_)
        have hl : lv_has ls 3 [(2, .int (nI (q + 1))), (1, .int (nI g)), (0, .ref mo)] := hl
        refine lv_goto hx hb d_Mo_sum_36 (tgt := 4) (by decide) ?_
        have hl := lv_sub hl [0, 1, 2] rfl
        exact ih (q + 1) _ _ (by omega) hl (by omega) (by first | rw [hg, sum_1 q1] | rw [hg, sum_0 q1])
set_option maxHeartbeats 4000000 in
set_option maxRecDepth 100000 in
theorem c_Mo_nth (la : Launch) (G : gG) (mo mc_ mv_ mk_ mx_ L n x0 y0 x1 y1 : Nat) (C V K X : Nat → Nat) (cu i : Int32) (hM : okMo (L, (n, C, V), (x0, y0, x1, y1), (K, X))) : MetR la y_Mo_nth b_Mo_nth 7 .int 3 70 [.ref mo, .int cu, .int i] G [(mo, .inr (4, [.int (nI L), .int (nI n), .ref mc_, .ref mv_, .int (nI x0), .int (nI y0), .int (nI x1), .int (nI y1), .ref mk_, .ref mx_])), (mc_, .inl (G.2.1, 500, .inl (fun zz => nI (C zz)))), (mv_, .inl (G.2.1, 500, .inl (fun zz => nI (V zz)))), (mk_, .inl (G.2.1, 4096, .inl (fun zz => nI (K zz)))), (mx_, .inl (G.2.1, 4096, .inl (fun zz => nI (X zz))))] (fun r => nthQ L (x0, y0, x1, y1) n C n C cu i r) := by
  refine MetR.mk (by decide +kernel) (Nat.le_of_ble_eq_true rfl) ?_
  intro p e s m below meth c Q ls S hP hk hs hret hl
  have hx := S.1
  have hb := S.2.1
  have hM' := hM
  obtain ⟨⟨hL1, hL⟩, hm, ⟨hC, hV⟩, hF, hK, hX⟩ := hM
  dsimp only at hL1 hL hm hC hV hF hK hX
  have hFb := hF.b hL
  obtain ⟨hf1, hf2, hf3, hf4⟩ := hF
  dsimp only at hf1 hf2 hf3 hf4 hFb
  have hp2 := p2_15 hL
  have hp4 := p4_15 hL
  have hpp := Nat.two_pow_pos L
  have hn5 := hm.1
  rcases ng i with hi0 | ⟨iv, hiv, rfl⟩
  · have hl : lv_has ls 7 [(0, .ref mo), (1, .int cu), (2, .int i)] := hl
    refine lv_iload_n hx hb d_Mo_nth_0 rfl (lv_at hl 1 rfl) ?_
    refine vp_callSi (va_Run.run (run_S S v_Mo_45 (c_Mo_isCurve la G cu) ⟨rfl, rfl⟩ ⟨Nat.le_of_ble_eq_true rfl, Nat.le_of_ble_eq_true rfl⟩ (preR_S hP hk hs [] rfl) (rest := []) rfl hl.1 rfl (Nat.le_of_ble_eq_true rfl) d_Mo_nth_1 ⟨Nat.le_refl _, Nat.le_refl _⟩)) (fun r1 hr1 => ?_)
    rcases hr1 with ⟨rfl, k, hk', rfl⟩ | ⟨rfl, q1⟩
    · have hl : lv_has ls 7 [(0, .ref mo), (1, .int (nI k)), (2, .int i)] := hl
      refine lv_if_eq hx hb d_Mo_nth_4 (tgt := 11) (by decide) (fun h => absurd h (by decide)) (fun _ => ?_)
      refine lv_iload_n hx hb d_Mo_nth_7 rfl (lv_at hl 2 rfl) ?_
      refine lv_if_ge hx hb d_Mo_nth_8 (tgt := 13) (by decide) (fun h => absurd h (ng_ge hi0)) (fun _ => ?_)
      refine lv_iconst (v := (-1)) hx hb d_Mo_nth_11 (by decide) ?_
      exact hret _ _ _ rfl (by first | exact Or.inr (Or.inr ⟨q1, rfl⟩) | exact nth_neg ⟨k, hk', rfl⟩ hn5 hi0) d_Mo_nth_12
    · refine lv_if_eq hx hb d_Mo_nth_4 (tgt := 11) (by decide) (fun _ => ?_) (fun h => absurd (by decide) h)
      refine lv_iconst (v := (-1)) hx hb d_Mo_nth_11 (by decide) ?_
      exact hret _ _ _ rfl (by first | exact Or.inr (Or.inr ⟨q1, rfl⟩) | exact nth_neg ⟨k, hk', rfl⟩ hn5 hi0) d_Mo_nth_12
  · have hl : lv_has ls 7 [(0, .ref mo), (1, .int cu), (2, .int (nI iv))] := hl
    refine lv_iload_n hx hb d_Mo_nth_0 rfl (lv_at hl 1 rfl) ?_
    refine vp_callSi (va_Run.run (run_S S v_Mo_45 (c_Mo_isCurve la G cu) ⟨rfl, rfl⟩ ⟨Nat.le_of_ble_eq_true rfl, Nat.le_of_ble_eq_true rfl⟩ (preR_S hP hk hs [] rfl) (rest := []) rfl hl.1 rfl (Nat.le_of_ble_eq_true rfl) d_Mo_nth_1 ⟨Nat.le_refl _, Nat.le_refl _⟩)) (fun r1 hr1 => ?_)
    rcases hr1 with ⟨rfl, k, hk', rfl⟩ | ⟨rfl, q1⟩
    · have hl : lv_has ls 7 [(0, .ref mo), (1, .int (nI k)), (2, .int (nI iv))] := hl
      refine lv_if_eq hx hb d_Mo_nth_4 (tgt := 11) (by decide) (fun h => absurd h (by decide)) (fun _ => ?_)
      refine lv_iload_n hx hb d_Mo_nth_7 rfl (lv_at hl 2 rfl) ?_
      refine lv_if_ge hx hb d_Mo_nth_8 (tgt := 13) (by decide) (fun _ => ?_) (fun h => absurd (nI_pos' (by omega)) h)
      refine lv_iconst (v := nI 0) hx hb d_Mo_nth_13 (by decide) ?_
      refine lv_istore_n hx hb d_Mo_nth_14 rfl hl (by decide) rfl (fun ls hl => ?_)
      have hl : lv_has ls 7 [(3, .int (nI 0)), (0, .ref mo), (1, .int (nI k)), (2, .int (nI iv))] := hl
      have hcl : ∀ j, j < n → C j < 2 ^ L * 2 ^ L := fun j hj => (hm.2.1 j hj).1
      have hkl : ∀ j, j < n → ke k L (C j) < 2147483648 := fun j hj => ke_31 hL (hcl j hj)
      refine (?_ : ∀ (d : Nat) (q : Nat) (ls : Array Slot), n - q < d → lv_has ls 7 [(3, .int (nI q)), (0, .ref mo), (1, .int (nI k)), (2, .int (nI iv))] → (q ≤ n) → (∀ j, j < q → inc L (x0, y0, x1, y1) (C j) = true → nI (rk k L (x0, y0, x1, y1) n C (ke k L (C j))) ≠ nI iv) → W p la e _ s m _ below meth c s.heap [] 0 0 Q (F0 m 15 ls [])) (n - 0 + 1) 0 ls (Nat.lt_succ_self _) hl (Nat.zero_le _) (fun j h => absurd h (Nat.not_lt_zero _))
      intro d
      induction d with
      | zero => intro q ls hd; exact absurd hd (Nat.not_lt_zero _)
      | succ d ih =>
        intro q ls hd hl hq hno
        refine lv_iload_n hx hb d_Mo_nth_15 rfl (lv_at hl 0 rfl) ?_
        refine lv_aload_n hx hb d_Mo_nth_16 rfl (lv_at hl 1 rfl) ?_
        refine y_get S hk hP 0 rfl f_Mo_30 rfl d_Mo_nth_17 ?_
        refine x_icmp_ge hx hb d_Mo_nth_20 (tgt := 111) (by decide) (by omega) (by omega) (fun h20 => ?_) (fun h20 => ?_)
        · refine lv_iconst (v := (-1)) hx hb d_Mo_nth_111 (by decide) ?_
          exact hret _ _ _ rfl (nthQ_k hk' (Or.inr ⟨fun j hj hin => hno j (by omega) hin, rfl⟩)) d_Mo_nth_112
        · refine lv_aload_n hx hb d_Mo_nth_23 rfl (lv_at hl 1 rfl) ?_
          refine lv_iload_n hx hb d_Mo_nth_24 rfl (lv_at hl 0 rfl) ?_
          refine vp_callSi (va_Run.run (run_V S v_Mo_65 (c_Mo_isInside la G mo mc_ mv_ mk_ mx_ L n x0 y0 x1 y1 C q hL hC (by omega) (by omega) (by omega) (by omega) (by omega)) ⟨rfl, rfl⟩ ⟨Nat.le_of_ble_eq_true rfl, Nat.le_of_ble_eq_true rfl⟩ (preR_V hP hk hs [0, 1] rfl 0 rfl rfl) (rest := []) rfl hl.1 rfl (Nat.le_of_ble_eq_true rfl) d_Mo_nth_25 ⟨Nat.le_refl _, Nat.le_refl _⟩)) (fun r2 hr2 => ?_)
          rcases hr2 with ⟨rfl, q2⟩ | ⟨rfl, q2⟩
          · refine lv_if_eq hx hb d_Mo_nth_28 (tgt := 105) (by decide) (fun h => absurd h (by decide)) (fun _ => ?_)
            refine lv_iconst (v := nI 0) hx hb d_Mo_nth_31 (by decide) ?_
            refine lv_istore hx hb d_Mo_nth_32 hl (by decide) rfl (fun ls hl => ?_)
            have hl : lv_has ls 7 [(4, .int (nI 0)), (3, .int (nI q)), (0, .ref mo), (1, .int (nI k)), (2, .int (nI iv))] := hl
            refine lv_aload_n hx hb d_Mo_nth_34 rfl (lv_at hl 2 rfl) ?_
            refine lv_iload_n hx hb d_Mo_nth_35 rfl (lv_at hl 3 rfl) ?_
            refine lv_iload_n hx hb d_Mo_nth_36 rfl (lv_at hl 1 rfl) ?_
            refine vp_callSi (va_Run.run (run_V S v_Mo_68 (c_Mo_keyAt la G mo mc_ mv_ mk_ mx_ L n x0 y0 x1 y1 C k q hL hL1 hC hk' (by omega) (hcl q (by omega))) ⟨rfl, rfl⟩ ⟨Nat.le_of_ble_eq_true rfl, Nat.le_of_ble_eq_true rfl⟩ (preR_V hP hk hs [0, 1] rfl 0 rfl rfl) (rest := []) rfl hl.1 rfl (Nat.le_of_ble_eq_true rfl) d_Mo_nth_37 ⟨Nat.le_refl _, Nat.le_refl _⟩)) (fun r3 hr3 => ?_)
            subst hr3
            refine lv_istore hx hb d_Mo_nth_40 hl (by decide) rfl (fun ls hl => ?_)
            have hl : lv_has ls 7 [(5, .int (nI (ke k L (C q)))), (4, .int (nI 0)), (3, .int (nI q)), (0, .ref mo), (1, .int (nI k)), (2, .int (nI iv))] := hl
            refine lv_iconst (v := nI 0) hx hb d_Mo_nth_42 (by decide) ?_
            refine lv_istore hx hb d_Mo_nth_43 hl (by decide) rfl (fun ls hl => ?_)
            have hl : lv_has ls 7 [(6, .int (nI 0)), (5, .int (nI (ke k L (C q)))), (4, .int (nI 0)), (3, .int (nI q)), (0, .ref mo), (1, .int (nI k)), (2, .int (nI iv))] := hl
            have hl := lv_sub hl [0, 1, 2, 3, 4, 5, 6] rfl
            have ihq := ih
            refine (?_ : ∀ (d : Nat) (t : Nat) (gg : Nat) (ls : Array Slot), n - t < d → lv_has ls 7 [(6, .int (nI t)), (5, .int (nI (ke k L (C q)))), (4, .int (nI gg)), (3, .int (nI q)), (0, .ref mo), (1, .int (nI k)), (2, .int (nI iv))] → (t ≤ n) → (gg = rk k L (x0, y0, x1, y1) t C (ke k L (C q))) → W p la e _ s m _ below meth c s.heap [] 0 0 Q (F0 m 45 ls [])) (n - 0 + 1) 0 0 ls (Nat.lt_succ_self _) hl (Nat.zero_le _) (rfl)
            intro d
            induction d with
            | zero => intro t gg ls hd; exact absurd hd (Nat.not_lt_zero _)
            | succ d ih =>
              intro t gg ls hd hl ht hgg
              have hkq := hkl q (by omega)
              have hgl : gg ≤ t := by rw [hgg]; exact rk_le
              refine lv_iload hx hb d_Mo_nth_45 (lv_at hl 0 rfl) ?_
              refine lv_aload_n hx hb d_Mo_nth_47 rfl (lv_at hl 4 rfl) ?_
              refine y_get S hk hP 0 rfl f_Mo_30 rfl d_Mo_nth_48 ?_
              refine x_icmp_ge hx hb d_Mo_nth_51 (tgt := 92) (by decide) (by omega) (by omega) (fun h51 => ?_) (fun h51 => ?_)
              · refine lv_iload hx hb d_Mo_nth_92 (lv_at hl 2 rfl) ?_
                refine lv_iload_n hx hb d_Mo_nth_94 rfl (lv_at hl 6 rfl) ?_
                refine x_icmp_ne hx hb d_Mo_nth_95 (tgt := 105) (by decide) (by omega) (by omega) (fun h95 => ?_) (fun h95 => ?_)
                · refine lv_iinc (v := nI (q + 1)) hx hb d_Mo_nth_105 hl (k := 3) rfl (ii_p _ 1) (by decide) rfl (fun ls hl => ?_)
                  have hl : lv_has ls 7 [(3, .int (nI (q + 1))), (6, .int (nI t)), (5, .int (nI (ke k L (C q)))), (4, .int (nI gg)), (0, .ref mo), (1, .int (nI k)), (2, .int (nI iv))] := hl
                  refine lv_goto hx hb d_Mo_nth_108 (tgt := 15) (by decide) ?_
                  have hl := lv_sub hl [0, 4, 5, 6] rfl
                  exact ihq (q + 1) _ (by omega) hl (by omega) (fun j hj hin => by rcases Nat.lt_or_ge j q with z | z; exact hno j z hin; obtain rfl : j = q := (by omega); exact fun e => h95 (by rw [nI_eq (by have := rk_le (cu := k) (N := L) (F := (x0, y0, x1, y1)) (n := n) (C := C) (k := ke k L (C j)); omega) (by omega)] at e; rw [hgg, show t = n by omega]; exact e))
                · refine lv_aload_n hx hb d_Mo_nth_98 rfl (lv_at hl 4 rfl) ?_
                  refine y_get S hk hP 0 rfl f_Mo_13 rfl d_Mo_nth_99 ?_
                  refine lv_iload_n hx hb d_Mo_nth_102 rfl (lv_at hl 3 rfl) ?_
                  refine y_ald hx hb hk hP 1 rfl (by omega) (by decide) d_Mo_nth_103 ?_
                  exact hret _ _ _ rfl (nthQ_k hk' (Or.inl ⟨q, by omega, q2, by rw [← h95, hgg, show t = n by omega], rfl⟩)) d_Mo_nth_104
              · refine lv_aload_n hx hb d_Mo_nth_54 rfl (lv_at hl 4 rfl) ?_
                refine lv_iload hx hb d_Mo_nth_55 (lv_at hl 0 rfl) ?_
                refine vp_callSi (va_Run.run (run_V S v_Mo_65 (c_Mo_isInside la G mo mc_ mv_ mk_ mx_ L n x0 y0 x1 y1 C t hL hC (by omega) (by omega) (by omega) (by omega) (by omega)) ⟨rfl, rfl⟩ ⟨Nat.le_of_ble_eq_true rfl, Nat.le_of_ble_eq_true rfl⟩ (preR_V hP hk hs [0, 1] rfl 0 rfl rfl) (rest := []) rfl hl.1 rfl (Nat.le_of_ble_eq_true rfl) d_Mo_nth_57 ⟨Nat.le_refl _, Nat.le_refl _⟩)) (fun r4 hr4 => ?_)
                rcases hr4 with ⟨rfl, q4⟩ | ⟨rfl, q4⟩
                · refine lv_if_eq hx hb d_Mo_nth_60 (tgt := 82) (by decide) (fun h => absurd h (by decide)) (fun _ => ?_)
                  refine lv_aload_n hx hb d_Mo_nth_63 rfl (lv_at hl 4 rfl) ?_
                  refine lv_iload_n hx hb d_Mo_nth_64 rfl (lv_at hl 5 rfl) ?_
                  refine lv_iload hx hb d_Mo_nth_65 (lv_at hl 0 rfl) ?_
                  refine vp_callSi (va_Run.run (run_V S v_Mo_68 (c_Mo_keyAt la G mo mc_ mv_ mk_ mx_ L n x0 y0 x1 y1 C k t hL hL1 hC hk' (by omega) (hcl t (by omega))) ⟨rfl, rfl⟩ ⟨Nat.le_of_ble_eq_true rfl, Nat.le_of_ble_eq_true rfl⟩ (preR_V hP hk hs [0, 1] rfl 0 rfl rfl) (rest := []) rfl hl.1 rfl (Nat.le_of_ble_eq_true rfl) d_Mo_nth_67 ⟨Nat.le_refl _, Nat.le_refl _⟩)) (fun r5 hr5 => ?_)
                  subst hr5
                  have hkt := hkl t (by omega)
                  refine lv_iload hx hb d_Mo_nth_70 (lv_at hl 1 rfl) ?_
                  refine x_icmp_ge hx hb d_Mo_nth_72 (tgt := 82) (by decide) (by omega) (by omega) (fun h72 => ?_) (fun h72 => ?_)
                  · refine lv_iload hx hb d_Mo_nth_82 (lv_at hl 2 rfl) ?_
                    refine lv_istore hx hb d_Mo_nth_84 hl (by decide) rfl (fun ls hl => ?_)
                    have hl : lv_has ls 7 [(4, .int (nI gg)), (6, .int (nI t)), (5, .int (nI (ke k L (C q)))), (3, .int (nI q)), (0, .ref mo), (1, .int (nI k)), (2, .int (nI iv))] := hl
                    refine lv_iinc (v := nI (t + 1)) hx hb d_Mo_nth_86 hl (k := 1) rfl (ii_p _ 1) (by decide) rfl (fun ls hl => ?_)
                    have hl : lv_has ls 7 [(6, .int (nI (t + 1))), (4, .int (nI gg)), (5, .int (nI (ke k L (C q)))), (3, .int (nI q)), (0, .ref mo), (1, .int (nI k)), (2, .int (nI iv))] := hl
                    refine lv_goto hx hb d_Mo_nth_89 (tgt := 45) (by decide) ?_
                    have hl := lv_sub hl [0, 2, 1, 3, 4, 5, 6] rfl
                    exact ih (t + 1) _ _ (by omega) hl (by omega) (by first | rw [hgg, rk_s1 q4 h72] | rw [hgg, rk_s0a h72] | rw [hgg, rk_s0b q4])
                  · refine lv_iload hx hb d_Mo_nth_75 (lv_at hl 2 rfl) ?_
                    refine lv_iconst (v := nI 1) hx hb d_Mo_nth_77 (by decide) ?_
                    refine x_iadd hx hb d_Mo_nth_78 ?_
                    refine lv_goto hx hb d_Mo_nth_79 (tgt := 84) (by decide) ?_
                    refine lv_istore hx hb d_Mo_nth_84 hl (by decide) rfl (fun ls hl => ?_)
                    have hl : lv_has ls 7 [(4, .int (nI (gg + 1))), (6, .int (nI t)), (5, .int (nI (ke k L (C q)))), (3, .int (nI q)), (0, .ref mo), (1, .int (nI k)), (2, .int (nI iv))] := hl
                    refine lv_iinc (v := nI (t + 1)) hx hb d_Mo_nth_86 hl (k := 1) rfl (ii_p _ 1) (by decide) rfl (fun ls hl => ?_)
                    have hl : lv_has ls 7 [(6, .int (nI (t + 1))), (4, .int (nI (gg + 1))), (5, .int (nI (ke k L (C q)))), (3, .int (nI q)), (0, .ref mo), (1, .int (nI k)), (2, .int (nI iv))] := hl
                    refine lv_goto hx hb d_Mo_nth_89 (tgt := 45) (by decide) ?_
                    have hl := lv_sub hl [0, 2, 1, 3, 4, 5, 6] rfl
                    exact ih (t + 1) _ _ (by omega) hl (by omega) (by first | rw [hgg, rk_s1 q4 h72] | rw [hgg, rk_s0a h72] | rw [hgg, rk_s0b q4])
                · refine lv_if_eq hx hb d_Mo_nth_60 (tgt := 82) (by decide) (fun _ => ?_) (fun h => absurd (by decide) h)
                  refine lv_iload hx hb d_Mo_nth_82 (lv_at hl 2 rfl) ?_
                  refine lv_istore hx hb d_Mo_nth_84 hl (by decide) rfl (fun ls hl => ?_)
                  have hl : lv_has ls 7 [(4, .int (nI gg)), (6, .int (nI t)), (5, .int (nI (ke k L (C q)))), (3, .int (nI q)), (0, .ref mo), (1, .int (nI k)), (2, .int (nI iv))] := hl
                  refine lv_iinc (v := nI (t + 1)) hx hb d_Mo_nth_86 hl (k := 1) rfl (ii_p _ 1) (by decide) rfl (fun ls hl => ?_)
                  have hl : lv_has ls 7 [(6, .int (nI (t + 1))), (4, .int (nI gg)), (5, .int (nI (ke k L (C q)))), (3, .int (nI q)), (0, .ref mo), (1, .int (nI k)), (2, .int (nI iv))] := hl
                  refine lv_goto hx hb d_Mo_nth_89 (tgt := 45) (by decide) ?_
                  have hl := lv_sub hl [0, 2, 1, 3, 4, 5, 6] rfl
                  exact ih (t + 1) _ _ (by omega) hl (by omega) (by first | rw [hgg, rk_s1 q4 h72] | rw [hgg, rk_s0a h72] | rw [hgg, rk_s0b q4])
          · refine lv_if_eq hx hb d_Mo_nth_28 (tgt := 105) (by decide) (fun _ => ?_) (fun h => absurd (by decide) h)
            refine lv_iinc (v := nI (q + 1)) hx hb d_Mo_nth_105 hl (k := 0) rfl (ii_p _ 1) (by decide) rfl (fun ls hl => ?_)
            have hl : lv_has ls 7 [(3, .int (nI (q + 1))), (0, .ref mo), (1, .int (nI k)), (2, .int (nI iv))] := hl
            refine lv_goto hx hb d_Mo_nth_108 (tgt := 15) (by decide) ?_
            have hl := lv_sub hl [0, 1, 2, 3] rfl
            exact ih (q + 1) _ (by omega) hl (by omega) (fun j hj hin => by rcases Nat.lt_or_ge j q with z | z; exact hno j z hin; obtain rfl : j = q := (by omega); exact absurd (hin.symm.trans q2) (by decide))
    · refine lv_if_eq hx hb d_Mo_nth_4 (tgt := 11) (by decide) (fun _ => ?_) (fun h => absurd (by decide) h)
      refine lv_iconst (v := (-1)) hx hb d_Mo_nth_11 (by decide) ?_
      exact hret _ _ _ rfl (by first | exact Or.inr (Or.inr ⟨q1, rfl⟩) | exact nth_neg ⟨k, hk', rfl⟩ hn5 hi0) d_Mo_nth_12
set_option maxHeartbeats 4000000 in
set_option maxRecDepth 100000 in
theorem c_Mo_nearest (la : Launch) (G : gG) (mo mc_ mv_ mk_ mx_ L n x0 y0 x1 y1 : Nat) (C V K X : Nat → Nat) (x y : Int32) (hM : okMo (L, (n, C, V), (x0, y0, x1, y1), (K, X))) : MetR la y_Mo_nearest b_Mo_nearest 13 .int 3 70 [.ref mo, .int x, .int y] G [(mo, .inr (4, [.int (nI L), .int (nI n), .ref mc_, .ref mv_, .int (nI x0), .int (nI y0), .int (nI x1), .int (nI y1), .ref mk_, .ref mx_])), (mc_, .inl (G.2.1, 500, .inl (fun zz => nI (C zz)))), (mv_, .inl (G.2.1, 500, .inl (fun zz => nI (V zz)))), (mk_, .inl (G.2.1, 4096, .inl (fun zz => nI (K zz)))), (mx_, .inl (G.2.1, 4096, .inl (fun zz => nI (X zz))))] (fun r => nearQ L n C x y r) := by
  refine MetR.mk (by decide +kernel) (Nat.le_of_ble_eq_true rfl) ?_
  intro p e s m below meth c Q ls S hP hk hs hret hl
  have hx := S.1
  have hb := S.2.1
  have hM' := hM
  obtain ⟨⟨hL1, hL⟩, hm, ⟨hC, hV⟩, hF, hK, hX⟩ := hM
  dsimp only at hL1 hL hm hC hV hF hK hX
  have hFb := hF.b hL
  obtain ⟨hf1, hf2, hf3, hf4⟩ := hF
  dsimp only at hf1 hf2 hf3 hf4 hFb
  have hp2 := p2_15 hL
  have hp4 := p4_15 hL
  have hpp := Nat.two_pow_pos L
  have hn5 := hm.1
  have hl : lv_has ls 13 [(0, .ref mo), (1, .int x), (2, .int y)] := hl
  refine lv_aload_n hx hb d_Mo_nearest_0 rfl (lv_at hl 0 rfl) ?_
  refine lv_iload_n hx hb d_Mo_nearest_1 rfl (lv_at hl 1 rfl) ?_
  refine lv_iload_n hx hb d_Mo_nearest_2 rfl (lv_at hl 2 rfl) ?_
  refine vp_callSi (va_Run.run (run_V S v_Mo_49 (c_Mo_isCell la G mo mc_ mv_ mk_ mx_ L n x0 y0 x1 y1 x y hL) ⟨rfl, rfl⟩ ⟨Nat.le_of_ble_eq_true rfl, Nat.le_of_ble_eq_true rfl⟩ (preR_V hP hk hs [0] rfl 0 rfl rfl) (rest := []) rfl hl.1 rfl (Nat.le_of_ble_eq_true rfl) d_Mo_nearest_3 ⟨Nat.le_refl _, Nat.le_refl _⟩)) (fun r1 hr1 => ?_)
  rcases hr1 with ⟨rfl, a, b, ha, hb', rfl, rfl⟩ | ⟨rfl, q1⟩
  · have hl : lv_has ls 13 [(0, .ref mo), (1, .int (nI a)), (2, .int (nI b))] := hl
    refine lv_if_ne hx hb d_Mo_nearest_6 (tgt := 11) (by decide) (fun _ => ?_) (fun h => absurd h (by decide))
    refine lv_iconst (v := (-1)) hx hb d_Mo_nearest_11 (by decide) ?_
    refine lv_istore_n hx hb d_Mo_nearest_12 rfl hl (by decide) rfl (fun ls hl => ?_)
    have hl : lv_has ls 13 [(3, .int (-1)), (0, .ref mo), (1, .int (nI a)), (2, .int (nI b))] := hl
    refine lv_lconst (v := lN 0) hx hb d_Mo_nearest_13 (by decide) ?_
    refine lv_lstore hx hb d_Mo_nearest_14 hl (by decide) rfl (fun ls hl => ?_)
    have hl : lv_has ls 13 [(4, .long (lN 0)), (3, .int (-1)), (0, .ref mo), (1, .int (nI a)), (2, .int (nI b))] := hl
    refine lv_iconst (v := nI 0) hx hb d_Mo_nearest_16 (by decide) ?_
    refine lv_istore hx hb d_Mo_nearest_17 hl (by decide) rfl (fun ls hl => ?_)
    have hl : lv_has ls 13 [(6, .int (nI 0)), (4, .long (lN 0)), (3, .int (-1)), (0, .ref mo), (1, .int (nI a)), (2, .int (nI b))] := hl
    have hl := lv_sub hl [0, 1, 2, 4, 5, 3] rfl
    have hcl : ∀ j, j < n → C j < 2 ^ L * 2 ^ L := fun j hj => (hm.2.1 j hj).1
    have hdq : ∀ j, j < n → dq L a b (C j) < 2 ^ 40 := fun j hj => dq_lt hL ha hb' (hcl j hj)
    have hkl : ∀ j, j < n → ke 1 L (C j) < 2147483648 := fun j hj => ke_31 hL (hcl j hj)
    refine (?_ : ∀ (d : Nat) (q : Nat) (bb : Int32) (dd : Int64) (ls : Array Slot), n - q < d → lv_has ls 13 [(6, .int (nI q)), (4, .long dd), (3, .int bb), (1, .int (nI a)), (2, .int (nI b)), (0, .ref mo)] → (q ≤ n) → (nrM L a b C q bb dd) → W p la e _ s m _ below meth c s.heap [] 0 0 Q (F0 m 19 ls [])) (n - 0 + 1) 0 (-1) (lN 0) ls (Nat.lt_succ_self _) hl (Nat.zero_le _) (Or.inl ⟨rfl, rfl⟩)
    intro d
    induction d with
    | zero => intro q bb dd ls hd; exact absurd hd (Nat.not_lt_zero _)
    | succ d ih =>
      intro q bb dd ls hd hl hq hi
      rcases nrM_neg hi with hbn | ⟨j, hj, rfl, -⟩
      · refine lv_iload hx hb d_Mo_nearest_19 (lv_at hl 0 rfl) ?_
        refine lv_aload_n hx hb d_Mo_nearest_21 rfl (lv_at hl 5 rfl) ?_
        refine y_get S hk hP 0 rfl f_Mo_30 rfl d_Mo_nearest_22 ?_
        refine x_icmp_ge hx hb d_Mo_nearest_25 (tgt := 124) (by decide) (by omega) (by omega) (fun h25 => ?_) (fun h25 => ?_)
        · refine lv_iload_n hx hb d_Mo_nearest_124 rfl (lv_at hl 2 rfl) ?_
          refine lv_if_ge hx hb d_Mo_nearest_125 (tgt := 132) (by decide) (fun h => absurd h (ng_ge hbn)) (fun _ => ?_)
          refine lv_iconst (v := (-1)) hx hb d_Mo_nearest_128 (by decide) ?_
          refine lv_goto hx hb d_Mo_nearest_129 (tgt := 138) (by decide) ?_
          exact hret _ _ _ rfl (Or.inl ⟨a, b, ha, hb', rfl, rfl, nrM_none (by rw [show n = q by omega]; exact hi) (by omega) hbn⟩) d_Mo_nearest_138
        · refine lv_aload_n hx hb d_Mo_nearest_28 rfl (lv_at hl 5 rfl) ?_
          refine y_get S hk hP 0 rfl f_Mo_13 rfl d_Mo_nearest_29 ?_
          refine lv_iload hx hb d_Mo_nearest_32 (lv_at hl 0 rfl) ?_
          refine y_ald hx hb hk hP 1 rfl (by omega) (by decide) d_Mo_nearest_34 ?_
          have hcq := hC q
          obtain ⟨hc1, hc2⟩ := cl_of (hcl q (by omega))
          refine lv_aload_n hx hb d_Mo_nearest_35 rfl (lv_at hl 5 rfl) ?_
          refine vp_callSi (va_Run.run (run_V S v_Mo_26 (c_Mo_side la G mo mc_ mv_ mk_ mx_ L n x0 y0 x1 y1 hL) ⟨rfl, rfl⟩ ⟨Nat.le_of_ble_eq_true rfl, Nat.le_of_ble_eq_true rfl⟩ (preR_V hP hk hs [0] rfl 0 rfl rfl) (rest := [.int (nI (C q))]) rfl hl.1 rfl (Nat.le_of_ble_eq_true rfl) d_Mo_nearest_36 ⟨Nat.le_refl _, Nat.le_refl _⟩)) (fun r36 hr36 => ?_)
          subst hr36
          refine x_idiv hx hb d_Mo_nearest_39 (by omega) (by omega) (by omega) ?_
          refine lv_iload_n hx hb d_Mo_nearest_40 rfl (lv_at hl 3 rfl) ?_
          refine lv_isub hx hb d_Mo_nearest_41 ?_
          refine lv_i2l hx hb d_Mo_nearest_42 rfl ?_
          refine lv_lstore hx hb d_Mo_nearest_43 hl (by decide) rfl (fun ls hl => ?_)
          have hl : lv_has ls 13 [(7, .long (((nI ((C q) / (2 ^ L))) - (nI a)).toInt64)), (6, .int (nI q)), (4, .long dd), (3, .int bb), (1, .int (nI a)), (2, .int (nI b)), (0, .ref mo)] := hl
          refine lv_aload_n hx hb d_Mo_nearest_45 rfl (lv_at hl 6 rfl) ?_
          refine y_get S hk hP 0 rfl f_Mo_13 rfl d_Mo_nearest_46 ?_
          refine lv_iload hx hb d_Mo_nearest_49 (lv_at hl 1 rfl) ?_
          refine y_ald hx hb hk hP 1 rfl (by omega) (by decide) d_Mo_nearest_51 ?_
          refine lv_aload_n hx hb d_Mo_nearest_52 rfl (lv_at hl 6 rfl) ?_
          refine vp_callSi (va_Run.run (run_V S v_Mo_26 (c_Mo_side la G mo mc_ mv_ mk_ mx_ L n x0 y0 x1 y1 hL) ⟨rfl, rfl⟩ ⟨Nat.le_of_ble_eq_true rfl, Nat.le_of_ble_eq_true rfl⟩ (preR_V hP hk hs [0] rfl 0 rfl rfl) (rest := [.int (nI (C q))]) rfl hl.1 rfl (Nat.le_of_ble_eq_true rfl) d_Mo_nearest_53 ⟨Nat.le_refl _, Nat.le_refl _⟩)) (fun r53 hr53 => ?_)
          subst hr53
          refine x_irem hx hb d_Mo_nearest_56 (by omega) (by omega) (by omega) ?_
          refine lv_iload_n hx hb d_Mo_nearest_57 rfl (lv_at hl 5 rfl) ?_
          refine lv_isub hx hb d_Mo_nearest_58 ?_
          refine lv_i2l hx hb d_Mo_nearest_59 rfl ?_
          refine lv_lstore hx hb d_Mo_nearest_60 hl (by decide) rfl (fun ls hl => ?_)
          have hl : lv_has ls 13 [(9, .long (((nI ((C q) % (2 ^ L))) - (nI b)).toInt64)), (7, .long (((nI ((C q) / (2 ^ L))) - (nI a)).toInt64)), (6, .int (nI q)), (4, .long dd), (3, .int bb), (1, .int (nI a)), (2, .int (nI b)), (0, .ref mo)] := hl
          refine lv_lload hx hb d_Mo_nearest_62 (lv_at hl 1 rfl) ?_
          refine lv_lload hx hb d_Mo_nearest_64 (lv_at hl 1 rfl) ?_
          refine lv_lmul hx hb d_Mo_nearest_66 ?_
          refine lv_lload hx hb d_Mo_nearest_67 (lv_at hl 0 rfl) ?_
          refine lv_lload hx hb d_Mo_nearest_69 (lv_at hl 0 rfl) ?_
          refine lv_lmul hx hb d_Mo_nearest_71 ?_
          refine lv_ladd hx hb d_Mo_nearest_72 ?_
          have edq : (nI (C q / 2 ^ L) - nI a).toInt64 * (nI (C q / 2 ^ L) - nI a).toInt64 + (nI (C q % 2 ^ L) - nI b).toInt64 * (nI (C q % 2 ^ L) - nI b).toInt64 = lN (dq L a b (C q)) := by rw [sqd_l' (by omega) (by omega), sqd_l' (by omega) (by omega), lN_add]; rfl
          refine x_reL edq ?_
          refine lv_lstore hx hb d_Mo_nearest_73 hl (by decide) rfl (fun ls hl => ?_)
          have hl : lv_has ls 13 [(11, .long (lN (dq L a b (C q)))), (9, .long (((nI ((C q) % (2 ^ L))) - (nI b)).toInt64)), (7, .long (((nI ((C q) / (2 ^ L))) - (nI a)).toInt64)), (6, .int (nI q)), (4, .long dd), (3, .int bb), (1, .int (nI a)), (2, .int (nI b)), (0, .ref mo)] := hl
          refine lv_iload_n hx hb d_Mo_nearest_75 rfl (lv_at hl 5 rfl) ?_
          refine lv_if_lt hx hb d_Mo_nearest_76 (tgt := 111) (by decide) (fun _ => ?_) (fun h => absurd hbn h)
          refine lv_iload hx hb d_Mo_nearest_111 (lv_at hl 3 rfl) ?_
          refine lv_istore_n hx hb d_Mo_nearest_113 rfl hl (by decide) rfl (fun ls hl => ?_)
          have hl : lv_has ls 13 [(3, .int (nI q)), (11, .long (lN (dq L a b (C q)))), (9, .long (((nI ((C q) % (2 ^ L))) - (nI b)).toInt64)), (7, .long (((nI ((C q) / (2 ^ L))) - (nI a)).toInt64)), (6, .int (nI q)), (4, .long dd), (1, .int (nI a)), (2, .int (nI b)), (0, .ref mo)] := hl
          refine lv_lload hx hb d_Mo_nearest_114 (lv_at hl 1 rfl) ?_
          refine lv_lstore hx hb d_Mo_nearest_116 hl (by decide) rfl (fun ls hl => ?_)
          have hl : lv_has ls 13 [(4, .long (lN (dq L a b (C q)))), (3, .int (nI q)), (11, .long (lN (dq L a b (C q)))), (9, .long (((nI ((C q) % (2 ^ L))) - (nI b)).toInt64)), (7, .long (((nI ((C q) / (2 ^ L))) - (nI a)).toInt64)), (6, .int (nI q)), (1, .int (nI a)), (2, .int (nI b)), (0, .ref mo)] := hl
          refine lv_iinc (v := nI (q + 1)) hx hb d_Mo_nearest_118 hl (k := 5) rfl (ii_p _ 1) (by decide) rfl (fun ls hl => ?_)
          have hl : lv_has ls 13 [(6, .int (nI (q + 1))), (4, .long (lN (dq L a b (C q)))), (3, .int (nI q)), (11, .long (lN (dq L a b (C q)))), (9, .long (((nI ((C q) % (2 ^ L))) - (nI b)).toInt64)), (7, .long (((nI ((C q) / (2 ^ L))) - (nI a)).toInt64)), (1, .int (nI a)), (2, .int (nI b)), (0, .ref mo)] := hl
          refine lv_goto hx hb d_Mo_nearest_121 (tgt := 19) (by decide) ?_
          have hl := lv_sub hl [0, 1, 2, 6, 7, 8] rfl
          exact ih (q + 1) _ _ _ (by omega) hl (by omega) (nrM_new hi (by omega) hbn)
      · obtain ⟨edd, hmin⟩ := nrM_at hi hj (by omega)
        have hl : lv_has ls 13 [(6, .int (nI q)), (4, .long dd), (3, .int (nI j)), (1, .int (nI a)), (2, .int (nI b)), (0, .ref mo)] := hl
        refine lv_iload hx hb d_Mo_nearest_19 (lv_at hl 0 rfl) ?_
        refine lv_aload_n hx hb d_Mo_nearest_21 rfl (lv_at hl 5 rfl) ?_
        refine y_get S hk hP 0 rfl f_Mo_30 rfl d_Mo_nearest_22 ?_
        refine x_icmp_ge hx hb d_Mo_nearest_25 (tgt := 124) (by decide) (by omega) (by omega) (fun h25 => ?_) (fun h25 => ?_)
        · refine lv_iload_n hx hb d_Mo_nearest_124 rfl (lv_at hl 2 rfl) ?_
          refine lv_if_ge hx hb d_Mo_nearest_125 (tgt := 132) (by decide) (fun _ => ?_) (fun h => absurd (nI_pos' (by omega)) h)
          refine lv_aload_n hx hb d_Mo_nearest_132 rfl (lv_at hl 5 rfl) ?_
          refine y_get S hk hP 0 rfl f_Mo_13 rfl d_Mo_nearest_133 ?_
          refine lv_iload_n hx hb d_Mo_nearest_136 rfl (lv_at hl 2 rfl) ?_
          refine y_ald hx hb hk hP 1 rfl (by omega) (by decide) d_Mo_nearest_137 ?_
          exact hret _ _ _ rfl (Or.inl ⟨a, b, ha, hb', rfl, rfl, Or.inr ⟨j, by omega, rfl, fun k hk => hmin k (by omega)⟩⟩) d_Mo_nearest_138
        · refine lv_aload_n hx hb d_Mo_nearest_28 rfl (lv_at hl 5 rfl) ?_
          refine y_get S hk hP 0 rfl f_Mo_13 rfl d_Mo_nearest_29 ?_
          refine lv_iload hx hb d_Mo_nearest_32 (lv_at hl 0 rfl) ?_
          refine y_ald hx hb hk hP 1 rfl (by omega) (by decide) d_Mo_nearest_34 ?_
          have hcq := hC q
          obtain ⟨hc1, hc2⟩ := cl_of (hcl q (by omega))
          refine lv_aload_n hx hb d_Mo_nearest_35 rfl (lv_at hl 5 rfl) ?_
          refine vp_callSi (va_Run.run (run_V S v_Mo_26 (c_Mo_side la G mo mc_ mv_ mk_ mx_ L n x0 y0 x1 y1 hL) ⟨rfl, rfl⟩ ⟨Nat.le_of_ble_eq_true rfl, Nat.le_of_ble_eq_true rfl⟩ (preR_V hP hk hs [0] rfl 0 rfl rfl) (rest := [.int (nI (C q))]) rfl hl.1 rfl (Nat.le_of_ble_eq_true rfl) d_Mo_nearest_36 ⟨Nat.le_refl _, Nat.le_refl _⟩)) (fun r36 hr36 => ?_)
          subst hr36
          refine x_idiv hx hb d_Mo_nearest_39 (by omega) (by omega) (by omega) ?_
          refine lv_iload_n hx hb d_Mo_nearest_40 rfl (lv_at hl 3 rfl) ?_
          refine lv_isub hx hb d_Mo_nearest_41 ?_
          refine lv_i2l hx hb d_Mo_nearest_42 rfl ?_
          refine lv_lstore hx hb d_Mo_nearest_43 hl (by decide) rfl (fun ls hl => ?_)
          have hl : lv_has ls 13 [(7, .long (((nI ((C q) / (2 ^ L))) - (nI a)).toInt64)), (6, .int (nI q)), (4, .long dd), (3, .int (nI j)), (1, .int (nI a)), (2, .int (nI b)), (0, .ref mo)] := hl
          refine lv_aload_n hx hb d_Mo_nearest_45 rfl (lv_at hl 6 rfl) ?_
          refine y_get S hk hP 0 rfl f_Mo_13 rfl d_Mo_nearest_46 ?_
          refine lv_iload hx hb d_Mo_nearest_49 (lv_at hl 1 rfl) ?_
          refine y_ald hx hb hk hP 1 rfl (by omega) (by decide) d_Mo_nearest_51 ?_
          refine lv_aload_n hx hb d_Mo_nearest_52 rfl (lv_at hl 6 rfl) ?_
          refine vp_callSi (va_Run.run (run_V S v_Mo_26 (c_Mo_side la G mo mc_ mv_ mk_ mx_ L n x0 y0 x1 y1 hL) ⟨rfl, rfl⟩ ⟨Nat.le_of_ble_eq_true rfl, Nat.le_of_ble_eq_true rfl⟩ (preR_V hP hk hs [0] rfl 0 rfl rfl) (rest := [.int (nI (C q))]) rfl hl.1 rfl (Nat.le_of_ble_eq_true rfl) d_Mo_nearest_53 ⟨Nat.le_refl _, Nat.le_refl _⟩)) (fun r53 hr53 => ?_)
          subst hr53
          refine x_irem hx hb d_Mo_nearest_56 (by omega) (by omega) (by omega) ?_
          refine lv_iload_n hx hb d_Mo_nearest_57 rfl (lv_at hl 5 rfl) ?_
          refine lv_isub hx hb d_Mo_nearest_58 ?_
          refine lv_i2l hx hb d_Mo_nearest_59 rfl ?_
          refine lv_lstore hx hb d_Mo_nearest_60 hl (by decide) rfl (fun ls hl => ?_)
          have hl : lv_has ls 13 [(9, .long (((nI ((C q) % (2 ^ L))) - (nI b)).toInt64)), (7, .long (((nI ((C q) / (2 ^ L))) - (nI a)).toInt64)), (6, .int (nI q)), (4, .long dd), (3, .int (nI j)), (1, .int (nI a)), (2, .int (nI b)), (0, .ref mo)] := hl
          refine lv_lload hx hb d_Mo_nearest_62 (lv_at hl 1 rfl) ?_
          refine lv_lload hx hb d_Mo_nearest_64 (lv_at hl 1 rfl) ?_
          refine lv_lmul hx hb d_Mo_nearest_66 ?_
          refine lv_lload hx hb d_Mo_nearest_67 (lv_at hl 0 rfl) ?_
          refine lv_lload hx hb d_Mo_nearest_69 (lv_at hl 0 rfl) ?_
          refine lv_lmul hx hb d_Mo_nearest_71 ?_
          refine lv_ladd hx hb d_Mo_nearest_72 ?_
          have edq : (nI (C q / 2 ^ L) - nI a).toInt64 * (nI (C q / 2 ^ L) - nI a).toInt64 + (nI (C q % 2 ^ L) - nI b).toInt64 * (nI (C q % 2 ^ L) - nI b).toInt64 = lN (dq L a b (C q)) := by rw [sqd_l' (by omega) (by omega), sqd_l' (by omega) (by omega), lN_add]; rfl
          refine x_reL edq ?_
          refine lv_lstore hx hb d_Mo_nearest_73 hl (by decide) rfl (fun ls hl => ?_)
          have hl : lv_has ls 13 [(11, .long (lN (dq L a b (C q)))), (9, .long (((nI ((C q) % (2 ^ L))) - (nI b)).toInt64)), (7, .long (((nI ((C q) / (2 ^ L))) - (nI a)).toInt64)), (6, .int (nI q)), (4, .long dd), (3, .int (nI j)), (1, .int (nI a)), (2, .int (nI b)), (0, .ref mo)] := hl
          refine lv_iload_n hx hb d_Mo_nearest_75 rfl (lv_at hl 5 rfl) ?_
          refine lv_if_lt hx hb d_Mo_nearest_76 (tgt := 111) (by decide) (fun h => absurd h (nI_pos (by omega))) (fun _ => ?_)
          refine lv_lload hx hb d_Mo_nearest_79 (lv_at hl 0 rfl) ?_
          refine lv_lload hx hb d_Mo_nearest_81 (lv_at hl 4 rfl) ?_
          refine W.lcmp hx hb d_Mo_nearest_83 ?_
          refine lv_if_lt hx hb d_Mo_nearest_84 (tgt := 111) (by decide) (fun h84 => ?_) (fun h84 => ?_)
          · refine lv_iload hx hb d_Mo_nearest_111 (lv_at hl 3 rfl) ?_
            refine lv_istore_n hx hb d_Mo_nearest_113 rfl hl (by decide) rfl (fun ls hl => ?_)
            have hl : lv_has ls 13 [(3, .int (nI q)), (11, .long (lN (dq L a b (C q)))), (9, .long (((nI ((C q) % (2 ^ L))) - (nI b)).toInt64)), (7, .long (((nI ((C q) / (2 ^ L))) - (nI a)).toInt64)), (6, .int (nI q)), (4, .long dd), (1, .int (nI a)), (2, .int (nI b)), (0, .ref mo)] := hl
            refine lv_lload hx hb d_Mo_nearest_114 (lv_at hl 1 rfl) ?_
            refine lv_lstore hx hb d_Mo_nearest_116 hl (by decide) rfl (fun ls hl => ?_)
            have hl : lv_has ls 13 [(4, .long (lN (dq L a b (C q)))), (3, .int (nI q)), (11, .long (lN (dq L a b (C q)))), (9, .long (((nI ((C q) % (2 ^ L))) - (nI b)).toInt64)), (7, .long (((nI ((C q) / (2 ^ L))) - (nI a)).toInt64)), (6, .int (nI q)), (1, .int (nI a)), (2, .int (nI b)), (0, .ref mo)] := hl
            refine lv_iinc (v := nI (q + 1)) hx hb d_Mo_nearest_118 hl (k := 5) rfl (ii_p _ 1) (by decide) rfl (fun ls hl => ?_)
            have hl : lv_has ls 13 [(6, .int (nI (q + 1))), (4, .long (lN (dq L a b (C q)))), (3, .int (nI q)), (11, .long (lN (dq L a b (C q)))), (9, .long (((nI ((C q) % (2 ^ L))) - (nI b)).toInt64)), (7, .long (((nI ((C q) / (2 ^ L))) - (nI a)).toInt64)), (1, .int (nI a)), (2, .int (nI b)), (0, .ref mo)] := hl
            refine lv_goto hx hb d_Mo_nearest_121 (tgt := 19) (by decide) ?_
            have hl := lv_sub hl [0, 1, 2, 6, 7, 8] rfl
            exact ih (q + 1) _ _ _ (by omega) hl (by omega) (nrM_take hmin (Or.inl (by rw [edd, lg_cmp_lt, pk_lLT (by have := hdq q (by omega); omega) (by have := hdq j (by omega); omega)] at h84; exact h84)))
          · refine lv_lload hx hb d_Mo_nearest_87 (lv_at hl 0 rfl) ?_
            refine lv_lload hx hb d_Mo_nearest_89 (lv_at hl 4 rfl) ?_
            refine W.lcmp hx hb d_Mo_nearest_91 ?_
            refine lv_if_ne hx hb d_Mo_nearest_92 (tgt := 118) (by decide) (fun h92 => ?_) (fun h92 => ?_)
            · refine lv_iinc (v := nI (q + 1)) hx hb d_Mo_nearest_118 hl (k := 3) rfl (ii_p _ 1) (by decide) rfl (fun ls hl => ?_)
              have hl : lv_has ls 13 [(6, .int (nI (q + 1))), (11, .long (lN (dq L a b (C q)))), (9, .long (((nI ((C q) % (2 ^ L))) - (nI b)).toInt64)), (7, .long (((nI ((C q) / (2 ^ L))) - (nI a)).toInt64)), (4, .long dd), (3, .int (nI j)), (1, .int (nI a)), (2, .int (nI b)), (0, .ref mo)] := hl
              refine lv_goto hx hb d_Mo_nearest_121 (tgt := 19) (by decide) ?_
              have hl := lv_sub hl [0, 4, 5, 6, 7, 8] rfl
              exact ih (q + 1) _ _ _ (by omega) hl (by omega) (by rw [edd]; exact nrM_stay hj hmin (Or.inl (by rw [edd, lg_cmp_eq, pk_lEQ (by have := hdq q (by omega); omega) (by have := hdq j (by omega); omega)] at h92; rw [edd, lg_cmp_lt, pk_lLT (by have := hdq q (by omega); omega) (by have := hdq j (by omega); omega)] at h84; omega)))
            · refine lv_aload_n hx hb d_Mo_nearest_95 rfl (lv_at hl 8 rfl) ?_
              refine lv_iconst (v := nI 1) hx hb d_Mo_nearest_96 (by decide) ?_
              refine lv_iload hx hb d_Mo_nearest_97 (lv_at hl 3 rfl) ?_
              refine vp_callSi (va_Run.run (run_V S v_Mo_68 (c_Mo_keyAt la G mo mc_ mv_ mk_ mx_ L n x0 y0 x1 y1 C 1 q hL hL1 hC (by omega) (by omega) (hcl q (by omega))) ⟨rfl, rfl⟩ ⟨Nat.le_of_ble_eq_true rfl, Nat.le_of_ble_eq_true rfl⟩ (preR_V hP hk hs [0, 1] rfl 0 rfl rfl) (rest := []) rfl hl.1 rfl (Nat.le_of_ble_eq_true rfl) d_Mo_nearest_99 ⟨Nat.le_refl _, Nat.le_refl _⟩)) (fun r5 hr5 => ?_)
              subst hr5
              have hk1 := hkl q (by omega)
              refine lv_aload_n hx hb d_Mo_nearest_102 rfl (lv_at hl 8 rfl) ?_
              refine lv_iconst (v := nI 1) hx hb d_Mo_nearest_103 (by decide) ?_
              refine lv_iload_n hx hb d_Mo_nearest_104 rfl (lv_at hl 5 rfl) ?_
              refine vp_callSi (va_Run.run (run_V S v_Mo_68 (c_Mo_keyAt la G mo mc_ mv_ mk_ mx_ L n x0 y0 x1 y1 C 1 j hL hL1 hC (by omega) (by omega) (hcl j (by omega))) ⟨rfl, rfl⟩ ⟨Nat.le_of_ble_eq_true rfl, Nat.le_of_ble_eq_true rfl⟩ (preR_V hP hk hs [0, 1] rfl 0 rfl rfl) (rest := [.int (nI (ke 1 L (C q)))]) rfl hl.1 rfl (Nat.le_of_ble_eq_true rfl) d_Mo_nearest_105 ⟨Nat.le_refl _, Nat.le_refl _⟩)) (fun r6 hr6 => ?_)
              subst hr6
              have hk2 := hkl j (by omega)
              refine x_icmp_ge hx hb d_Mo_nearest_108 (tgt := 118) (by decide) (by omega) (by omega) (fun h108 => ?_) (fun h108 => ?_)
              · refine lv_iinc (v := nI (q + 1)) hx hb d_Mo_nearest_118 hl (k := 3) rfl (ii_p _ 1) (by decide) rfl (fun ls hl => ?_)
                have hl : lv_has ls 13 [(6, .int (nI (q + 1))), (11, .long (lN (dq L a b (C q)))), (9, .long (((nI ((C q) % (2 ^ L))) - (nI b)).toInt64)), (7, .long (((nI ((C q) / (2 ^ L))) - (nI a)).toInt64)), (4, .long dd), (3, .int (nI j)), (1, .int (nI a)), (2, .int (nI b)), (0, .ref mo)] := hl
                refine lv_goto hx hb d_Mo_nearest_121 (tgt := 19) (by decide) ?_
                have hl := lv_sub hl [0, 4, 5, 6, 7, 8] rfl
                exact ih (q + 1) _ _ _ (by omega) hl (by omega) (by rw [edd]; exact nrM_stay hj hmin (Or.inr ⟨(by rw [edd, lg_cmp_eq, pk_lEQ (by have := hdq q (by omega); omega) (by have := hdq j (by omega); omega)] at h92; omega), h108⟩))
              · refine lv_iload hx hb d_Mo_nearest_111 (lv_at hl 3 rfl) ?_
                refine lv_istore_n hx hb d_Mo_nearest_113 rfl hl (by decide) rfl (fun ls hl => ?_)
                have hl : lv_has ls 13 [(3, .int (nI q)), (11, .long (lN (dq L a b (C q)))), (9, .long (((nI ((C q) % (2 ^ L))) - (nI b)).toInt64)), (7, .long (((nI ((C q) / (2 ^ L))) - (nI a)).toInt64)), (6, .int (nI q)), (4, .long dd), (1, .int (nI a)), (2, .int (nI b)), (0, .ref mo)] := hl
                refine lv_lload hx hb d_Mo_nearest_114 (lv_at hl 1 rfl) ?_
                refine lv_lstore hx hb d_Mo_nearest_116 hl (by decide) rfl (fun ls hl => ?_)
                have hl : lv_has ls 13 [(4, .long (lN (dq L a b (C q)))), (3, .int (nI q)), (11, .long (lN (dq L a b (C q)))), (9, .long (((nI ((C q) % (2 ^ L))) - (nI b)).toInt64)), (7, .long (((nI ((C q) / (2 ^ L))) - (nI a)).toInt64)), (6, .int (nI q)), (1, .int (nI a)), (2, .int (nI b)), (0, .ref mo)] := hl
                refine lv_iinc (v := nI (q + 1)) hx hb d_Mo_nearest_118 hl (k := 5) rfl (ii_p _ 1) (by decide) rfl (fun ls hl => ?_)
                have hl : lv_has ls 13 [(6, .int (nI (q + 1))), (4, .long (lN (dq L a b (C q)))), (3, .int (nI q)), (11, .long (lN (dq L a b (C q)))), (9, .long (((nI ((C q) % (2 ^ L))) - (nI b)).toInt64)), (7, .long (((nI ((C q) / (2 ^ L))) - (nI a)).toInt64)), (1, .int (nI a)), (2, .int (nI b)), (0, .ref mo)] := hl
                refine lv_goto hx hb d_Mo_nearest_121 (tgt := 19) (by decide) ?_
                have hl := lv_sub hl [0, 1, 2, 6, 7, 8] rfl
                exact ih (q + 1) _ _ _ (by omega) hl (by omega) (nrM_take hmin (Or.inr ⟨(by rw [edd, lg_cmp_eq, pk_lEQ (by have := hdq q (by omega); omega) (by have := hdq j (by omega); omega)] at h92; omega), h108⟩))
  · refine lv_if_ne hx hb d_Mo_nearest_6 (tgt := 11) (by decide) (fun h => absurd rfl h) (fun _ => ?_)
    refine lv_iconst (v := (-1)) hx hb d_Mo_nearest_9 (by decide) ?_
    exact hret _ _ _ rfl (Or.inr ⟨q1, rfl⟩) d_Mo_nearest_10
set_option maxHeartbeats 4000000 in
set_option maxRecDepth 100000 in
theorem c_Mo_begin (la : Launch) (G : gG) (mo mc_ mv_ mk_ mx_ L n x0 y0 x1 y1 : Nat) (C V K X : Nat → Nat) (x : Int32) (hM : okMo (L, (n, C, V), (x0, y0, x1, y1), (K, X))) : MetW la y_Mo_begin b_Mo_begin 2 .boolean 0 0 0 0 [.ref mo, .int x] G [(mo, .inr (4, [.int (nI L), .int (nI n), .ref mc_, .ref mv_, .int (nI x0), .int (nI y0), .int (nI x1), .int (nI y1), .ref mk_, .ref mx_])), (mc_, .inl (G.2.1, 500, .inl (fun zz => nI (C zz)))), (mv_, .inl (G.2.1, 500, .inl (fun zz => nI (V zz)))), (mk_, .inl (G.2.1, 4096, .inl (fun zz => nI (K zz)))), (mx_, .inl (G.2.1, 4096, .inl (fun zz => nI (X zz))))] (S := mS) (fun r u => (∃ j, 1 ≤ j ∧ j ≤ 15 ∧ x = nI j ∧ r = 1 ∧ u = (j, (0, C, V), (0, 0, 0, 0), (K, X))) ∨ (¬ begO x ∧ r = 0 ∧ u = (L, (n, C, V), (x0, y0, x1, y1), (K, X)))) (fun u => [(mo, .inr (4, [.int (nI u.1), .int (nI u.2.1.1), .ref mc_, .ref mv_, .int (nI u.2.2.1.1), .int (nI u.2.2.1.2.1), .int (nI u.2.2.1.2.2.1), .int (nI u.2.2.1.2.2.2), .ref mk_, .ref mx_])), (mc_, .inl (G.2.1, 500, .inl (fun zz => nI (u.2.1.2.1 zz)))), (mv_, .inl (G.2.1, 500, .inl (fun zz => nI (u.2.1.2.2 zz)))), (mk_, .inl (G.2.1, 4096, .inl (fun zz => nI (u.2.2.2.1 zz)))), (mx_, .inl (G.2.1, 4096, .inl (fun zz => nI (u.2.2.2.2 zz))))]) := by
  refine MetW.mk (by decide +kernel) (Nat.le_of_ble_eq_true rfl) ?_
  intro p e s m below meth c Q A ls S hP hD hA hS hk hs hret hl
  have hx := S.1
  have hb := S.2.1
  have hP : va_P G.1 cls [(mo, .inr (4, [.int (nI L), .int (nI n), .ref mc_, .ref mv_, .int (nI x0), .int (nI y0), .int (nI x1), .int (nI y1), .ref mk_, .ref mx_])), (mc_, .inl (G.2.1, 500, .inl (fun zz => nI (C zz)))), (mv_, .inl (G.2.1, 500, .inl (fun zz => nI (V zz)))), (mk_, .inl (G.2.1, 4096, .inl (fun zz => nI (K zz)))), (mx_, .inl (G.2.1, 4096, .inl (fun zz => nI (X zz))))] s.heap := hP
  have hD : va_D A [(mo, .inr (4, [.int (nI L), .int (nI n), .ref mc_, .ref mv_, .int (nI x0), .int (nI y0), .int (nI x1), .int (nI y1), .ref mk_, .ref mx_])), (mc_, .inl (G.2.1, 500, .inl (fun zz => nI (C zz)))), (mv_, .inl (G.2.1, 500, .inl (fun zz => nI (V zz)))), (mk_, .inl (G.2.1, 4096, .inl (fun zz => nI (K zz)))), (mx_, .inl (G.2.1, 4096, .inl (fun zz => nI (X zz))))] := hD
  have hM' := hM
  obtain ⟨⟨hL1, hL⟩, hm, ⟨hC, hV⟩, hF, hK, hX⟩ := hM
  dsimp only at hL1 hL hm hC hV hF hK hX
  have hFb := hF.b hL
  obtain ⟨hf1, hf2, hf3, hf4⟩ := hF
  dsimp only at hf1 hf2 hf3 hf4 hFb
  have hp2 := p2_15 hL
  have hp4 := p4_15 hL
  have hpp := Nat.two_pow_pos L
  have hn5 := hm.1
  rcases ng x with hx0 | ⟨a, ha, rfl⟩
  · have hl : lv_has ls 2 [(0, .ref mo), (1, .int x)] := hl
    refine lv_iload_n hx hb d_Mo_begin_0 rfl (lv_at hl 1 rfl) ?_
    refine lv_iconst (v := nI 1) hx hb d_Mo_begin_1 (by decide) ?_
    refine lv_icmp_lt hx hb d_Mo_begin_2 (tgt := 11) (by decide) (fun _ => ?_) (fun h => absurd (ng_lt hx0 (by omega)) h)
    refine lv_iconst (v := nI 0) hx hb d_Mo_begin_11 (by decide) ?_
    exact hret _ _ _ (L, (n, C, V), (x0, y0, x1, y1), (K, X)) _ _ (by decide) (Or.inr ⟨by first | exact begO_ng hx0 | exact fun z => absurd (begO_nI ha z) (by omega), by decide, rfl⟩) hP hD hS d_Mo_begin_12
  · have hl : lv_has ls 2 [(0, .ref mo), (1, .int (nI a))] := hl
    refine lv_iload_n hx hb d_Mo_begin_0 rfl (lv_at hl 1 rfl) ?_
    refine lv_iconst (v := nI 1) hx hb d_Mo_begin_1 (by decide) ?_
    refine x_icmp_lt hx hb d_Mo_begin_2 (tgt := 11) (by decide) (by omega) (by omega) (fun h2 => ?_) (fun h2 => ?_)
    · refine lv_iconst (v := nI 0) hx hb d_Mo_begin_11 (by decide) ?_
      exact hret _ _ _ (L, (n, C, V), (x0, y0, x1, y1), (K, X)) _ _ (by decide) (Or.inr ⟨by first | exact begO_ng hx0 | exact fun z => absurd (begO_nI ha z) (by omega), by decide, rfl⟩) hP hD hS d_Mo_begin_12
    · refine lv_iload_n hx hb d_Mo_begin_5 rfl (lv_at hl 1 rfl) ?_
      refine lv_bipush (v := nI 15) hx hb d_Mo_begin_6 (by decide) ?_
      refine x_icmp_le hx hb d_Mo_begin_8 (tgt := 13) (by decide) (by omega) (by omega) (fun h8 => ?_) (fun h8 => ?_)
      · refine lv_aload_n hx hb d_Mo_begin_13 rfl (lv_at hl 0 rfl) ?_
        refine lv_iload_n hx hb d_Mo_begin_14 rfl (lv_at hl 1 rfl) ?_
        refine y_put S hk hP hD hS 0 rfl f_Mo_7 T_4 M_4_0 rfl rfl (Nat.le_of_ble_eq_true rfl) d_Mo_begin_15 (fun H locs hP hD hS => ?_)
        have hP : va_P G.1 cls [(mo, .inr (4, [.int (nI a), .int (nI n), .ref mc_, .ref mv_, .int (nI x0), .int (nI y0), .int (nI x1), .int (nI y1), .ref mk_, .ref mx_])), (mc_, .inl (G.2.1, 500, .inl (fun zz => nI (C zz)))), (mv_, .inl (G.2.1, 500, .inl (fun zz => nI (V zz)))), (mk_, .inl (G.2.1, 4096, .inl (fun zz => nI (K zz)))), (mx_, .inl (G.2.1, 4096, .inl (fun zz => nI (X zz))))] H := hP
        have hD : va_D A [(mo, .inr (4, [.int (nI a), .int (nI n), .ref mc_, .ref mv_, .int (nI x0), .int (nI y0), .int (nI x1), .int (nI y1), .ref mk_, .ref mx_])), (mc_, .inl (G.2.1, 500, .inl (fun zz => nI (C zz)))), (mv_, .inl (G.2.1, 500, .inl (fun zz => nI (V zz)))), (mk_, .inl (G.2.1, 4096, .inl (fun zz => nI (K zz)))), (mx_, .inl (G.2.1, 4096, .inl (fun zz => nI (X zz))))] := hD
        refine lv_aload_n hx hb d_Mo_begin_18 rfl (lv_at hl 0 rfl) ?_
        refine lv_iconst (v := nI 0) hx hb d_Mo_begin_19 (by decide) ?_
        refine y_put S hk hP hD hS 0 rfl f_Mo_30 T_4 M_4_1 rfl rfl (Nat.le_of_ble_eq_true rfl) d_Mo_begin_20 (fun H locs hP hD hS => ?_)
        have hP : va_P G.1 cls [(mo, .inr (4, [.int (nI a), .int (nI 0), .ref mc_, .ref mv_, .int (nI x0), .int (nI y0), .int (nI x1), .int (nI y1), .ref mk_, .ref mx_])), (mc_, .inl (G.2.1, 500, .inl (fun zz => nI (C zz)))), (mv_, .inl (G.2.1, 500, .inl (fun zz => nI (V zz)))), (mk_, .inl (G.2.1, 4096, .inl (fun zz => nI (K zz)))), (mx_, .inl (G.2.1, 4096, .inl (fun zz => nI (X zz))))] H := hP
        have hD : va_D A [(mo, .inr (4, [.int (nI a), .int (nI 0), .ref mc_, .ref mv_, .int (nI x0), .int (nI y0), .int (nI x1), .int (nI y1), .ref mk_, .ref mx_])), (mc_, .inl (G.2.1, 500, .inl (fun zz => nI (C zz)))), (mv_, .inl (G.2.1, 500, .inl (fun zz => nI (V zz)))), (mk_, .inl (G.2.1, 4096, .inl (fun zz => nI (K zz)))), (mx_, .inl (G.2.1, 4096, .inl (fun zz => nI (X zz))))] := hD
        refine lv_aload_n hx hb d_Mo_begin_23 rfl (lv_at hl 0 rfl) ?_
        refine lv_iconst (v := nI 0) hx hb d_Mo_begin_24 (by decide) ?_
        refine y_put S hk hP hD hS 0 rfl f_Mo_33 T_4 M_4_4 rfl rfl (Nat.le_of_ble_eq_true rfl) d_Mo_begin_25 (fun H locs hP hD hS => ?_)
        have hP : va_P G.1 cls [(mo, .inr (4, [.int (nI a), .int (nI 0), .ref mc_, .ref mv_, .int (nI 0), .int (nI y0), .int (nI x1), .int (nI y1), .ref mk_, .ref mx_])), (mc_, .inl (G.2.1, 500, .inl (fun zz => nI (C zz)))), (mv_, .inl (G.2.1, 500, .inl (fun zz => nI (V zz)))), (mk_, .inl (G.2.1, 4096, .inl (fun zz => nI (K zz)))), (mx_, .inl (G.2.1, 4096, .inl (fun zz => nI (X zz))))] H := hP
        have hD : va_D A [(mo, .inr (4, [.int (nI a), .int (nI 0), .ref mc_, .ref mv_, .int (nI 0), .int (nI y0), .int (nI x1), .int (nI y1), .ref mk_, .ref mx_])), (mc_, .inl (G.2.1, 500, .inl (fun zz => nI (C zz)))), (mv_, .inl (G.2.1, 500, .inl (fun zz => nI (V zz)))), (mk_, .inl (G.2.1, 4096, .inl (fun zz => nI (K zz)))), (mx_, .inl (G.2.1, 4096, .inl (fun zz => nI (X zz))))] := hD
        refine lv_aload_n hx hb d_Mo_begin_28 rfl (lv_at hl 0 rfl) ?_
        refine lv_iconst (v := nI 0) hx hb d_Mo_begin_29 (by decide) ?_
        refine y_put S hk hP hD hS 0 rfl f_Mo_36 T_4 M_4_5 rfl rfl (Nat.le_of_ble_eq_true rfl) d_Mo_begin_30 (fun H locs hP hD hS => ?_)
        have hP : va_P G.1 cls [(mo, .inr (4, [.int (nI a), .int (nI 0), .ref mc_, .ref mv_, .int (nI 0), .int (nI 0), .int (nI x1), .int (nI y1), .ref mk_, .ref mx_])), (mc_, .inl (G.2.1, 500, .inl (fun zz => nI (C zz)))), (mv_, .inl (G.2.1, 500, .inl (fun zz => nI (V zz)))), (mk_, .inl (G.2.1, 4096, .inl (fun zz => nI (K zz)))), (mx_, .inl (G.2.1, 4096, .inl (fun zz => nI (X zz))))] H := hP
        have hD : va_D A [(mo, .inr (4, [.int (nI a), .int (nI 0), .ref mc_, .ref mv_, .int (nI 0), .int (nI 0), .int (nI x1), .int (nI y1), .ref mk_, .ref mx_])), (mc_, .inl (G.2.1, 500, .inl (fun zz => nI (C zz)))), (mv_, .inl (G.2.1, 500, .inl (fun zz => nI (V zz)))), (mk_, .inl (G.2.1, 4096, .inl (fun zz => nI (K zz)))), (mx_, .inl (G.2.1, 4096, .inl (fun zz => nI (X zz))))] := hD
        refine lv_aload_n hx hb d_Mo_begin_33 rfl (lv_at hl 0 rfl) ?_
        refine lv_iconst (v := nI 0) hx hb d_Mo_begin_34 (by decide) ?_
        refine y_put S hk hP hD hS 0 rfl f_Mo_39 T_4 M_4_6 rfl rfl (Nat.le_of_ble_eq_true rfl) d_Mo_begin_35 (fun H locs hP hD hS => ?_)
        have hP : va_P G.1 cls [(mo, .inr (4, [.int (nI a), .int (nI 0), .ref mc_, .ref mv_, .int (nI 0), .int (nI 0), .int (nI 0), .int (nI y1), .ref mk_, .ref mx_])), (mc_, .inl (G.2.1, 500, .inl (fun zz => nI (C zz)))), (mv_, .inl (G.2.1, 500, .inl (fun zz => nI (V zz)))), (mk_, .inl (G.2.1, 4096, .inl (fun zz => nI (K zz)))), (mx_, .inl (G.2.1, 4096, .inl (fun zz => nI (X zz))))] H := hP
        have hD : va_D A [(mo, .inr (4, [.int (nI a), .int (nI 0), .ref mc_, .ref mv_, .int (nI 0), .int (nI 0), .int (nI 0), .int (nI y1), .ref mk_, .ref mx_])), (mc_, .inl (G.2.1, 500, .inl (fun zz => nI (C zz)))), (mv_, .inl (G.2.1, 500, .inl (fun zz => nI (V zz)))), (mk_, .inl (G.2.1, 4096, .inl (fun zz => nI (K zz)))), (mx_, .inl (G.2.1, 4096, .inl (fun zz => nI (X zz))))] := hD
        refine lv_aload_n hx hb d_Mo_begin_38 rfl (lv_at hl 0 rfl) ?_
        refine lv_iconst (v := nI 0) hx hb d_Mo_begin_39 (by decide) ?_
        refine y_put S hk hP hD hS 0 rfl f_Mo_42 T_4 M_4_7 rfl rfl (Nat.le_of_ble_eq_true rfl) d_Mo_begin_40 (fun H locs hP hD hS => ?_)
        have hP : va_P G.1 cls [(mo, .inr (4, [.int (nI a), .int (nI 0), .ref mc_, .ref mv_, .int (nI 0), .int (nI 0), .int (nI 0), .int (nI 0), .ref mk_, .ref mx_])), (mc_, .inl (G.2.1, 500, .inl (fun zz => nI (C zz)))), (mv_, .inl (G.2.1, 500, .inl (fun zz => nI (V zz)))), (mk_, .inl (G.2.1, 4096, .inl (fun zz => nI (K zz)))), (mx_, .inl (G.2.1, 4096, .inl (fun zz => nI (X zz))))] H := hP
        have hD : va_D A [(mo, .inr (4, [.int (nI a), .int (nI 0), .ref mc_, .ref mv_, .int (nI 0), .int (nI 0), .int (nI 0), .int (nI 0), .ref mk_, .ref mx_])), (mc_, .inl (G.2.1, 500, .inl (fun zz => nI (C zz)))), (mv_, .inl (G.2.1, 500, .inl (fun zz => nI (V zz)))), (mk_, .inl (G.2.1, 4096, .inl (fun zz => nI (K zz)))), (mx_, .inl (G.2.1, 4096, .inl (fun zz => nI (X zz))))] := hD
        refine lv_iconst (v := nI 1) hx hb d_Mo_begin_43 (by decide) ?_
        exact hret _ _ _ (a, (0, C, V), (0, 0, 0, 0), (K, X)) _ _ (by decide) (Or.inl ⟨a, by omega, by omega, rfl, by decide, rfl⟩) hP hD hS d_Mo_begin_44
      · refine lv_iconst (v := nI 0) hx hb d_Mo_begin_11 (by decide) ?_
        exact hret _ _ _ (L, (n, C, V), (x0, y0, x1, y1), (K, X)) _ _ (by decide) (Or.inr ⟨by first | exact begO_ng hx0 | exact fun z => absurd (begO_nI ha z) (by omega), by decide, rfl⟩) hP hD hS d_Mo_begin_12
set_option maxHeartbeats 4000000 in
set_option maxRecDepth 100000 in
theorem c_Mo_window (la : Launch) (G : gG) (mo mc_ mv_ mk_ mx_ L n x0 y0 x1 y1 : Nat) (C V K X : Nat → Nat) (X0 Y0 X1 Y1 : Int32) (hM : okMo (L, (n, C, V), (x0, y0, x1, y1), (K, X))) : MetW la y_Mo_window b_Mo_window 5 .boolean 2 42 0 0 [.ref mo, .int X0, .int Y0, .int X1, .int Y1] G [(mo, .inr (4, [.int (nI L), .int (nI n), .ref mc_, .ref mv_, .int (nI x0), .int (nI y0), .int (nI x1), .int (nI y1), .ref mk_, .ref mx_])), (mc_, .inl (G.2.1, 500, .inl (fun zz => nI (C zz)))), (mv_, .inl (G.2.1, 500, .inl (fun zz => nI (V zz)))), (mk_, .inl (G.2.1, 4096, .inl (fun zz => nI (K zz)))), (mx_, .inl (G.2.1, 4096, .inl (fun zz => nI (X zz))))] (S := mS) (fun r u => (∃ a b a' b', a ≤ a' ∧ a' < 2 ^ L ∧ b ≤ b' ∧ b' < 2 ^ L ∧ X0 = nI a ∧ Y0 = nI b ∧ X1 = nI a' ∧ Y1 = nI b' ∧ r = 1 ∧ u = (L, (n, C, V), (a, b, a', b'), (K, X))) ∨ (¬ winO L X0 Y0 X1 Y1 ∧ r = 0 ∧ u = (L, (n, C, V), (x0, y0, x1, y1), (K, X)))) (fun u => [(mo, .inr (4, [.int (nI u.1), .int (nI u.2.1.1), .ref mc_, .ref mv_, .int (nI u.2.2.1.1), .int (nI u.2.2.1.2.1), .int (nI u.2.2.1.2.2.1), .int (nI u.2.2.1.2.2.2), .ref mk_, .ref mx_])), (mc_, .inl (G.2.1, 500, .inl (fun zz => nI (u.2.1.2.1 zz)))), (mv_, .inl (G.2.1, 500, .inl (fun zz => nI (u.2.1.2.2 zz)))), (mk_, .inl (G.2.1, 4096, .inl (fun zz => nI (u.2.2.2.1 zz)))), (mx_, .inl (G.2.1, 4096, .inl (fun zz => nI (u.2.2.2.2 zz))))]) := by
  refine MetW.mk (by decide +kernel) (Nat.le_of_ble_eq_true rfl) ?_
  intro p e s m below meth c Q A ls S hP hD hA hS hk hs hret hl
  have hx := S.1
  have hb := S.2.1
  have hP : va_P G.1 cls [(mo, .inr (4, [.int (nI L), .int (nI n), .ref mc_, .ref mv_, .int (nI x0), .int (nI y0), .int (nI x1), .int (nI y1), .ref mk_, .ref mx_])), (mc_, .inl (G.2.1, 500, .inl (fun zz => nI (C zz)))), (mv_, .inl (G.2.1, 500, .inl (fun zz => nI (V zz)))), (mk_, .inl (G.2.1, 4096, .inl (fun zz => nI (K zz)))), (mx_, .inl (G.2.1, 4096, .inl (fun zz => nI (X zz))))] s.heap := hP
  have hD : va_D A [(mo, .inr (4, [.int (nI L), .int (nI n), .ref mc_, .ref mv_, .int (nI x0), .int (nI y0), .int (nI x1), .int (nI y1), .ref mk_, .ref mx_])), (mc_, .inl (G.2.1, 500, .inl (fun zz => nI (C zz)))), (mv_, .inl (G.2.1, 500, .inl (fun zz => nI (V zz)))), (mk_, .inl (G.2.1, 4096, .inl (fun zz => nI (K zz)))), (mx_, .inl (G.2.1, 4096, .inl (fun zz => nI (X zz))))] := hD
  have hM' := hM
  obtain ⟨⟨hL1, hL⟩, hm, ⟨hC, hV⟩, hF, hK, hX⟩ := hM
  dsimp only at hL1 hL hm hC hV hF hK hX
  have hFb := hF.b hL
  obtain ⟨hf1, hf2, hf3, hf4⟩ := hF
  dsimp only at hf1 hf2 hf3 hf4 hFb
  have hp2 := p2_15 hL
  have hp4 := p4_15 hL
  have hpp := Nat.two_pow_pos L
  have hn5 := hm.1
  have hl : lv_has ls 5 [(0, .ref mo), (1, .int X0), (2, .int Y0), (3, .int X1), (4, .int Y1)] := hl
  refine lv_aload_n hx hb d_Mo_window_0 rfl (lv_at hl 0 rfl) ?_
  refine lv_iload_n hx hb d_Mo_window_1 rfl (lv_at hl 1 rfl) ?_
  refine lv_iload_n hx hb d_Mo_window_2 rfl (lv_at hl 2 rfl) ?_
  refine vp_callSi (va_Run.run (run_V S v_Mo_49 (c_Mo_isCell la G mo mc_ mv_ mk_ mx_ L n x0 y0 x1 y1 X0 Y0 hL) ⟨rfl, rfl⟩ ⟨Nat.le_of_ble_eq_true rfl, Nat.le_of_ble_eq_true rfl⟩ (preR_V hP hk (hs.kept (fun a h1 h2 => hS.2.1 a h1 h2)) [0] rfl 0 rfl rfl) (rest := []) rfl hl.1 rfl (Nat.le_of_ble_eq_true rfl) d_Mo_window_3 ⟨Nat.le_of_ble_eq_true rfl, Nat.le_of_ble_eq_true rfl⟩)) (fun r1 hr1 => ?_)
  rcases hr1 with ⟨rfl, a, b, ha, hb', rfl, rfl⟩ | ⟨rfl, q1⟩
  · have hl : lv_has ls 5 [(0, .ref mo), (1, .int (nI a)), (2, .int (nI b)), (3, .int X1), (4, .int Y1)] := hl
    refine lv_if_eq hx hb d_Mo_window_6 (tgt := 30) (by decide) (fun h => absurd h (by decide)) (fun _ => ?_)
    refine lv_aload_n hx hb d_Mo_window_9 rfl (lv_at hl 0 rfl) ?_
    refine lv_iload_n hx hb d_Mo_window_10 rfl (lv_at hl 3 rfl) ?_
    refine lv_iload hx hb d_Mo_window_11 (lv_at hl 4 rfl) ?_
    refine vp_callSi (va_Run.run (run_V S v_Mo_49 (c_Mo_isCell la G mo mc_ mv_ mk_ mx_ L n x0 y0 x1 y1 X1 Y1 hL) ⟨rfl, rfl⟩ ⟨Nat.le_of_ble_eq_true rfl, Nat.le_of_ble_eq_true rfl⟩ (preR_V hP hk (hs.kept (fun a h1 h2 => hS.2.1 a h1 h2)) [0] rfl 0 rfl rfl) (rest := []) rfl hl.1 rfl (Nat.le_of_ble_eq_true rfl) d_Mo_window_13 ⟨Nat.le_of_ble_eq_true rfl, Nat.le_of_ble_eq_true rfl⟩)) (fun r2 hr2 => ?_)
    rcases hr2 with ⟨rfl, a', b', ha2, hb2, rfl, rfl⟩ | ⟨rfl, q2⟩
    · have hl : lv_has ls 5 [(0, .ref mo), (1, .int (nI a)), (2, .int (nI b)), (3, .int (nI a')), (4, .int (nI b'))] := hl
      refine lv_if_eq hx hb d_Mo_window_16 (tgt := 30) (by decide) (fun h => absurd h (by decide)) (fun _ => ?_)
      refine lv_iload_n hx hb d_Mo_window_19 rfl (lv_at hl 3 rfl) ?_
      refine lv_iload_n hx hb d_Mo_window_20 rfl (lv_at hl 1 rfl) ?_
      refine x_icmp_lt hx hb d_Mo_window_21 (tgt := 30) (by decide) (by omega) (by omega) (fun h21 => ?_) (fun h21 => ?_)
      · refine lv_iconst (v := nI 0) hx hb d_Mo_window_30 (by decide) ?_
        exact hret _ _ _ (L, (n, C, V), (x0, y0, x1, y1), (K, X)) _ _ (by decide) (Or.inr ⟨by first | exact fun z => q1 (winO_1 z).1 | exact fun z => q2 (winO_1 z).2 | exact fun z => absurd (winO_nI hL ha hb' ha2 hb2 z) (by omega), by decide, rfl⟩) hP hD hS d_Mo_window_31
      · refine lv_iload hx hb d_Mo_window_24 (lv_at hl 4 rfl) ?_
        refine lv_iload_n hx hb d_Mo_window_26 rfl (lv_at hl 2 rfl) ?_
        refine x_icmp_ge hx hb d_Mo_window_27 (tgt := 32) (by decide) (by omega) (by omega) (fun h27 => ?_) (fun h27 => ?_)
        · refine lv_aload_n hx hb d_Mo_window_32 rfl (lv_at hl 0 rfl) ?_
          refine lv_iload_n hx hb d_Mo_window_33 rfl (lv_at hl 1 rfl) ?_
          refine y_put S hk hP hD hS 0 rfl f_Mo_33 T_4 M_4_4 rfl rfl (Nat.le_of_ble_eq_true rfl) d_Mo_window_34 (fun H locs hP hD hS => ?_)
          have hP : va_P G.1 cls [(mo, .inr (4, [.int (nI L), .int (nI n), .ref mc_, .ref mv_, .int (nI a), .int (nI y0), .int (nI x1), .int (nI y1), .ref mk_, .ref mx_])), (mc_, .inl (G.2.1, 500, .inl (fun zz => nI (C zz)))), (mv_, .inl (G.2.1, 500, .inl (fun zz => nI (V zz)))), (mk_, .inl (G.2.1, 4096, .inl (fun zz => nI (K zz)))), (mx_, .inl (G.2.1, 4096, .inl (fun zz => nI (X zz))))] H := hP
          have hD : va_D A [(mo, .inr (4, [.int (nI L), .int (nI n), .ref mc_, .ref mv_, .int (nI a), .int (nI y0), .int (nI x1), .int (nI y1), .ref mk_, .ref mx_])), (mc_, .inl (G.2.1, 500, .inl (fun zz => nI (C zz)))), (mv_, .inl (G.2.1, 500, .inl (fun zz => nI (V zz)))), (mk_, .inl (G.2.1, 4096, .inl (fun zz => nI (K zz)))), (mx_, .inl (G.2.1, 4096, .inl (fun zz => nI (X zz))))] := hD
          refine lv_aload_n hx hb d_Mo_window_37 rfl (lv_at hl 0 rfl) ?_
          refine lv_iload_n hx hb d_Mo_window_38 rfl (lv_at hl 2 rfl) ?_
          refine y_put S hk hP hD hS 0 rfl f_Mo_36 T_4 M_4_5 rfl rfl (Nat.le_of_ble_eq_true rfl) d_Mo_window_39 (fun H locs hP hD hS => ?_)
          have hP : va_P G.1 cls [(mo, .inr (4, [.int (nI L), .int (nI n), .ref mc_, .ref mv_, .int (nI a), .int (nI b), .int (nI x1), .int (nI y1), .ref mk_, .ref mx_])), (mc_, .inl (G.2.1, 500, .inl (fun zz => nI (C zz)))), (mv_, .inl (G.2.1, 500, .inl (fun zz => nI (V zz)))), (mk_, .inl (G.2.1, 4096, .inl (fun zz => nI (K zz)))), (mx_, .inl (G.2.1, 4096, .inl (fun zz => nI (X zz))))] H := hP
          have hD : va_D A [(mo, .inr (4, [.int (nI L), .int (nI n), .ref mc_, .ref mv_, .int (nI a), .int (nI b), .int (nI x1), .int (nI y1), .ref mk_, .ref mx_])), (mc_, .inl (G.2.1, 500, .inl (fun zz => nI (C zz)))), (mv_, .inl (G.2.1, 500, .inl (fun zz => nI (V zz)))), (mk_, .inl (G.2.1, 4096, .inl (fun zz => nI (K zz)))), (mx_, .inl (G.2.1, 4096, .inl (fun zz => nI (X zz))))] := hD
          refine lv_aload_n hx hb d_Mo_window_42 rfl (lv_at hl 0 rfl) ?_
          refine lv_iload_n hx hb d_Mo_window_43 rfl (lv_at hl 3 rfl) ?_
          refine y_put S hk hP hD hS 0 rfl f_Mo_39 T_4 M_4_6 rfl rfl (Nat.le_of_ble_eq_true rfl) d_Mo_window_44 (fun H locs hP hD hS => ?_)
          have hP : va_P G.1 cls [(mo, .inr (4, [.int (nI L), .int (nI n), .ref mc_, .ref mv_, .int (nI a), .int (nI b), .int (nI a'), .int (nI y1), .ref mk_, .ref mx_])), (mc_, .inl (G.2.1, 500, .inl (fun zz => nI (C zz)))), (mv_, .inl (G.2.1, 500, .inl (fun zz => nI (V zz)))), (mk_, .inl (G.2.1, 4096, .inl (fun zz => nI (K zz)))), (mx_, .inl (G.2.1, 4096, .inl (fun zz => nI (X zz))))] H := hP
          have hD : va_D A [(mo, .inr (4, [.int (nI L), .int (nI n), .ref mc_, .ref mv_, .int (nI a), .int (nI b), .int (nI a'), .int (nI y1), .ref mk_, .ref mx_])), (mc_, .inl (G.2.1, 500, .inl (fun zz => nI (C zz)))), (mv_, .inl (G.2.1, 500, .inl (fun zz => nI (V zz)))), (mk_, .inl (G.2.1, 4096, .inl (fun zz => nI (K zz)))), (mx_, .inl (G.2.1, 4096, .inl (fun zz => nI (X zz))))] := hD
          refine lv_aload_n hx hb d_Mo_window_47 rfl (lv_at hl 0 rfl) ?_
          refine lv_iload hx hb d_Mo_window_48 (lv_at hl 4 rfl) ?_
          refine y_put S hk hP hD hS 0 rfl f_Mo_42 T_4 M_4_7 rfl rfl (Nat.le_of_ble_eq_true rfl) d_Mo_window_50 (fun H locs hP hD hS => ?_)
          have hP : va_P G.1 cls [(mo, .inr (4, [.int (nI L), .int (nI n), .ref mc_, .ref mv_, .int (nI a), .int (nI b), .int (nI a'), .int (nI b'), .ref mk_, .ref mx_])), (mc_, .inl (G.2.1, 500, .inl (fun zz => nI (C zz)))), (mv_, .inl (G.2.1, 500, .inl (fun zz => nI (V zz)))), (mk_, .inl (G.2.1, 4096, .inl (fun zz => nI (K zz)))), (mx_, .inl (G.2.1, 4096, .inl (fun zz => nI (X zz))))] H := hP
          have hD : va_D A [(mo, .inr (4, [.int (nI L), .int (nI n), .ref mc_, .ref mv_, .int (nI a), .int (nI b), .int (nI a'), .int (nI b'), .ref mk_, .ref mx_])), (mc_, .inl (G.2.1, 500, .inl (fun zz => nI (C zz)))), (mv_, .inl (G.2.1, 500, .inl (fun zz => nI (V zz)))), (mk_, .inl (G.2.1, 4096, .inl (fun zz => nI (K zz)))), (mx_, .inl (G.2.1, 4096, .inl (fun zz => nI (X zz))))] := hD
          refine lv_iconst (v := nI 1) hx hb d_Mo_window_53 (by decide) ?_
          exact hret _ _ _ (L, (n, C, V), (a, b, a', b'), (K, X)) _ _ (by decide) (Or.inl ⟨a, b, a', b', by omega, ha2, by omega, hb2, rfl, rfl, rfl, rfl, by decide, rfl⟩) hP hD hS d_Mo_window_54
        · refine lv_iconst (v := nI 0) hx hb d_Mo_window_30 (by decide) ?_
          exact hret _ _ _ (L, (n, C, V), (x0, y0, x1, y1), (K, X)) _ _ (by decide) (Or.inr ⟨by first | exact fun z => q1 (winO_1 z).1 | exact fun z => q2 (winO_1 z).2 | exact fun z => absurd (winO_nI hL ha hb' ha2 hb2 z) (by omega), by decide, rfl⟩) hP hD hS d_Mo_window_31
    · refine lv_if_eq hx hb d_Mo_window_16 (tgt := 30) (by decide) (fun _ => ?_) (fun h => absurd (by decide) h)
      refine lv_iconst (v := nI 0) hx hb d_Mo_window_30 (by decide) ?_
      exact hret _ _ _ (L, (n, C, V), (x0, y0, x1, y1), (K, X)) _ _ (by decide) (Or.inr ⟨by first | exact fun z => q1 (winO_1 z).1 | exact fun z => q2 (winO_1 z).2 | exact fun z => absurd (winO_nI hL ha hb' ha2 hb2 z) (by omega), by decide, rfl⟩) hP hD hS d_Mo_window_31
  · refine lv_if_eq hx hb d_Mo_window_6 (tgt := 30) (by decide) (fun _ => ?_) (fun h => absurd (by decide) h)
    refine lv_iconst (v := nI 0) hx hb d_Mo_window_30 (by decide) ?_
    exact hret _ _ _ (L, (n, C, V), (x0, y0, x1, y1), (K, X)) _ _ (by decide) (Or.inr ⟨by first | exact fun z => q1 (winO_1 z).1 | exact fun z => q2 (winO_1 z).2 | exact fun z => absurd (winO_nI hL ha hb' ha2 hb2 z) (by omega), by decide, rfl⟩) hP hD hS d_Mo_window_31
set_option maxHeartbeats 4000000 in
set_option maxRecDepth 100000 in
theorem c_Mo_put (la : Launch) (G : gG) (mo mc_ mv_ mk_ mx_ L n x0 y0 x1 y1 : Nat) (C V K X : Nat → Nat) (x y w : Int32) (hM : okMo (L, (n, C, V), (x0, y0, x1, y1), (K, X))) : MetW la y_Mo_put b_Mo_put 6 .int 2 42 0 0 [.ref mo, .int x, .int y, .int w] G [(mo, .inr (4, [.int (nI L), .int (nI n), .ref mc_, .ref mv_, .int (nI x0), .int (nI y0), .int (nI x1), .int (nI y1), .ref mk_, .ref mx_])), (mc_, .inl (G.2.1, 500, .inl (fun zz => nI (C zz)))), (mv_, .inl (G.2.1, 500, .inl (fun zz => nI (V zz)))), (mk_, .inl (G.2.1, 4096, .inl (fun zz => nI (K zz)))), (mx_, .inl (G.2.1, 4096, .inl (fun zz => nI (X zz))))] (S := mS) (fun r u => (∃ a b k, a < 2 ^ L ∧ b < 2 ^ L ∧ 1 ≤ k ∧ k ≤ 999 ∧ x = nI a ∧ y = nI b ∧ w = nI k ∧ (wt n C V (a * 2 ^ L + b) ≠ 0 ∨ n < 500) ∧ r = nI (wt n C V (a * 2 ^ L + b)) ∧ putS n C V (a * 2 ^ L + b) k u.2.1.1 u.2.1.2.1 u.2.1.2.2 ∧ okMo u ∧ u.1 = L ∧ u.2.2.1 = (x0, y0, x1, y1)) ∨ (¬ putO L n C V x y w ∧ r = -1 ∧ u = (L, (n, C, V), (x0, y0, x1, y1), (K, X)))) (fun u => [(mo, .inr (4, [.int (nI u.1), .int (nI u.2.1.1), .ref mc_, .ref mv_, .int (nI u.2.2.1.1), .int (nI u.2.2.1.2.1), .int (nI u.2.2.1.2.2.1), .int (nI u.2.2.1.2.2.2), .ref mk_, .ref mx_])), (mc_, .inl (G.2.1, 500, .inl (fun zz => nI (u.2.1.2.1 zz)))), (mv_, .inl (G.2.1, 500, .inl (fun zz => nI (u.2.1.2.2 zz)))), (mk_, .inl (G.2.1, 4096, .inl (fun zz => nI (u.2.2.2.1 zz)))), (mx_, .inl (G.2.1, 4096, .inl (fun zz => nI (u.2.2.2.2 zz))))]) := by
  refine MetW.mk (by decide +kernel) (Nat.le_of_ble_eq_true rfl) ?_
  intro p e s m below meth c Q A ls S hP hD hA hS hk hs hret hl
  have hx := S.1
  have hb := S.2.1
  have hP : va_P G.1 cls [(mo, .inr (4, [.int (nI L), .int (nI n), .ref mc_, .ref mv_, .int (nI x0), .int (nI y0), .int (nI x1), .int (nI y1), .ref mk_, .ref mx_])), (mc_, .inl (G.2.1, 500, .inl (fun zz => nI (C zz)))), (mv_, .inl (G.2.1, 500, .inl (fun zz => nI (V zz)))), (mk_, .inl (G.2.1, 4096, .inl (fun zz => nI (K zz)))), (mx_, .inl (G.2.1, 4096, .inl (fun zz => nI (X zz))))] s.heap := hP
  have hD : va_D A [(mo, .inr (4, [.int (nI L), .int (nI n), .ref mc_, .ref mv_, .int (nI x0), .int (nI y0), .int (nI x1), .int (nI y1), .ref mk_, .ref mx_])), (mc_, .inl (G.2.1, 500, .inl (fun zz => nI (C zz)))), (mv_, .inl (G.2.1, 500, .inl (fun zz => nI (V zz)))), (mk_, .inl (G.2.1, 4096, .inl (fun zz => nI (K zz)))), (mx_, .inl (G.2.1, 4096, .inl (fun zz => nI (X zz))))] := hD
  have hM' := hM
  obtain ⟨⟨hL1, hL⟩, hm, ⟨hC, hV⟩, hF, hK, hX⟩ := hM
  dsimp only at hL1 hL hm hC hV hF hK hX
  have hFb := hF.b hL
  obtain ⟨hf1, hf2, hf3, hf4⟩ := hF
  dsimp only at hf1 hf2 hf3 hf4 hFb
  have hp2 := p2_15 hL
  have hp4 := p4_15 hL
  have hpp := Nat.two_pow_pos L
  have hn5 := hm.1
  rcases ng w with hw0 | ⟨k, hk', rfl⟩
  · have hl : lv_has ls 6 [(0, .ref mo), (1, .int x), (2, .int y), (3, .int w)] := hl
    refine lv_aload_n hx hb d_Mo_put_0 rfl (lv_at hl 0 rfl) ?_
    refine lv_iload_n hx hb d_Mo_put_1 rfl (lv_at hl 1 rfl) ?_
    refine lv_iload_n hx hb d_Mo_put_2 rfl (lv_at hl 2 rfl) ?_
    refine vp_callSi (va_Run.run (run_V S v_Mo_49 (c_Mo_isCell la G mo mc_ mv_ mk_ mx_ L n x0 y0 x1 y1 x y hL) ⟨rfl, rfl⟩ ⟨Nat.le_of_ble_eq_true rfl, Nat.le_of_ble_eq_true rfl⟩ (preR_V hP hk (hs.kept (fun a h1 h2 => hS.2.1 a h1 h2)) [0] rfl 0 rfl rfl) (rest := []) rfl hl.1 rfl (Nat.le_of_ble_eq_true rfl) d_Mo_put_3 ⟨Nat.le_of_ble_eq_true rfl, Nat.le_of_ble_eq_true rfl⟩)) (fun r1 hr1 => ?_)
    rcases hr1 with ⟨rfl, a, b, ha, hb', rfl, rfl⟩ | ⟨rfl, q1⟩
    · have hl : lv_has ls 6 [(0, .ref mo), (1, .int (nI a)), (2, .int (nI b)), (3, .int w)] := hl
      have hcm := (cl_mk ha hb').1
      refine lv_if_eq hx hb d_Mo_put_6 (tgt := 21) (by decide) (fun h => absurd h (by decide)) (fun _ => ?_)
      refine lv_iload_n hx hb d_Mo_put_9 rfl (lv_at hl 3 rfl) ?_
      refine lv_iconst (v := nI 1) hx hb d_Mo_put_10 (by decide) ?_
      refine lv_icmp_lt hx hb d_Mo_put_11 (tgt := 21) (by decide) (fun _ => ?_) (fun h => absurd (ng_lt hw0 (by omega)) h)
      refine lv_iconst (v := (-1)) hx hb d_Mo_put_21 (by decide) ?_
      exact hret _ _ _ (L, (n, C, V), (x0, y0, x1, y1), (K, X)) _ _ rfl (Or.inr ⟨by first | exact fun z => q1 (putO_c z).1 | exact fun z => absurd hw0 (putO_c z).2 | exact fun z => absurd (putO_nI hL ha hb' hk' z) (by omega), rfl, rfl⟩) hP hD hS d_Mo_put_22
    · refine lv_if_eq hx hb d_Mo_put_6 (tgt := 21) (by decide) (fun _ => ?_) (fun h => absurd (by decide) h)
      refine lv_iconst (v := (-1)) hx hb d_Mo_put_21 (by decide) ?_
      exact hret _ _ _ (L, (n, C, V), (x0, y0, x1, y1), (K, X)) _ _ rfl (Or.inr ⟨by first | exact fun z => q1 (putO_c z).1 | exact fun z => absurd hw0 (putO_c z).2 | exact fun z => absurd (putO_nI hL ha hb' hk' z) (by omega), rfl, rfl⟩) hP hD hS d_Mo_put_22
  · have hl : lv_has ls 6 [(0, .ref mo), (1, .int x), (2, .int y), (3, .int (nI k))] := hl
    refine lv_aload_n hx hb d_Mo_put_0 rfl (lv_at hl 0 rfl) ?_
    refine lv_iload_n hx hb d_Mo_put_1 rfl (lv_at hl 1 rfl) ?_
    refine lv_iload_n hx hb d_Mo_put_2 rfl (lv_at hl 2 rfl) ?_
    refine vp_callSi (va_Run.run (run_V S v_Mo_49 (c_Mo_isCell la G mo mc_ mv_ mk_ mx_ L n x0 y0 x1 y1 x y hL) ⟨rfl, rfl⟩ ⟨Nat.le_of_ble_eq_true rfl, Nat.le_of_ble_eq_true rfl⟩ (preR_V hP hk (hs.kept (fun a h1 h2 => hS.2.1 a h1 h2)) [0] rfl 0 rfl rfl) (rest := []) rfl hl.1 rfl (Nat.le_of_ble_eq_true rfl) d_Mo_put_3 ⟨Nat.le_of_ble_eq_true rfl, Nat.le_of_ble_eq_true rfl⟩)) (fun r1 hr1 => ?_)
    rcases hr1 with ⟨rfl, a, b, ha, hb', rfl, rfl⟩ | ⟨rfl, q1⟩
    · have hl : lv_has ls 6 [(0, .ref mo), (1, .int (nI a)), (2, .int (nI b)), (3, .int (nI k))] := hl
      have hcm := (cl_mk ha hb').1
      refine lv_if_eq hx hb d_Mo_put_6 (tgt := 21) (by decide) (fun h => absurd h (by decide)) (fun _ => ?_)
      refine lv_iload_n hx hb d_Mo_put_9 rfl (lv_at hl 3 rfl) ?_
      refine lv_iconst (v := nI 1) hx hb d_Mo_put_10 (by decide) ?_
      refine x_icmp_lt hx hb d_Mo_put_11 (tgt := 21) (by decide) (by omega) (by omega) (fun h11 => ?_) (fun h11 => ?_)
      · refine lv_iconst (v := (-1)) hx hb d_Mo_put_21 (by decide) ?_
        exact hret _ _ _ (L, (n, C, V), (x0, y0, x1, y1), (K, X)) _ _ rfl (Or.inr ⟨by first | exact fun z => q1 (putO_c z).1 | exact fun z => absurd hw0 (putO_c z).2 | exact fun z => absurd (putO_nI hL ha hb' hk' z) (by omega), rfl, rfl⟩) hP hD hS d_Mo_put_22
      · refine lv_iload_n hx hb d_Mo_put_14 rfl (lv_at hl 3 rfl) ?_
        refine lv_sipush (v := nI 999) hx hb d_Mo_put_15 (by decide) ?_
        refine x_icmp_le hx hb d_Mo_put_18 (tgt := 23) (by decide) (by omega) (by omega) (fun h18 => ?_) (fun h18 => ?_)
        · refine lv_aload_n hx hb d_Mo_put_23 rfl (lv_at hl 0 rfl) ?_
          refine lv_iload_n hx hb d_Mo_put_24 rfl (lv_at hl 1 rfl) ?_
          refine lv_aload_n hx hb d_Mo_put_25 rfl (lv_at hl 0 rfl) ?_
          refine vp_callSi (va_Run.run (run_V S v_Mo_26 (c_Mo_side la G mo mc_ mv_ mk_ mx_ L n x0 y0 x1 y1 hL) ⟨rfl, rfl⟩ ⟨Nat.le_of_ble_eq_true rfl, Nat.le_of_ble_eq_true rfl⟩ (preR_V hP hk (hs.kept (fun a h1 h2 => hS.2.1 a h1 h2)) [0] rfl 0 rfl rfl) (rest := [.int (nI a), .ref mo]) rfl hl.1 rfl (Nat.le_of_ble_eq_true rfl) d_Mo_put_26 ⟨Nat.le_of_ble_eq_true rfl, Nat.le_of_ble_eq_true rfl⟩)) (fun r26 hr26 => ?_)
          subst hr26
          refine x_imul hx hb d_Mo_put_29 ?_
          refine lv_iload_n hx hb d_Mo_put_30 rfl (lv_at hl 2 rfl) ?_
          refine x_iadd hx hb d_Mo_put_31 ?_
          refine vp_callSi (va_Run.run (run_V S v_Mo_61 (c_Mo_find la G mo mc_ mv_ mk_ mx_ L n x0 y0 x1 y1 C (a * 2 ^ L + b) hn5 hC (by omega)) ⟨rfl, rfl⟩ ⟨Nat.le_of_ble_eq_true rfl, Nat.le_of_ble_eq_true rfl⟩ (preR_V hP hk (hs.kept (fun a h1 h2 => hS.2.1 a h1 h2)) [0, 1] rfl 0 rfl rfl) (rest := []) rfl hl.1 rfl (Nat.le_of_ble_eq_true rfl) d_Mo_put_32 ⟨Nat.le_of_ble_eq_true rfl, Nat.le_of_ble_eq_true rfl⟩)) (fun r2 hr2 => ?_)
          obtain ⟨q, hfd, rfl⟩ := hr2
          have hq := hfd.1
          refine lv_istore hx hb d_Mo_put_35 hl (by decide) rfl (fun ls hl => ?_)
          have hl : lv_has ls 6 [(4, .int (nI q)), (0, .ref mo), (1, .int (nI a)), (2, .int (nI b)), (3, .int (nI k))] := hl
          refine lv_iload hx hb d_Mo_put_37 (lv_at hl 0 rfl) ?_
          refine lv_sipush (v := nI 500) hx hb d_Mo_put_39 (by decide) ?_
          refine x_icmp_ne hx hb d_Mo_put_42 (tgt := 47) (by decide) (by omega) (by omega) (fun h42 => ?_) (fun h42 => ?_)
          · refine lv_iload hx hb d_Mo_put_47 (lv_at hl 0 rfl) ?_
            refine lv_aload_n hx hb d_Mo_put_49 rfl (lv_at hl 1 rfl) ?_
            refine y_get S hk hP 0 rfl f_Mo_30 rfl d_Mo_put_50 ?_
            refine x_icmp_ge hx hb d_Mo_put_53 (tgt := 66) (by decide) (by omega) (by omega) (fun h53 => ?_) (fun h53 => ?_)
            · refine lv_iconst (v := nI 0) hx hb d_Mo_put_66 (by decide) ?_
              refine lv_istore hx hb d_Mo_put_67 hl (by decide) rfl (fun ls hl => ?_)
              have hl : lv_has ls 6 [(5, .int (nI 0)), (4, .int (nI q)), (0, .ref mo), (1, .int (nI a)), (2, .int (nI b)), (3, .int (nI k))] := hl
              refine lv_aload_n hx hb d_Mo_put_69 rfl (lv_at hl 2 rfl) ?_
              refine y_get S hk hP 0 rfl f_Mo_13 rfl d_Mo_put_70 ?_
              refine lv_iload hx hb d_Mo_put_73 (lv_at hl 1 rfl) ?_
              refine lv_iload_n hx hb d_Mo_put_75 rfl (lv_at hl 3 rfl) ?_
              refine lv_aload_n hx hb d_Mo_put_76 rfl (lv_at hl 2 rfl) ?_
              refine vp_callSi (va_Run.run (run_V S v_Mo_26 (c_Mo_side la G mo mc_ mv_ mk_ mx_ L n x0 y0 x1 y1 hL) ⟨rfl, rfl⟩ ⟨Nat.le_of_ble_eq_true rfl, Nat.le_of_ble_eq_true rfl⟩ (preR_V hP hk (hs.kept (fun a h1 h2 => hS.2.1 a h1 h2)) [0] rfl 0 rfl rfl) (rest := [.int (nI a), .int (nI q), .ref mc_]) rfl hl.1 rfl (Nat.le_of_ble_eq_true rfl) d_Mo_put_77 ⟨Nat.le_of_ble_eq_true rfl, Nat.le_of_ble_eq_true rfl⟩)) (fun r77 hr77 => ?_)
              subst hr77
              refine x_imul hx hb d_Mo_put_80 ?_
              refine lv_iload_n hx hb d_Mo_put_81 rfl (lv_at hl 4 rfl) ?_
              refine x_iadd hx hb d_Mo_put_82 ?_
              refine y_ast hx hb hk hP hD hS 1 rfl (by omega) (by decide) d_Mo_put_83 (fun H locs hP hD hS => ?_)
              have hP : va_P G.1 cls [(mo, .inr (4, [.int (nI L), .int (nI n), .ref mc_, .ref mv_, .int (nI x0), .int (nI y0), .int (nI x1), .int (nI y1), .ref mk_, .ref mx_])), (mc_, .inl (G.2.1, 500, .inl (fun zz => nI ((va_up C q ((a * (2 ^ L)) + b)) zz)))), (mv_, .inl (G.2.1, 500, .inl (fun zz => nI (V zz)))), (mk_, .inl (G.2.1, 4096, .inl (fun zz => nI (K zz)))), (mx_, .inl (G.2.1, 4096, .inl (fun zz => nI (X zz))))] H := hP
              have hD : va_D A [(mo, .inr (4, [.int (nI L), .int (nI n), .ref mc_, .ref mv_, .int (nI x0), .int (nI y0), .int (nI x1), .int (nI y1), .ref mk_, .ref mx_])), (mc_, .inl (G.2.1, 500, .inl (fun zz => nI ((va_up C q ((a * (2 ^ L)) + b)) zz)))), (mv_, .inl (G.2.1, 500, .inl (fun zz => nI (V zz)))), (mk_, .inl (G.2.1, 4096, .inl (fun zz => nI (K zz)))), (mx_, .inl (G.2.1, 4096, .inl (fun zz => nI (X zz))))] := hD
              refine lv_aload_n hx hb d_Mo_put_84 rfl (lv_at hl 2 rfl) ?_
              refine y_get S hk hP 0 rfl f_Mo_17 rfl d_Mo_put_85 ?_
              refine lv_iload hx hb d_Mo_put_88 (lv_at hl 1 rfl) ?_
              refine lv_iload_n hx hb d_Mo_put_90 rfl (lv_at hl 5 rfl) ?_
              refine y_ast hx hb hk hP hD hS 2 rfl (by omega) (by decide) d_Mo_put_91 (fun H locs hP hD hS => ?_)
              have hP : va_P G.1 cls [(mo, .inr (4, [.int (nI L), .int (nI n), .ref mc_, .ref mv_, .int (nI x0), .int (nI y0), .int (nI x1), .int (nI y1), .ref mk_, .ref mx_])), (mc_, .inl (G.2.1, 500, .inl (fun zz => nI ((va_up C q ((a * (2 ^ L)) + b)) zz)))), (mv_, .inl (G.2.1, 500, .inl (fun zz => nI ((va_up V q k) zz)))), (mk_, .inl (G.2.1, 4096, .inl (fun zz => nI (K zz)))), (mx_, .inl (G.2.1, 4096, .inl (fun zz => nI (X zz))))] H := hP
              have hD : va_D A [(mo, .inr (4, [.int (nI L), .int (nI n), .ref mc_, .ref mv_, .int (nI x0), .int (nI y0), .int (nI x1), .int (nI y1), .ref mk_, .ref mx_])), (mc_, .inl (G.2.1, 500, .inl (fun zz => nI ((va_up C q ((a * (2 ^ L)) + b)) zz)))), (mv_, .inl (G.2.1, 500, .inl (fun zz => nI ((va_up V q k) zz)))), (mk_, .inl (G.2.1, 4096, .inl (fun zz => nI (K zz)))), (mx_, .inl (G.2.1, 4096, .inl (fun zz => nI (X zz))))] := hD
              refine lv_aload_n hx hb d_Mo_put_92 rfl (lv_at hl 2 rfl) ?_
              refine lv_iload hx hb d_Mo_put_93 (lv_at hl 1 rfl) ?_
              refine lv_aload_n hx hb d_Mo_put_95 rfl (lv_at hl 2 rfl) ?_
              refine y_get S hk hP 0 rfl f_Mo_30 rfl d_Mo_put_96 ?_
              refine x_icmp_ne hx hb d_Mo_put_99 (tgt := 111) (by decide) (by omega) (by omega) (fun h99 => ?_) (fun h99 => ?_)
              · exact absurd h99 (by omega)
              · refine lv_aload_n hx hb d_Mo_put_102 rfl (lv_at hl 2 rfl) ?_
                refine y_get S hk hP 0 rfl f_Mo_30 rfl d_Mo_put_103 ?_
                refine lv_iconst (v := nI 1) hx hb d_Mo_put_106 (by decide) ?_
                refine x_iadd hx hb d_Mo_put_107 ?_
                refine lv_goto hx hb d_Mo_put_108 (tgt := 115) (by decide) ?_
                refine y_put S hk hP hD hS 0 rfl f_Mo_30 T_4 M_4_1 rfl rfl (Nat.le_of_ble_eq_true rfl) d_Mo_put_115 (fun H locs hP hD hS => ?_)
                have hP : va_P G.1 cls [(mo, .inr (4, [.int (nI L), .int (nI (n + 1)), .ref mc_, .ref mv_, .int (nI x0), .int (nI y0), .int (nI x1), .int (nI y1), .ref mk_, .ref mx_])), (mc_, .inl (G.2.1, 500, .inl (fun zz => nI ((va_up C q ((a * (2 ^ L)) + b)) zz)))), (mv_, .inl (G.2.1, 500, .inl (fun zz => nI ((va_up V q k) zz)))), (mk_, .inl (G.2.1, 4096, .inl (fun zz => nI (K zz)))), (mx_, .inl (G.2.1, 4096, .inl (fun zz => nI (X zz))))] H := hP
                have hD : va_D A [(mo, .inr (4, [.int (nI L), .int (nI (n + 1)), .ref mc_, .ref mv_, .int (nI x0), .int (nI y0), .int (nI x1), .int (nI y1), .ref mk_, .ref mx_])), (mc_, .inl (G.2.1, 500, .inl (fun zz => nI ((va_up C q ((a * (2 ^ L)) + b)) zz)))), (mv_, .inl (G.2.1, 500, .inl (fun zz => nI ((va_up V q k) zz)))), (mk_, .inl (G.2.1, 4096, .inl (fun zz => nI (K zz)))), (mx_, .inl (G.2.1, 4096, .inl (fun zz => nI (X zz))))] := hD
                refine lv_iload hx hb d_Mo_put_118 (lv_at hl 0 rfl) ?_
                exact hret _ _ _ (L, (n + 1, va_up C q (a * 2 ^ L + b), va_up V q k), (x0, y0, x1, y1), (K, X)) _ _ rfl (by obtain ⟨g1, g2⟩ := mput_ok hm hcm ⟨by omega, by omega⟩ hfd (k := q) (w := k) (by omega); rw [if_pos (by omega)] at g1 g2; exact Or.inl ⟨a, b, k, ha, hb', by omega, by omega, rfl, rfl, rfl, Or.inr (by omega), by rw [hfd.wt0 (V := V) (by omega)], g2, ⟨⟨hL1, hL⟩, g1, ⟨bd_up hC (by omega), bd_up hV hk'⟩, ⟨hf1, hf2, hf3, hf4⟩, hK, hX⟩, rfl, rfl⟩) hP hD hS d_Mo_put_120
            · refine lv_aload_n hx hb d_Mo_put_56 rfl (lv_at hl 1 rfl) ?_
              refine y_get S hk hP 0 rfl f_Mo_17 rfl d_Mo_put_57 ?_
              refine lv_iload hx hb d_Mo_put_60 (lv_at hl 0 rfl) ?_
              refine y_ald hx hb hk hP 2 rfl (by omega) (by decide) d_Mo_put_62 ?_
              refine lv_goto hx hb d_Mo_put_63 (tgt := 67) (by decide) ?_
              refine lv_istore hx hb d_Mo_put_67 hl (by decide) rfl (fun ls hl => ?_)
              have hl : lv_has ls 6 [(5, .int (nI (V q))), (4, .int (nI q)), (0, .ref mo), (1, .int (nI a)), (2, .int (nI b)), (3, .int (nI k))] := hl
              refine lv_aload_n hx hb d_Mo_put_69 rfl (lv_at hl 2 rfl) ?_
              refine y_get S hk hP 0 rfl f_Mo_13 rfl d_Mo_put_70 ?_
              refine lv_iload hx hb d_Mo_put_73 (lv_at hl 1 rfl) ?_
              refine lv_iload_n hx hb d_Mo_put_75 rfl (lv_at hl 3 rfl) ?_
              refine lv_aload_n hx hb d_Mo_put_76 rfl (lv_at hl 2 rfl) ?_
              refine vp_callSi (va_Run.run (run_V S v_Mo_26 (c_Mo_side la G mo mc_ mv_ mk_ mx_ L n x0 y0 x1 y1 hL) ⟨rfl, rfl⟩ ⟨Nat.le_of_ble_eq_true rfl, Nat.le_of_ble_eq_true rfl⟩ (preR_V hP hk (hs.kept (fun a h1 h2 => hS.2.1 a h1 h2)) [0] rfl 0 rfl rfl) (rest := [.int (nI a), .int (nI q), .ref mc_]) rfl hl.1 rfl (Nat.le_of_ble_eq_true rfl) d_Mo_put_77 ⟨Nat.le_of_ble_eq_true rfl, Nat.le_of_ble_eq_true rfl⟩)) (fun r77 hr77 => ?_)
              subst hr77
              refine x_imul hx hb d_Mo_put_80 ?_
              refine lv_iload_n hx hb d_Mo_put_81 rfl (lv_at hl 4 rfl) ?_
              refine x_iadd hx hb d_Mo_put_82 ?_
              refine y_ast hx hb hk hP hD hS 1 rfl (by omega) (by decide) d_Mo_put_83 (fun H locs hP hD hS => ?_)
              have hP : va_P G.1 cls [(mo, .inr (4, [.int (nI L), .int (nI n), .ref mc_, .ref mv_, .int (nI x0), .int (nI y0), .int (nI x1), .int (nI y1), .ref mk_, .ref mx_])), (mc_, .inl (G.2.1, 500, .inl (fun zz => nI ((va_up C q ((a * (2 ^ L)) + b)) zz)))), (mv_, .inl (G.2.1, 500, .inl (fun zz => nI (V zz)))), (mk_, .inl (G.2.1, 4096, .inl (fun zz => nI (K zz)))), (mx_, .inl (G.2.1, 4096, .inl (fun zz => nI (X zz))))] H := hP
              have hD : va_D A [(mo, .inr (4, [.int (nI L), .int (nI n), .ref mc_, .ref mv_, .int (nI x0), .int (nI y0), .int (nI x1), .int (nI y1), .ref mk_, .ref mx_])), (mc_, .inl (G.2.1, 500, .inl (fun zz => nI ((va_up C q ((a * (2 ^ L)) + b)) zz)))), (mv_, .inl (G.2.1, 500, .inl (fun zz => nI (V zz)))), (mk_, .inl (G.2.1, 4096, .inl (fun zz => nI (K zz)))), (mx_, .inl (G.2.1, 4096, .inl (fun zz => nI (X zz))))] := hD
              refine lv_aload_n hx hb d_Mo_put_84 rfl (lv_at hl 2 rfl) ?_
              refine y_get S hk hP 0 rfl f_Mo_17 rfl d_Mo_put_85 ?_
              refine lv_iload hx hb d_Mo_put_88 (lv_at hl 1 rfl) ?_
              refine lv_iload_n hx hb d_Mo_put_90 rfl (lv_at hl 5 rfl) ?_
              refine y_ast hx hb hk hP hD hS 2 rfl (by omega) (by decide) d_Mo_put_91 (fun H locs hP hD hS => ?_)
              have hP : va_P G.1 cls [(mo, .inr (4, [.int (nI L), .int (nI n), .ref mc_, .ref mv_, .int (nI x0), .int (nI y0), .int (nI x1), .int (nI y1), .ref mk_, .ref mx_])), (mc_, .inl (G.2.1, 500, .inl (fun zz => nI ((va_up C q ((a * (2 ^ L)) + b)) zz)))), (mv_, .inl (G.2.1, 500, .inl (fun zz => nI ((va_up V q k) zz)))), (mk_, .inl (G.2.1, 4096, .inl (fun zz => nI (K zz)))), (mx_, .inl (G.2.1, 4096, .inl (fun zz => nI (X zz))))] H := hP
              have hD : va_D A [(mo, .inr (4, [.int (nI L), .int (nI n), .ref mc_, .ref mv_, .int (nI x0), .int (nI y0), .int (nI x1), .int (nI y1), .ref mk_, .ref mx_])), (mc_, .inl (G.2.1, 500, .inl (fun zz => nI ((va_up C q ((a * (2 ^ L)) + b)) zz)))), (mv_, .inl (G.2.1, 500, .inl (fun zz => nI ((va_up V q k) zz)))), (mk_, .inl (G.2.1, 4096, .inl (fun zz => nI (K zz)))), (mx_, .inl (G.2.1, 4096, .inl (fun zz => nI (X zz))))] := hD
              refine lv_aload_n hx hb d_Mo_put_92 rfl (lv_at hl 2 rfl) ?_
              refine lv_iload hx hb d_Mo_put_93 (lv_at hl 1 rfl) ?_
              refine lv_aload_n hx hb d_Mo_put_95 rfl (lv_at hl 2 rfl) ?_
              refine y_get S hk hP 0 rfl f_Mo_30 rfl d_Mo_put_96 ?_
              refine x_icmp_ne hx hb d_Mo_put_99 (tgt := 111) (by decide) (by omega) (by omega) (fun h99 => ?_) (fun h99 => ?_)
              · refine lv_aload_n hx hb d_Mo_put_111 rfl (lv_at hl 2 rfl) ?_
                refine y_get S hk hP 0 rfl f_Mo_30 rfl d_Mo_put_112 ?_
                refine y_put S hk hP hD hS 0 rfl f_Mo_30 T_4 M_4_1 rfl rfl (Nat.le_of_ble_eq_true rfl) d_Mo_put_115 (fun H locs hP hD hS => ?_)
                have hP : va_P G.1 cls [(mo, .inr (4, [.int (nI L), .int (nI n), .ref mc_, .ref mv_, .int (nI x0), .int (nI y0), .int (nI x1), .int (nI y1), .ref mk_, .ref mx_])), (mc_, .inl (G.2.1, 500, .inl (fun zz => nI ((va_up C q ((a * (2 ^ L)) + b)) zz)))), (mv_, .inl (G.2.1, 500, .inl (fun zz => nI ((va_up V q k) zz)))), (mk_, .inl (G.2.1, 4096, .inl (fun zz => nI (K zz)))), (mx_, .inl (G.2.1, 4096, .inl (fun zz => nI (X zz))))] H := hP
                have hD : va_D A [(mo, .inr (4, [.int (nI L), .int (nI n), .ref mc_, .ref mv_, .int (nI x0), .int (nI y0), .int (nI x1), .int (nI y1), .ref mk_, .ref mx_])), (mc_, .inl (G.2.1, 500, .inl (fun zz => nI ((va_up C q ((a * (2 ^ L)) + b)) zz)))), (mv_, .inl (G.2.1, 500, .inl (fun zz => nI ((va_up V q k) zz)))), (mk_, .inl (G.2.1, 4096, .inl (fun zz => nI (K zz)))), (mx_, .inl (G.2.1, 4096, .inl (fun zz => nI (X zz))))] := hD
                refine lv_iload hx hb d_Mo_put_118 (lv_at hl 0 rfl) ?_
                exact hret _ _ _ (L, (n, va_up C q (a * 2 ^ L + b), va_up V q k), (x0, y0, x1, y1), (K, X)) _ _ rfl (by obtain ⟨g1, g2⟩ := mput_ok hm hcm ⟨by omega, by omega⟩ hfd (k := q) (w := k) (by omega); rw [if_neg (by omega)] at g1 g2; exact Or.inl ⟨a, b, k, ha, hb', by omega, by omega, rfl, rfl, rfl, Or.inl (by rw [hm.wt1 hfd h53]; have := (hm.2.1 q h53).2; omega), by rw [hm.wt1 hfd h53], g2, ⟨⟨hL1, hL⟩, g1, ⟨bd_up hC (by omega), bd_up hV hk'⟩, ⟨hf1, hf2, hf3, hf4⟩, hK, hX⟩, rfl, rfl⟩) hP hD hS d_Mo_put_120
              · exact absurd h99 (by omega)
          · refine lv_iconst (v := (-1)) hx hb d_Mo_put_45 (by decide) ?_
            exact hret _ _ _ (L, (n, C, V), (x0, y0, x1, y1), (K, X)) _ _ rfl (Or.inr ⟨fun z => by have := putO_nI hL ha hb' hk' z; rw [hfd.wt0 (by omega)] at this; omega, rfl, rfl⟩) hP hD hS d_Mo_put_46
        · refine lv_iconst (v := (-1)) hx hb d_Mo_put_21 (by decide) ?_
          exact hret _ _ _ (L, (n, C, V), (x0, y0, x1, y1), (K, X)) _ _ rfl (Or.inr ⟨by first | exact fun z => q1 (putO_c z).1 | exact fun z => absurd hw0 (putO_c z).2 | exact fun z => absurd (putO_nI hL ha hb' hk' z) (by omega), rfl, rfl⟩) hP hD hS d_Mo_put_22
    · refine lv_if_eq hx hb d_Mo_put_6 (tgt := 21) (by decide) (fun _ => ?_) (fun h => absurd (by decide) h)
      refine lv_iconst (v := (-1)) hx hb d_Mo_put_21 (by decide) ?_
      exact hret _ _ _ (L, (n, C, V), (x0, y0, x1, y1), (K, X)) _ _ rfl (Or.inr ⟨by first | exact fun z => q1 (putO_c z).1 | exact fun z => absurd hw0 (putO_c z).2 | exact fun z => absurd (putO_nI hL ha hb' hk' z) (by omega), rfl, rfl⟩) hP hD hS d_Mo_put_22
set_option maxHeartbeats 4000000 in
set_option maxRecDepth 100000 in
theorem c_Mo_take (la : Launch) (G : gG) (mo mc_ mv_ mk_ mx_ L n x0 y0 x1 y1 : Nat) (C V K X : Nat → Nat) (x y : Int32) (hM : okMo (L, (n, C, V), (x0, y0, x1, y1), (K, X))) : MetW la y_Mo_take b_Mo_take 5 .int 2 42 0 0 [.ref mo, .int x, .int y] G [(mo, .inr (4, [.int (nI L), .int (nI n), .ref mc_, .ref mv_, .int (nI x0), .int (nI y0), .int (nI x1), .int (nI y1), .ref mk_, .ref mx_])), (mc_, .inl (G.2.1, 500, .inl (fun zz => nI (C zz)))), (mv_, .inl (G.2.1, 500, .inl (fun zz => nI (V zz)))), (mk_, .inl (G.2.1, 4096, .inl (fun zz => nI (K zz)))), (mx_, .inl (G.2.1, 4096, .inl (fun zz => nI (X zz))))] (S := mS) (fun r u => (∃ a b, a < 2 ^ L ∧ b < 2 ^ L ∧ x = nI a ∧ y = nI b ∧ r = nI (wt n C V (a * 2 ^ L + b)) ∧ takS n C V (a * 2 ^ L + b) u.2.1.1 u.2.1.2.1 u.2.1.2.2 ∧ okMo u ∧ u.1 = L ∧ u.2.2.1 = (x0, y0, x1, y1)) ∨ (¬ inC L x y ∧ r = -1 ∧ u = (L, (n, C, V), (x0, y0, x1, y1), (K, X)))) (fun u => [(mo, .inr (4, [.int (nI u.1), .int (nI u.2.1.1), .ref mc_, .ref mv_, .int (nI u.2.2.1.1), .int (nI u.2.2.1.2.1), .int (nI u.2.2.1.2.2.1), .int (nI u.2.2.1.2.2.2), .ref mk_, .ref mx_])), (mc_, .inl (G.2.1, 500, .inl (fun zz => nI (u.2.1.2.1 zz)))), (mv_, .inl (G.2.1, 500, .inl (fun zz => nI (u.2.1.2.2 zz)))), (mk_, .inl (G.2.1, 4096, .inl (fun zz => nI (u.2.2.2.1 zz)))), (mx_, .inl (G.2.1, 4096, .inl (fun zz => nI (u.2.2.2.2 zz))))]) := by
  refine MetW.mk (by decide +kernel) (Nat.le_of_ble_eq_true rfl) ?_
  intro p e s m below meth c Q A ls S hP hD hA hS hk hs hret hl
  have hx := S.1
  have hb := S.2.1
  have hP : va_P G.1 cls [(mo, .inr (4, [.int (nI L), .int (nI n), .ref mc_, .ref mv_, .int (nI x0), .int (nI y0), .int (nI x1), .int (nI y1), .ref mk_, .ref mx_])), (mc_, .inl (G.2.1, 500, .inl (fun zz => nI (C zz)))), (mv_, .inl (G.2.1, 500, .inl (fun zz => nI (V zz)))), (mk_, .inl (G.2.1, 4096, .inl (fun zz => nI (K zz)))), (mx_, .inl (G.2.1, 4096, .inl (fun zz => nI (X zz))))] s.heap := hP
  have hD : va_D A [(mo, .inr (4, [.int (nI L), .int (nI n), .ref mc_, .ref mv_, .int (nI x0), .int (nI y0), .int (nI x1), .int (nI y1), .ref mk_, .ref mx_])), (mc_, .inl (G.2.1, 500, .inl (fun zz => nI (C zz)))), (mv_, .inl (G.2.1, 500, .inl (fun zz => nI (V zz)))), (mk_, .inl (G.2.1, 4096, .inl (fun zz => nI (K zz)))), (mx_, .inl (G.2.1, 4096, .inl (fun zz => nI (X zz))))] := hD
  have hM' := hM
  obtain ⟨⟨hL1, hL⟩, hm, ⟨hC, hV⟩, hF, hK, hX⟩ := hM
  dsimp only at hL1 hL hm hC hV hF hK hX
  have hFb := hF.b hL
  obtain ⟨hf1, hf2, hf3, hf4⟩ := hF
  dsimp only at hf1 hf2 hf3 hf4 hFb
  have hp2 := p2_15 hL
  have hp4 := p4_15 hL
  have hpp := Nat.two_pow_pos L
  have hn5 := hm.1
  have hl : lv_has ls 5 [(0, .ref mo), (1, .int x), (2, .int y)] := hl
  refine lv_aload_n hx hb d_Mo_take_0 rfl (lv_at hl 0 rfl) ?_
  refine lv_iload_n hx hb d_Mo_take_1 rfl (lv_at hl 1 rfl) ?_
  refine lv_iload_n hx hb d_Mo_take_2 rfl (lv_at hl 2 rfl) ?_
  refine vp_callSi (va_Run.run (run_V S v_Mo_49 (c_Mo_isCell la G mo mc_ mv_ mk_ mx_ L n x0 y0 x1 y1 x y hL) ⟨rfl, rfl⟩ ⟨Nat.le_of_ble_eq_true rfl, Nat.le_of_ble_eq_true rfl⟩ (preR_V hP hk (hs.kept (fun a h1 h2 => hS.2.1 a h1 h2)) [0] rfl 0 rfl rfl) (rest := []) rfl hl.1 rfl (Nat.le_of_ble_eq_true rfl) d_Mo_take_3 ⟨Nat.le_of_ble_eq_true rfl, Nat.le_of_ble_eq_true rfl⟩)) (fun r1 hr1 => ?_)
  rcases hr1 with ⟨rfl, a, b, ha, hb', rfl, rfl⟩ | ⟨rfl, q1⟩
  · have hl : lv_has ls 5 [(0, .ref mo), (1, .int (nI a)), (2, .int (nI b))] := hl
    have hcm := (cl_mk ha hb').1
    refine lv_if_ne hx hb d_Mo_take_6 (tgt := 11) (by decide) (fun _ => ?_) (fun h => absurd h (by decide))
    refine lv_aload_n hx hb d_Mo_take_11 rfl (lv_at hl 0 rfl) ?_
    refine lv_iload_n hx hb d_Mo_take_12 rfl (lv_at hl 1 rfl) ?_
    refine lv_aload_n hx hb d_Mo_take_13 rfl (lv_at hl 0 rfl) ?_
    refine vp_callSi (va_Run.run (run_V S v_Mo_26 (c_Mo_side la G mo mc_ mv_ mk_ mx_ L n x0 y0 x1 y1 hL) ⟨rfl, rfl⟩ ⟨Nat.le_of_ble_eq_true rfl, Nat.le_of_ble_eq_true rfl⟩ (preR_V hP hk (hs.kept (fun a h1 h2 => hS.2.1 a h1 h2)) [0] rfl 0 rfl rfl) (rest := [.int (nI a), .ref mo]) rfl hl.1 rfl (Nat.le_of_ble_eq_true rfl) d_Mo_take_14 ⟨Nat.le_of_ble_eq_true rfl, Nat.le_of_ble_eq_true rfl⟩)) (fun r14 hr14 => ?_)
    subst hr14
    refine x_imul hx hb d_Mo_take_17 ?_
    refine lv_iload_n hx hb d_Mo_take_18 rfl (lv_at hl 2 rfl) ?_
    refine x_iadd hx hb d_Mo_take_19 ?_
    refine vp_callSi (va_Run.run (run_V S v_Mo_61 (c_Mo_find la G mo mc_ mv_ mk_ mx_ L n x0 y0 x1 y1 C (a * 2 ^ L + b) hn5 hC (by omega)) ⟨rfl, rfl⟩ ⟨Nat.le_of_ble_eq_true rfl, Nat.le_of_ble_eq_true rfl⟩ (preR_V hP hk (hs.kept (fun a h1 h2 => hS.2.1 a h1 h2)) [0, 1] rfl 0 rfl rfl) (rest := []) rfl hl.1 rfl (Nat.le_of_ble_eq_true rfl) d_Mo_take_20 ⟨Nat.le_of_ble_eq_true rfl, Nat.le_of_ble_eq_true rfl⟩)) (fun r2 hr2 => ?_)
    obtain ⟨q, hfd, rfl⟩ := hr2
    have hq := hfd.1
    refine lv_istore_n hx hb d_Mo_take_23 rfl hl (by decide) rfl (fun ls hl => ?_)
    have hl : lv_has ls 5 [(3, .int (nI q)), (0, .ref mo), (1, .int (nI a)), (2, .int (nI b))] := hl
    refine lv_iload_n hx hb d_Mo_take_24 rfl (lv_at hl 0 rfl) ?_
    refine lv_aload_n hx hb d_Mo_take_25 rfl (lv_at hl 1 rfl) ?_
    refine y_get S hk hP 0 rfl f_Mo_30 rfl d_Mo_take_26 ?_
    refine x_icmp_ne hx hb d_Mo_take_29 (tgt := 34) (by decide) (by omega) (by omega) (fun h29 => ?_) (fun h29 => ?_)
    · refine lv_aload_n hx hb d_Mo_take_34 rfl (lv_at hl 1 rfl) ?_
      refine y_get S hk hP 0 rfl f_Mo_17 rfl d_Mo_take_35 ?_
      refine lv_iload_n hx hb d_Mo_take_38 rfl (lv_at hl 0 rfl) ?_
      refine y_ald hx hb hk hP 2 rfl (by omega) (by decide) d_Mo_take_39 ?_
      refine lv_istore hx hb d_Mo_take_40 hl (by decide) rfl (fun ls hl => ?_)
      have hl : lv_has ls 5 [(4, .int (nI (V q))), (3, .int (nI q)), (0, .ref mo), (1, .int (nI a)), (2, .int (nI b))] := hl
      refine lv_aload_n hx hb d_Mo_take_42 rfl (lv_at hl 2 rfl) ?_
      refine lv_dup hx hb d_Mo_take_43 rfl ?_
      refine y_get S hk hP 0 rfl f_Mo_30 rfl d_Mo_take_44 ?_
      refine lv_iconst (v := nI 1) hx hb d_Mo_take_47 (by decide) ?_
      refine x_isub hx hb d_Mo_take_48 (by omega) ?_
      refine y_put S hk hP hD hS 0 rfl f_Mo_30 T_4 M_4_1 rfl rfl (Nat.le_of_ble_eq_true rfl) d_Mo_take_49 (fun H locs hP hD hS => ?_)
      have hP : va_P G.1 cls [(mo, .inr (4, [.int (nI L), .int (nI (n - 1)), .ref mc_, .ref mv_, .int (nI x0), .int (nI y0), .int (nI x1), .int (nI y1), .ref mk_, .ref mx_])), (mc_, .inl (G.2.1, 500, .inl (fun zz => nI (C zz)))), (mv_, .inl (G.2.1, 500, .inl (fun zz => nI (V zz)))), (mk_, .inl (G.2.1, 4096, .inl (fun zz => nI (K zz)))), (mx_, .inl (G.2.1, 4096, .inl (fun zz => nI (X zz))))] H := hP
      have hD : va_D A [(mo, .inr (4, [.int (nI L), .int (nI (n - 1)), .ref mc_, .ref mv_, .int (nI x0), .int (nI y0), .int (nI x1), .int (nI y1), .ref mk_, .ref mx_])), (mc_, .inl (G.2.1, 500, .inl (fun zz => nI (C zz)))), (mv_, .inl (G.2.1, 500, .inl (fun zz => nI (V zz)))), (mk_, .inl (G.2.1, 4096, .inl (fun zz => nI (K zz)))), (mx_, .inl (G.2.1, 4096, .inl (fun zz => nI (X zz))))] := hD
      refine lv_aload_n hx hb d_Mo_take_52 rfl (lv_at hl 2 rfl) ?_
      refine y_get S hk hP 0 rfl f_Mo_13 rfl d_Mo_take_53 ?_
      refine lv_iload_n hx hb d_Mo_take_56 rfl (lv_at hl 1 rfl) ?_
      refine lv_aload_n hx hb d_Mo_take_57 rfl (lv_at hl 2 rfl) ?_
      refine y_get S hk hP 0 rfl f_Mo_13 rfl d_Mo_take_58 ?_
      refine lv_aload_n hx hb d_Mo_take_61 rfl (lv_at hl 2 rfl) ?_
      refine y_get S hk hP 0 rfl f_Mo_30 rfl d_Mo_take_62 ?_
      refine y_ald hx hb hk hP 1 rfl (by omega) (by decide) d_Mo_take_65 ?_
      refine y_ast hx hb hk hP hD hS 1 rfl (by omega) (by decide) d_Mo_take_66 (fun H locs hP hD hS => ?_)
      have hP : va_P G.1 cls [(mo, .inr (4, [.int (nI L), .int (nI (n - 1)), .ref mc_, .ref mv_, .int (nI x0), .int (nI y0), .int (nI x1), .int (nI y1), .ref mk_, .ref mx_])), (mc_, .inl (G.2.1, 500, .inl (fun zz => nI ((va_up C q (C (n - 1))) zz)))), (mv_, .inl (G.2.1, 500, .inl (fun zz => nI (V zz)))), (mk_, .inl (G.2.1, 4096, .inl (fun zz => nI (K zz)))), (mx_, .inl (G.2.1, 4096, .inl (fun zz => nI (X zz))))] H := hP
      have hD : va_D A [(mo, .inr (4, [.int (nI L), .int (nI (n - 1)), .ref mc_, .ref mv_, .int (nI x0), .int (nI y0), .int (nI x1), .int (nI y1), .ref mk_, .ref mx_])), (mc_, .inl (G.2.1, 500, .inl (fun zz => nI ((va_up C q (C (n - 1))) zz)))), (mv_, .inl (G.2.1, 500, .inl (fun zz => nI (V zz)))), (mk_, .inl (G.2.1, 4096, .inl (fun zz => nI (K zz)))), (mx_, .inl (G.2.1, 4096, .inl (fun zz => nI (X zz))))] := hD
      refine lv_aload_n hx hb d_Mo_take_67 rfl (lv_at hl 2 rfl) ?_
      refine y_get S hk hP 0 rfl f_Mo_17 rfl d_Mo_take_68 ?_
      refine lv_iload_n hx hb d_Mo_take_71 rfl (lv_at hl 1 rfl) ?_
      refine lv_aload_n hx hb d_Mo_take_72 rfl (lv_at hl 2 rfl) ?_
      refine y_get S hk hP 0 rfl f_Mo_17 rfl d_Mo_take_73 ?_
      refine lv_aload_n hx hb d_Mo_take_76 rfl (lv_at hl 2 rfl) ?_
      refine y_get S hk hP 0 rfl f_Mo_30 rfl d_Mo_take_77 ?_
      refine y_ald hx hb hk hP 2 rfl (by omega) (by decide) d_Mo_take_80 ?_
      refine y_ast hx hb hk hP hD hS 2 rfl (by omega) (by decide) d_Mo_take_81 (fun H locs hP hD hS => ?_)
      have hP : va_P G.1 cls [(mo, .inr (4, [.int (nI L), .int (nI (n - 1)), .ref mc_, .ref mv_, .int (nI x0), .int (nI y0), .int (nI x1), .int (nI y1), .ref mk_, .ref mx_])), (mc_, .inl (G.2.1, 500, .inl (fun zz => nI ((va_up C q (C (n - 1))) zz)))), (mv_, .inl (G.2.1, 500, .inl (fun zz => nI ((va_up V q (V (n - 1))) zz)))), (mk_, .inl (G.2.1, 4096, .inl (fun zz => nI (K zz)))), (mx_, .inl (G.2.1, 4096, .inl (fun zz => nI (X zz))))] H := hP
      have hD : va_D A [(mo, .inr (4, [.int (nI L), .int (nI (n - 1)), .ref mc_, .ref mv_, .int (nI x0), .int (nI y0), .int (nI x1), .int (nI y1), .ref mk_, .ref mx_])), (mc_, .inl (G.2.1, 500, .inl (fun zz => nI ((va_up C q (C (n - 1))) zz)))), (mv_, .inl (G.2.1, 500, .inl (fun zz => nI ((va_up V q (V (n - 1))) zz)))), (mk_, .inl (G.2.1, 4096, .inl (fun zz => nI (K zz)))), (mx_, .inl (G.2.1, 4096, .inl (fun zz => nI (X zz))))] := hD
      refine lv_iload hx hb d_Mo_take_82 (lv_at hl 0 rfl) ?_
      exact hret _ _ _ (L, (n - 1, va_up C q (C (n - 1)), va_up V q (V (n - 1))), (x0, y0, x1, y1), (K, X)) _ _ rfl (by obtain ⟨g1, g2⟩ := mtake_ok hm hfd (by omega); exact Or.inl ⟨a, b, ha, hb', rfl, rfl, by rw [hm.wt1 hfd (by omega)], g2, ⟨⟨hL1, hL⟩, g1, ⟨bd_up hC (hC _), bd_up hV (hV _)⟩, ⟨hf1, hf2, hf3, hf4⟩, hK, hX⟩, rfl, rfl⟩) hP hD hS d_Mo_take_84
    · refine lv_iconst (v := nI 0) hx hb d_Mo_take_32 (by decide) ?_
      exact hret _ _ _ (L, (n, C, V), (x0, y0, x1, y1), (K, X)) _ _ rfl (Or.inl ⟨a, b, ha, hb', rfl, rfl, by rw [hfd.wt0 (by omega)], fun f => by rw [hfd.wt0 (by omega), if_pos rfl]; rfl, hM', rfl, rfl⟩) hP hD hS d_Mo_take_33
  · refine lv_if_ne hx hb d_Mo_take_6 (tgt := 11) (by decide) (fun h => absurd rfl h) (fun _ => ?_)
    refine lv_iconst (v := (-1)) hx hb d_Mo_take_9 (by decide) ?_
    exact hret _ _ _ (L, (n, C, V), (x0, y0, x1, y1), (K, X)) _ _ rfl (Or.inr ⟨q1, rfl, rfl⟩) hP hD hS d_Mo_take_10
