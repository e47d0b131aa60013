/-! the class's public methods that only read (laid by gen/m5.py) -/
set_option maxHeartbeats 4000000 in
set_option maxRecDepth 100000 in
theorem c_CI_key (la : Launch) (G : gG) (o rw kw_ cw_ vw_ rt kt_ ct_ vt_ fr L nw nt x0 y0 x1 y1 : Nat) (Kw Cw Vw Kt Ct Vt : Nat → Nat) (cu x y : Int32) (hC : okC (L, (nw, Kw, Cw, Vw), (nt, Kt, Ct, Vt), (x0, y0, x1, y1))) : MetR la y_CI_key b_CI_key 4 .int 2 48 [.ref o, .int cu, .int x, .int y] G [(o, .inr (0, [.ref rw, .ref rt, .int (nI L), .ref fr])), (rw, .inr (1, [.ref kw_, .ref cw_, .ref vw_, .int (nI nw)])), (kw_, .inl (G.2.1, 500, .inl (fun zz => nI (Kw zz)))), (cw_, .inl (G.2.1, 500, .inl (fun zz => nI (Cw zz)))), (vw_, .inl (G.2.1, 500, .inl (fun zz => nI (Vw zz)))), (rt, .inr (1, [.ref kt_, .ref ct_, .ref vt_, .int (nI nt)])), (kt_, .inl (G.2.1, 500, .inl (fun zz => nI (Kt zz)))), (ct_, .inl (G.2.1, 500, .inl (fun zz => nI (Ct zz)))), (vt_, .inl (G.2.1, 500, .inl (fun zz => nI (Vt zz)))), (fr, .inr (2, [.int (nI x0), .int (nI y0), .int (nI x1), .int (nI y1)]))] (fun r => keyS L cu x y r) := by
  refine MetR.mk (by decide +kernel) (Nat.le_of_ble_eq_true rfl) ?_
  intro p e s m below meth c Q ls S hP hk hs hret hl
  have hx := S.1
  have hb := S.2.1
  obtain ⟨⟨hL1, hL⟩, hrw, hrt, ⟨hKw, hCw, hVw⟩, ⟨hKt, hCt, hVt⟩, hF, hsm⟩ := hC
  dsimp only at hL1 hL hrw hrt hKw hCw hVw hKt hCt hVt hF hsm
  have hFb := hF.b hL
  obtain ⟨hf1, hf2, hf3, hf4⟩ := hF
  dsimp only at hf1 hf2 hf3 hf4 hFb
  have hp2 := p2_15 hL
  have hp4 := p4_15 hL
  have hpp := Nat.two_pow_pos L
  have hnw := hrw.1
  have hnt := hrt.1
  have hl : lv_has ls 4 [(0, .ref o), (1, .int cu), (2, .int x), (3, .int y)] := hl
  refine lv_iload_n hx hb d_CI_key_0 rfl (lv_at hl 1 rfl) ?_
  refine vp_callSi (va_Run.run (run_S S v_CI_35 (c_CI_isCurve la G cu) ⟨rfl, rfl⟩ ⟨Nat.le_of_ble_eq_true rfl, Nat.le_of_ble_eq_true rfl⟩ (preR_S hP hk hs [] rfl) (rest := []) rfl hl.1 rfl (Nat.le_of_ble_eq_true rfl) d_CI_key_1 ⟨Nat.le_refl _, Nat.le_refl _⟩)) (fun r1 hr1 => ?_)
  rcases hr1 with ⟨rfl, k, hk', rfl⟩ | ⟨rfl, q1⟩
  · have hl : lv_has ls 4 [(0, .ref o), (1, .int (nI k)), (2, .int x), (3, .int y)] := hl
    refine lv_if_eq hx hb d_CI_key_4 (tgt := 26) (by decide) (fun h => absurd h (by decide)) (fun _ => ?_)
    refine lv_aload_n hx hb d_CI_key_7 rfl (lv_at hl 0 rfl) ?_
    refine lv_iload_n hx hb d_CI_key_8 rfl (lv_at hl 2 rfl) ?_
    refine lv_iload_n hx hb d_CI_key_9 rfl (lv_at hl 3 rfl) ?_
    refine vp_callSi (va_Run.run (run_V S v_CI_39 (c_CI_isCell la G o rw rt fr L x y hL) ⟨rfl, rfl⟩ ⟨Nat.le_of_ble_eq_true rfl, Nat.le_of_ble_eq_true rfl⟩ (preR_V hP hk hs [0] rfl 0 rfl rfl) (rest := []) rfl hl.1 rfl (Nat.le_of_ble_eq_true rfl) d_CI_key_10 ⟨Nat.le_refl _, Nat.le_refl _⟩)) (fun r2 hr2 => ?_)
    rcases hr2 with ⟨rfl, a, b, ha, hb', rfl, rfl⟩ | ⟨rfl, q2⟩
    · have hl : lv_has ls 4 [(0, .ref o), (1, .int (nI k)), (2, .int (nI a)), (3, .int (nI b))] := hl
      refine lv_if_eq hx hb d_CI_key_13 (tgt := 26) (by decide) (fun h => absurd h (by decide)) (fun _ => ?_)
      refine lv_aload_n hx hb d_CI_key_16 rfl (lv_at hl 0 rfl) ?_
      refine lv_iload_n hx hb d_CI_key_17 rfl (lv_at hl 1 rfl) ?_
      refine lv_iload_n hx hb d_CI_key_18 rfl (lv_at hl 2 rfl) ?_
      refine lv_iload_n hx hb d_CI_key_19 rfl (lv_at hl 3 rfl) ?_
      refine vp_callSi (va_Run.run (run_V S v_CI_43 (c_CI_keyOf la G o rw rt fr L k a b hL hL1 hk' ha hb') ⟨rfl, rfl⟩ ⟨Nat.le_of_ble_eq_true rfl, Nat.le_of_ble_eq_true rfl⟩ (preR_V hP hk hs [0] rfl 0 rfl rfl) (rest := []) rfl hl.1 rfl (Nat.le_of_ble_eq_true rfl) d_CI_key_20 ⟨Nat.le_refl _, Nat.le_refl _⟩)) (fun r3 hr3 => ?_)
      subst hr3
      refine lv_goto hx hb d_CI_key_23 (tgt := 27) (by decide) ?_
      exact hret _ _ _ rfl (Or.inl ⟨k, a, b, hk', ha, hb', rfl, rfl, rfl, rfl⟩) d_CI_key_27
    · refine lv_if_eq hx hb d_CI_key_13 (tgt := 26) (by decide) (fun _ => ?_) (fun h => absurd (by decide) h)
      refine lv_iconst (v := (-1)) hx hb d_CI_key_26 (by decide) ?_
      exact hret _ _ _ rfl (Or.inr ⟨by first | exact fun z => q1 z.1 | exact fun z => q2 z.2, rfl⟩) d_CI_key_27
  · refine lv_if_eq hx hb d_CI_key_4 (tgt := 26) (by decide) (fun _ => ?_) (fun h => absurd (by decide) h)
    refine lv_iconst (v := (-1)) hx hb d_CI_key_26 (by decide) ?_
    exact hret _ _ _ rfl (Or.inr ⟨by first | exact fun z => q1 z.1 | exact fun z => q2 z.2, rfl⟩) d_CI_key_27
set_option maxHeartbeats 4000000 in
set_option maxRecDepth 100000 in
theorem c_CI_cell (la : Launch) (G : gG) (o rw kw_ cw_ vw_ rt kt_ ct_ vt_ fr L nw nt x0 y0 x1 y1 : Nat) (Kw Cw Vw Kt Ct Vt : Nat → Nat) (cu x : Int32) (hC : okC (L, (nw, Kw, Cw, Vw), (nt, Kt, Ct, Vt), (x0, y0, x1, y1))) : MetR la y_CI_cell b_CI_cell 3 .int 2 50 [.ref o, .int cu, .int x] G [(o, .inr (0, [.ref rw, .ref rt, .int (nI L), .ref fr])), (rw, .inr (1, [.ref kw_, .ref cw_, .ref vw_, .int (nI nw)])), (kw_, .inl (G.2.1, 500, .inl (fun zz => nI (Kw zz)))), (cw_, .inl (G.2.1, 500, .inl (fun zz => nI (Cw zz)))), (vw_, .inl (G.2.1, 500, .inl (fun zz => nI (Vw zz)))), (rt, .inr (1, [.ref kt_, .ref ct_, .ref vt_, .int (nI nt)])), (kt_, .inl (G.2.1, 500, .inl (fun zz => nI (Kt zz)))), (ct_, .inl (G.2.1, 500, .inl (fun zz => nI (Ct zz)))), (vt_, .inl (G.2.1, 500, .inl (fun zz => nI (Vt zz)))), (fr, .inr (2, [.int (nI x0), .int (nI y0), .int (nI x1), .int (nI y1)]))] (fun r => cellS L cu x r) := by
  refine MetR.mk (by decide +kernel) (Nat.le_of_ble_eq_true rfl) ?_
  intro p e s m below meth c Q ls S hP hk hs hret hl
  have hx := S.1
  have hb := S.2.1
  obtain ⟨⟨hL1, hL⟩, hrw, hrt, ⟨hKw, hCw, hVw⟩, ⟨hKt, hCt, hVt⟩, hF, hsm⟩ := hC
  dsimp only at hL1 hL hrw hrt hKw hCw hVw hKt hCt hVt hF hsm
  have hFb := hF.b hL
  obtain ⟨hf1, hf2, hf3, hf4⟩ := hF
  dsimp only at hf1 hf2 hf3 hf4 hFb
  have hp2 := p2_15 hL
  have hp4 := p4_15 hL
  have hpp := Nat.two_pow_pos L
  have hnw := hrw.1
  have hnt := hrt.1
  have hl : lv_has ls 3 [(0, .ref o), (1, .int cu), (2, .int x)] := hl
  refine lv_iload_n hx hb d_CI_cell_0 rfl (lv_at hl 1 rfl) ?_
  refine vp_callSi (va_Run.run (run_S S v_CI_35 (c_CI_isCurve la G cu) ⟨rfl, rfl⟩ ⟨Nat.le_of_ble_eq_true rfl, Nat.le_of_ble_eq_true rfl⟩ (preR_S hP hk hs [] rfl) (rest := []) rfl hl.1 rfl (Nat.le_of_ble_eq_true rfl) d_CI_cell_1 ⟨Nat.le_refl _, Nat.le_refl _⟩)) (fun r1 hr1 => ?_)
  rcases hr1 with ⟨rfl, k, hk', rfl⟩ | ⟨rfl, q1⟩
  · have hl : lv_has ls 3 [(0, .ref o), (1, .int (nI k)), (2, .int x)] := hl
    refine lv_if_eq hx hb d_CI_cell_4 (tgt := 24) (by decide) (fun h => absurd h (by decide)) (fun _ => ?_)
    refine lv_aload_n hx hb d_CI_cell_7 rfl (lv_at hl 0 rfl) ?_
    refine lv_iload_n hx hb d_CI_cell_8 rfl (lv_at hl 2 rfl) ?_
    refine vp_callSi (va_Run.run (run_V S v_CI_47 (c_CI_isKey la G o rw rt fr L x hL) ⟨rfl, rfl⟩ ⟨Nat.le_of_ble_eq_true rfl, Nat.le_of_ble_eq_true rfl⟩ (preR_V hP hk hs [0] rfl 0 rfl rfl) (rest := []) rfl hl.1 rfl (Nat.le_of_ble_eq_true rfl) d_CI_cell_9 ⟨Nat.le_refl _, Nat.le_refl _⟩)) (fun r2 hr2 => ?_)
    rcases hr2 with ⟨rfl, j, hj', rfl⟩ | ⟨rfl, q2⟩
    · rw [p22] at hj'
      have hl : lv_has ls 3 [(0, .ref o), (1, .int (nI k)), (2, .int (nI j))] := hl
      refine lv_if_eq hx hb d_CI_cell_12 (tgt := 24) (by decide) (fun h => absurd h (by decide)) (fun _ => ?_)
      refine lv_aload_n hx hb d_CI_cell_15 rfl (lv_at hl 0 rfl) ?_
      refine lv_iload_n hx hb d_CI_cell_16 rfl (lv_at hl 1 rfl) ?_
      refine lv_iload_n hx hb d_CI_cell_17 rfl (lv_at hl 2 rfl) ?_
      refine vp_callSi (va_Run.run (run_V S v_CI_50 (c_CI_cellOf la G o rw rt fr L k j hL hL1 hk' hj') ⟨rfl, rfl⟩ ⟨Nat.le_of_ble_eq_true rfl, Nat.le_of_ble_eq_true rfl⟩ (preR_V hP hk hs [0] rfl 0 rfl rfl) (rest := []) rfl hl.1 rfl (Nat.le_of_ble_eq_true rfl) d_CI_cell_18 ⟨Nat.le_refl _, Nat.le_refl _⟩)) (fun r3 hr3 => ?_)
      subst hr3
      refine lv_goto hx hb d_CI_cell_21 (tgt := 25) (by decide) ?_
      exact hret _ _ _ rfl (Or.inl ⟨k, j, hk', hj', rfl, rfl, rfl⟩) d_CI_cell_25
    · refine lv_if_eq hx hb d_CI_cell_12 (tgt := 24) (by decide) (fun _ => ?_) (fun h => absurd (by decide) h)
      refine lv_iconst (v := (-1)) hx hb d_CI_cell_24 (by decide) ?_
      exact hret _ _ _ rfl (Or.inr ⟨by first | exact fun z => q1 z.1 | (rw [p22] at q2; exact fun z => q2 z.2), rfl⟩) d_CI_cell_25
  · refine lv_if_eq hx hb d_CI_cell_4 (tgt := 24) (by decide) (fun _ => ?_) (fun h => absurd (by decide) h)
    refine lv_iconst (v := (-1)) hx hb d_CI_cell_24 (by decide) ?_
    exact hret _ _ _ rfl (Or.inr ⟨by first | exact fun z => q1 z.1 | (rw [p22] at q2; exact fun z => q2 z.2), rfl⟩) d_CI_cell_25
set_option maxHeartbeats 4000000 in
set_option maxRecDepth 100000 in
theorem c_CI_at (la : Launch) (G : gG) (o rw kw_ cw_ vw_ rt kt_ ct_ vt_ fr L nw nt x0 y0 x1 y1 : Nat) (Kw Cw Vw Kt Ct Vt : Nat → Nat) (x y : Int32) (hC : okC (L, (nw, Kw, Cw, Vw), (nt, Kt, Ct, Vt), (x0, y0, x1, y1))) : MetR la y_CI_at b_CI_at 3 .int 2 48 [.ref o, .int x, .int y] G [(o, .inr (0, [.ref rw, .ref rt, .int (nI L), .ref fr])), (rw, .inr (1, [.ref kw_, .ref cw_, .ref vw_, .int (nI nw)])), (kw_, .inl (G.2.1, 500, .inl (fun zz => nI (Kw zz)))), (cw_, .inl (G.2.1, 500, .inl (fun zz => nI (Cw zz)))), (vw_, .inl (G.2.1, 500, .inl (fun zz => nI (Vw zz)))), (rt, .inr (1, [.ref kt_, .ref ct_, .ref vt_, .int (nI nt)])), (kt_, .inl (G.2.1, 500, .inl (fun zz => nI (Kt zz)))), (ct_, .inl (G.2.1, 500, .inl (fun zz => nI (Ct zz)))), (vt_, .inl (G.2.1, 500, .inl (fun zz => nI (Vt zz)))), (fr, .inr (2, [.int (nI x0), .int (nI y0), .int (nI x1), .int (nI y1)]))] (fun r => atS L nt Ct Vt x y r) := by
  refine MetR.mk (by decide +kernel) (Nat.le_of_ble_eq_true rfl) ?_
  intro p e s m below meth c Q ls S hP hk hs hret hl
  have hx := S.1
  have hb := S.2.1
  obtain ⟨⟨hL1, hL⟩, hrw, hrt, ⟨hKw, hCw, hVw⟩, ⟨hKt, hCt, hVt⟩, hF, hsm⟩ := hC
  dsimp only at hL1 hL hrw hrt hKw hCw hVw hKt hCt hVt hF hsm
  have hFb := hF.b hL
  obtain ⟨hf1, hf2, hf3, hf4⟩ := hF
  dsimp only at hf1 hf2 hf3 hf4 hFb
  have hp2 := p2_15 hL
  have hp4 := p4_15 hL
  have hpp := Nat.two_pow_pos L
  have hnw := hrw.1
  have hnt := hrt.1
  have hl : lv_has ls 3 [(0, .ref o), (1, .int x), (2, .int y)] := hl
  refine lv_aload_n hx hb d_CI_at_0 rfl (lv_at hl 0 rfl) ?_
  refine lv_iload_n hx hb d_CI_at_1 rfl (lv_at hl 1 rfl) ?_
  refine lv_iload_n hx hb d_CI_at_2 rfl (lv_at hl 2 rfl) ?_
  refine vp_callSi (va_Run.run (run_V S v_CI_39 (c_CI_isCell la G o rw rt fr L x y hL) ⟨rfl, rfl⟩ ⟨Nat.le_of_ble_eq_true rfl, Nat.le_of_ble_eq_true rfl⟩ (preR_V hP hk hs [0] rfl 0 rfl rfl) (rest := []) rfl hl.1 rfl (Nat.le_of_ble_eq_true rfl) d_CI_at_3 ⟨Nat.le_refl _, Nat.le_refl _⟩)) (fun r1 hr1 => ?_)
  rcases hr1 with ⟨rfl, a, b, ha, hb', rfl, rfl⟩ | ⟨rfl, q1⟩
  · have hl : lv_has ls 3 [(0, .ref o), (1, .int (nI a)), (2, .int (nI b))] := hl
    refine lv_if_eq hx hb d_CI_at_6 (tgt := 26) (by decide) (fun h => absurd h (by decide)) (fun _ => ?_)
    refine lv_aload_n hx hb d_CI_at_9 rfl (lv_at hl 0 rfl) ?_
    refine y_get S hk hP 0 rfl f_CI_16 rfl d_CI_at_10 ?_
    refine lv_aload_n hx hb d_CI_at_13 rfl (lv_at hl 0 rfl) ?_
    refine lv_iconst (v := nI 1) hx hb d_CI_at_14 (by decide) ?_
    refine lv_iload_n hx hb d_CI_at_15 rfl (lv_at hl 1 rfl) ?_
    refine lv_iload_n hx hb d_CI_at_16 rfl (lv_at hl 2 rfl) ?_
    refine vp_callSi (va_Run.run (run_V S v_CI_43 (c_CI_keyOf la G o rw rt fr L 1 a b hL hL1 (by omega) ha hb') ⟨rfl, rfl⟩ ⟨Nat.le_of_ble_eq_true rfl, Nat.le_of_ble_eq_true rfl⟩ (preR_V hP hk hs [0] rfl 0 rfl rfl) (rest := [.ref rt]) rfl hl.1 rfl (Nat.le_of_ble_eq_true rfl) d_CI_at_17 ⟨Nat.le_refl _, Nat.le_refl _⟩)) (fun r2 hr2 => ?_)
    subst hr2
    have hk1 := kk_lt (cu := 1) ha hb'
    have hcm := (cl_mk ha hb').1
    have hke := ke_mk (cu := 1) ha hb'
    refine vp_callSi (va_Run.run (run_VN S hk v_CI_54 (c_Row_weightOf la G rt kt_ ct_ vt_ nt Kt Vt (kk 1 L a b) hnt hKt (by omega)) ⟨rfl, rfl⟩ ⟨Nat.le_of_ble_eq_true rfl, Nat.le_of_ble_eq_true rfl⟩ (preR_V hP hk hs [5, 6, 8] rfl 5 rfl rfl) (rest := []) rfl hl.1 rfl (Nat.le_of_ble_eq_true rfl) d_CI_at_20 ⟨Nat.le_refl _, Nat.le_refl _⟩)) (fun r3 hr3 => ?_)
    obtain ⟨q, hat, hw⟩ := hr3
    refine lv_goto hx hb d_CI_at_23 (tgt := 27) (by decide) ?_
    exact hret _ _ _ rfl (Or.inl ⟨a, b, ha, hb', rfl, rfl, by rw [← hke] at hat hw; rcases hw with ⟨g1, g2, rfl⟩ | ⟨g1, rfl⟩; rw [hrt.wt1 hcm g1 g2]; rw [hrt.wt0 hat g1]⟩) d_CI_at_27
  · refine lv_if_eq hx hb d_CI_at_6 (tgt := 26) (by decide) (fun _ => ?_) (fun h => absurd (by decide) h)
    refine lv_iconst (v := (-1)) hx hb d_CI_at_26 (by decide) ?_
    exact hret _ _ _ rfl (Or.inr ⟨q1, rfl⟩) d_CI_at_27
set_option maxHeartbeats 4000000 in
set_option maxRecDepth 100000 in
theorem c_CI_many (la : Launch) (G : gG) (o rw kw_ cw_ vw_ rt kt_ ct_ vt_ fr L nw nt x0 y0 x1 y1 : Nat) (Kw Cw Vw Kt Ct Vt : Nat → Nat)  (hC : okC (L, (nw, Kw, Cw, Vw), (nt, Kt, Ct, Vt), (x0, y0, x1, y1))) : MetR la y_CI_many b_CI_many 1 .int 0 0 [.ref o] G [(o, .inr (0, [.ref rw, .ref rt, .int (nI L), .ref fr])), (rw, .inr (1, [.ref kw_, .ref cw_, .ref vw_, .int (nI nw)])), (kw_, .inl (G.2.1, 500, .inl (fun zz => nI (Kw zz)))), (cw_, .inl (G.2.1, 500, .inl (fun zz => nI (Cw zz)))), (vw_, .inl (G.2.1, 500, .inl (fun zz => nI (Vw zz)))), (rt, .inr (1, [.ref kt_, .ref ct_, .ref vt_, .int (nI nt)])), (kt_, .inl (G.2.1, 500, .inl (fun zz => nI (Kt zz)))), (ct_, .inl (G.2.1, 500, .inl (fun zz => nI (Ct zz)))), (vt_, .inl (G.2.1, 500, .inl (fun zz => nI (Vt zz)))), (fr, .inr (2, [.int (nI x0), .int (nI y0), .int (nI x1), .int (nI y1)]))] (fun r => r = nI nt) := by
  refine MetR.mk (by decide +kernel) (Nat.le_of_ble_eq_true rfl) ?_
  intro p e s m below meth c Q ls S hP hk hs hret hl
  have hx := S.1
  have hb := S.2.1
  obtain ⟨⟨hL1, hL⟩, hrw, hrt, ⟨hKw, hCw, hVw⟩, ⟨hKt, hCt, hVt⟩, hF, hsm⟩ := hC
  dsimp only at hL1 hL hrw hrt hKw hCw hVw hKt hCt hVt hF hsm
  have hFb := hF.b hL
  obtain ⟨hf1, hf2, hf3, hf4⟩ := hF
  dsimp only at hf1 hf2 hf3 hf4 hFb
  have hp2 := p2_15 hL
  have hp4 := p4_15 hL
  have hpp := Nat.two_pow_pos L
  have hnw := hrw.1
  have hnt := hrt.1
  have hl : lv_has ls 1 [(0, .ref o)] := hl
  refine lv_aload_n hx hb d_CI_many_0 rfl (lv_at hl 0 rfl) ?_
  refine y_get S hk hP 0 rfl f_CI_16 rfl d_CI_many_1 ?_
  refine y_getN S hk hP 5 rfl f_CI_73 rfl d_CI_many_4 ?_
  exact hret _ _ _ rfl (rfl) d_CI_many_7
set_option maxHeartbeats 4000000 in
set_option maxRecDepth 100000 in
theorem c_CI_inside (la : Launch) (G : gG) (o rw kw_ cw_ vw_ rt kt_ ct_ vt_ fr L nw nt x0 y0 x1 y1 : Nat) (Kw Cw Vw Kt Ct Vt : Nat → Nat)  (hC : okC (L, (nw, Kw, Cw, Vw), (nt, Kt, Ct, Vt), (x0, y0, x1, y1))) : MetR la y_CI_inside b_CI_inside 3 .int 2 43 [.ref o] G [(o, .inr (0, [.ref rw, .ref rt, .int (nI L), .ref fr])), (rw, .inr (1, [.ref kw_, .ref cw_, .ref vw_, .int (nI nw)])), (kw_, .inl (G.2.1, 500, .inl (fun zz => nI (Kw zz)))), (cw_, .inl (G.2.1, 500, .inl (fun zz => nI (Cw zz)))), (vw_, .inl (G.2.1, 500, .inl (fun zz => nI (Vw zz)))), (rt, .inr (1, [.ref kt_, .ref ct_, .ref vt_, .int (nI nt)])), (kt_, .inl (G.2.1, 500, .inl (fun zz => nI (Kt zz)))), (ct_, .inl (G.2.1, 500, .inl (fun zz => nI (Ct zz)))), (vt_, .inl (G.2.1, 500, .inl (fun zz => nI (Vt zz)))), (fr, .inr (2, [.int (nI x0), .int (nI y0), .int (nI x1), .int (nI y1)]))] (fun r => r = nI (ins L (x0, y0, x1, y1) nt Ct)) := by
  refine MetR.mk (by decide +kernel) (Nat.le_of_ble_eq_true rfl) ?_
  intro p e s m below meth c Q ls S hP hk hs hret hl
  have hx := S.1
  have hb := S.2.1
  obtain ⟨⟨hL1, hL⟩, hrw, hrt, ⟨hKw, hCw, hVw⟩, ⟨hKt, hCt, hVt⟩, hF, hsm⟩ := hC
  dsimp only at hL1 hL hrw hrt hKw hCw hVw hKt hCt hVt hF hsm
  have hFb := hF.b hL
  obtain ⟨hf1, hf2, hf3, hf4⟩ := hF
  dsimp only at hf1 hf2 hf3 hf4 hFb
  have hp2 := p2_15 hL
  have hp4 := p4_15 hL
  have hpp := Nat.two_pow_pos L
  have hnw := hrw.1
  have hnt := hrt.1
  have hl : lv_has ls 3 [(0, .ref o)] := hl
  refine lv_iconst (v := nI 0) hx hb d_CI_inside_0 (by decide) ?_
  refine lv_istore_n hx hb d_CI_inside_1 rfl hl (by decide) rfl (fun ls hl => ?_)
  have hl : lv_has ls 3 [(1, .int (nI 0)), (0, .ref o)] := hl
  refine lv_iconst (v := nI 0) hx hb d_CI_inside_2 (by decide) ?_
  refine lv_istore_n hx hb d_CI_inside_3 rfl hl (by decide) rfl (fun ls hl => ?_)
  have hl : lv_has ls 3 [(2, .int (nI 0)), (1, .int (nI 0)), (0, .ref o)] := hl
  refine (?_ : ∀ (d : Nat) (q : Nat) (g : Nat) (ls : Array Slot), nt - q < d → lv_has ls 3 [(2, .int (nI q)), (1, .int (nI g)), (0, .ref o)] → (q ≤ nt) → (g = ins L (x0, y0, x1, y1) q Ct) → W p la e _ s m _ below meth c s.heap [] 0 0 Q (F0 m 4 ls [])) (nt - 0 + 1) 0 0 ls (Nat.lt_succ_self _) hl (Nat.zero_le _) (rfl)
  intro d
  induction d with
  | zero => intro q g ls hd; exact absurd hd (Nat.not_lt_zero _)
  | succ d ih =>
    intro q g ls hd hl hq hg
    refine lv_iload_n hx hb d_CI_inside_4 rfl (lv_at hl 0 rfl) ?_
    refine lv_aload_n hx hb d_CI_inside_5 rfl (lv_at hl 2 rfl) ?_
    refine y_get S hk hP 0 rfl f_CI_16 rfl d_CI_inside_6 ?_
    refine y_getN S hk hP 5 rfl f_CI_73 rfl d_CI_inside_9 ?_
    refine x_icmp_ge hx hb d_CI_inside_12 (tgt := 40) (by decide) (by omega) (by omega) (fun h12 => ?_) (fun h12 => ?_)
    · refine lv_iload_n hx hb d_CI_inside_40 rfl (lv_at hl 1 rfl) ?_
      exact hret _ _ _ rfl (by rw [hg, show q = nt by omega]) d_CI_inside_41
    · refine lv_aload_n hx hb d_CI_inside_15 rfl (lv_at hl 2 rfl) ?_
      refine lv_aload_n hx hb d_CI_inside_16 rfl (lv_at hl 2 rfl) ?_
      refine y_get S hk hP 0 rfl f_CI_16 rfl d_CI_inside_17 ?_
      refine y_getN S hk hP 5 rfl f_CI_76 rfl d_CI_inside_20 ?_
      refine lv_iload_n hx hb d_CI_inside_23 rfl (lv_at hl 0 rfl) ?_
      refine y_ald hx hb hk hP 7 rfl (by omega) (by decide) d_CI_inside_24 ?_
      refine vp_callSi (va_Run.run (run_V S v_CI_80 (c_CI_isInFrame la G o rw rt fr L x0 y0 x1 y1 (Ct q) hL (by omega) (by omega) (by omega) (by omega) (hCt q)) ⟨rfl, rfl⟩ ⟨Nat.le_of_ble_eq_true rfl, Nat.le_of_ble_eq_true rfl⟩ (preR_V hP hk hs [0, 9] rfl 0 rfl rfl) (rest := []) rfl hl.1 rfl (Nat.le_of_ble_eq_true rfl) d_CI_inside_25 ⟨Nat.le_refl _, Nat.le_refl _⟩)) (fun r1 hr1 => ?_)
      rcases hr1 with ⟨rfl, q1⟩ | ⟨rfl, q1⟩
      · refine lv_if_eq hx hb d_CI_inside_28 (tgt := 34) (by decide) (fun h => absurd h (by decide)) (fun _ => ?_)
        refine lv_iinc (v := nI (g + 1)) hx hb d_CI_inside_31 hl (k := 1) rfl (ii_p _ 1) (by decide) rfl (fun ls hl => ?_)
        have hl : lv_has ls 3 [(1, .int (nI (g + 1))), (2, .int (nI q)), (0, .ref o)] := hl
        refine lv_iinc (v := nI (q + 1)) hx hb d_CI_inside_34 hl (k := 1) rfl (ii_p _ 1) (by decide) rfl (fun ls hl => ?_)
        have hl : lv_has ls 3 [(2, .int (nI (q + 1))), (1, .int (nI (g + 1))), (0, .ref o)] := hl
        refine lv_goto hx hb d_CI_inside_37 (tgt := 4) (by decide) ?_
        have hl := lv_sub hl [0, 1, 2] rfl
        exact ih (q + 1) _ _ (by omega) hl (by omega) (by first | rw [hg, ins_1 q1] | rw [hg, ins_0 q1])
      · refine lv_if_eq hx hb d_CI_inside_28 (tgt := 34) (by decide) (fun _ => ?_) (fun h => absurd (by decide) h)
        refine lv_iinc (v := nI (q + 1)) hx hb d_CI_inside_34 hl (k := 0) rfl (ii_p _ 1) (by decide) rfl (fun ls hl => ?_)
        have hl : lv_has ls 3 [(2, .int (nI (q + 1))), (1, .int (nI g)), (0, .ref o)] := hl
        refine lv_goto hx hb d_CI_inside_37 (tgt := 4) (by decide) ?_
        have hl := lv_sub hl [0, 1, 2] rfl
        exact ih (q + 1) _ _ (by omega) hl (by omega) (by first | rw [hg, ins_1 q1] | rw [hg, ins_0 q1])
set_option maxHeartbeats 4000000 in
set_option maxRecDepth 100000 in
theorem c_CI_sum (la : Launch) (G : gG) (o rw kw_ cw_ vw_ rt kt_ ct_ vt_ fr L nw nt x0 y0 x1 y1 : Nat) (Kw Cw Vw Kt Ct Vt : Nat → Nat)  (hC : okC (L, (nw, Kw, Cw, Vw), (nt, Kt, Ct, Vt), (x0, y0, x1, y1))) : MetR la y_CI_sum b_CI_sum 3 .int 2 43 [.ref o] G [(o, .inr (0, [.ref rw, .ref rt, .int (nI L), .ref fr])), (rw, .inr (1, [.ref kw_, .ref cw_, .ref vw_, .int (nI nw)])), (kw_, .inl (G.2.1, 500, .inl (fun zz => nI (Kw zz)))), (cw_, .inl (G.2.1, 500, .inl (fun zz => nI (Cw zz)))), (vw_, .inl (G.2.1, 500, .inl (fun zz => nI (Vw zz)))), (rt, .inr (1, [.ref kt_, .ref ct_, .ref vt_, .int (nI nt)])), (kt_, .inl (G.2.1, 500, .inl (fun zz => nI (Kt zz)))), (ct_, .inl (G.2.1, 500, .inl (fun zz => nI (Ct zz)))), (vt_, .inl (G.2.1, 500, .inl (fun zz => nI (Vt zz)))), (fr, .inr (2, [.int (nI x0), .int (nI y0), .int (nI x1), .int (nI y1)]))] (fun r => r = nI (sum L (x0, y0, x1, y1) nt Ct Vt)) := by
  refine MetR.mk (by decide +kernel) (Nat.le_of_ble_eq_true rfl) ?_
  intro p e s m below meth c Q ls S hP hk hs hret hl
  have hx := S.1
  have hb := S.2.1
  obtain ⟨⟨hL1, hL⟩, hrw, hrt, ⟨hKw, hCw, hVw⟩, ⟨hKt, hCt, hVt⟩, hF, hsm⟩ := hC
  dsimp only at hL1 hL hrw hrt hKw hCw hVw hKt hCt hVt hF hsm
  have hFb := hF.b hL
  obtain ⟨hf1, hf2, hf3, hf4⟩ := hF
  dsimp only at hf1 hf2 hf3 hf4 hFb
  have hp2 := p2_15 hL
  have hp4 := p4_15 hL
  have hpp := Nat.two_pow_pos L
  have hnw := hrw.1
  have hnt := hrt.1
  have hl : lv_has ls 3 [(0, .ref o)] := hl
  refine lv_iconst (v := nI 0) hx hb d_CI_sum_0 (by decide) ?_
  refine lv_istore_n hx hb d_CI_sum_1 rfl hl (by decide) rfl (fun ls hl => ?_)
  have hl : lv_has ls 3 [(1, .int (nI 0)), (0, .ref o)] := hl
  refine lv_iconst (v := nI 0) hx hb d_CI_sum_2 (by decide) ?_
  refine lv_istore_n hx hb d_CI_sum_3 rfl hl (by decide) rfl (fun ls hl => ?_)
  have hl : lv_has ls 3 [(2, .int (nI 0)), (1, .int (nI 0)), (0, .ref o)] := hl
  refine (?_ : ∀ (d : Nat) (q : Nat) (g : Nat) (ls : Array Slot), nt - q < d → lv_has ls 3 [(2, .int (nI q)), (1, .int (nI g)), (0, .ref o)] → (q ≤ nt) → (g = sum L (x0, y0, x1, y1) q Ct Vt) → W p la e _ s m _ below meth c s.heap [] 0 0 Q (F0 m 4 ls [])) (nt - 0 + 1) 0 0 ls (Nat.lt_succ_self _) hl (Nat.zero_le _) (rfl)
  intro d
  induction d with
  | zero => intro q g ls hd; exact absurd hd (Nat.not_lt_zero _)
  | succ d ih =>
    intro q g ls hd hl hq hg
    refine lv_iload_n hx hb d_CI_sum_4 rfl (lv_at hl 0 rfl) ?_
    refine lv_aload_n hx hb d_CI_sum_5 rfl (lv_at hl 2 rfl) ?_
    refine y_get S hk hP 0 rfl f_CI_16 rfl d_CI_sum_6 ?_
    refine y_getN S hk hP 5 rfl f_CI_73 rfl d_CI_sum_9 ?_
    refine x_icmp_ge hx hb d_CI_sum_12 (tgt := 49) (by decide) (by omega) (by omega) (fun h12 => ?_) (fun h12 => ?_)
    · refine lv_iload_n hx hb d_CI_sum_49 rfl (lv_at hl 1 rfl) ?_
      exact hret _ _ _ rfl (by rw [hg, show q = nt by omega]) d_CI_sum_50
    · refine lv_aload_n hx hb d_CI_sum_15 rfl (lv_at hl 2 rfl) ?_
      refine lv_aload_n hx hb d_CI_sum_16 rfl (lv_at hl 2 rfl) ?_
      refine y_get S hk hP 0 rfl f_CI_16 rfl d_CI_sum_17 ?_
      refine y_getN S hk hP 5 rfl f_CI_76 rfl d_CI_sum_20 ?_
      refine lv_iload_n hx hb d_CI_sum_23 rfl (lv_at hl 0 rfl) ?_
      refine y_ald hx hb hk hP 7 rfl (by omega) (by decide) d_CI_sum_24 ?_
      refine vp_callSi (va_Run.run (run_V S v_CI_80 (c_CI_isInFrame la G o rw rt fr L x0 y0 x1 y1 (Ct q) hL (by omega) (by omega) (by omega) (by omega) (hCt q)) ⟨rfl, rfl⟩ ⟨Nat.le_of_ble_eq_true rfl, Nat.le_of_ble_eq_true rfl⟩ (preR_V hP hk hs [0, 9] rfl 0 rfl rfl) (rest := []) rfl hl.1 rfl (Nat.le_of_ble_eq_true rfl) d_CI_sum_25 ⟨Nat.le_refl _, Nat.le_refl _⟩)) (fun r1 hr1 => ?_)
      rcases hr1 with ⟨rfl, q1⟩ | ⟨rfl, q1⟩
      · refine lv_if_eq hx hb d_CI_sum_28 (tgt := 43) (by decide) (fun h => absurd h (by decide)) (fun _ => ?_)
        refine lv_iload_n hx hb d_CI_sum_31 rfl (lv_at hl 1 rfl) ?_
        refine lv_aload_n hx hb d_CI_sum_32 rfl (lv_at hl 2 rfl) ?_
        refine y_get S hk hP 0 rfl f_CI_16 rfl d_CI_sum_33 ?_
        refine y_getN S hk hP 5 rfl f_CI_83 rfl d_CI_sum_36 ?_
        refine lv_iload_n hx hb d_CI_sum_39 rfl (lv_at hl 0 rfl) ?_
        refine y_ald hx hb hk hP 8 rfl (by omega) (by decide) d_CI_sum_40 ?_
        refine x_iadd hx hb d_CI_sum_41 ?_
        refine lv_istore_n hx hb d_CI_sum_42 rfl hl (by decide) rfl (fun ls hl => ?_)
        have hl : lv_has ls 3 [(1, .int (nI (g + (Vt q)))), (2, .int (nI q)), (0, .ref o)] := hl
        refine lv_iinc (v := nI (q + 1)) hx hb d_CI_sum_43 hl (k := 1) rfl (ii_p _ 1) (by decide) rfl (fun ls hl => ?_)
        have hl : lv_has ls 3 [(2, .int (nI (q + 1))), (1, .int (nI (g + (Vt q)))), (0, .ref o)] := hl
        refine lv_goto hx hb d_CI_sum_46 (tgt := 4) (by decide) ?_
        have hl := lv_sub hl [0, 1, 2] rfl
        exact ih (q + 1) _ _ (by omega) hl (by omega) (by first | rw [hg, sum_1 q1] | rw [hg, sum_0 q1])
      · refine lv_if_eq hx hb d_CI_sum_28 (tgt := 43) (by decide) (fun _ => ?_) (fun h => absurd (by decide) h)
        refine lv_iinc (v := nI (q + 1)) hx hb d_CI_sum_43 hl (k := 0) rfl (ii_p _ 1) (by decide) rfl (fun ls hl => ?_)
        have hl : lv_has ls 3 [(2, .int (nI (q + 1))), (1, .int (nI g)), (0, .ref o)] := hl
        refine lv_goto hx hb d_CI_sum_46 (tgt := 4) (by decide) ?_
        have hl := lv_sub hl [0, 1, 2] rfl
        exact ih (q + 1) _ _ (by omega) hl (by omega) (by first | rw [hg, sum_1 q1] | rw [hg, sum_0 q1])
set_option maxHeartbeats 4000000 in
set_option maxRecDepth 100000 in
theorem c_CI_nth (la : Launch) (G : gG) (o rw kw_ cw_ vw_ rt kt_ ct_ vt_ fr L nw nt x0 y0 x1 y1 : Nat) (Kw Cw Vw Kt Ct Vt : Nat → Nat) (cu i : Int32) (hC : okC (L, (nw, Kw, Cw, Vw), (nt, Kt, Ct, Vt), (x0, y0, x1, y1))) : MetR la y_CI_nth b_CI_nth 7 .int 2 43 [.ref o, .int cu, .int i] G [(o, .inr (0, [.ref rw, .ref rt, .int (nI L), .ref fr])), (rw, .inr (1, [.ref kw_, .ref cw_, .ref vw_, .int (nI nw)])), (kw_, .inl (G.2.1, 500, .inl (fun zz => nI (Kw zz)))), (cw_, .inl (G.2.1, 500, .inl (fun zz => nI (Cw zz)))), (vw_, .inl (G.2.1, 500, .inl (fun zz => nI (Vw zz)))), (rt, .inr (1, [.ref kt_, .ref ct_, .ref vt_, .int (nI nt)])), (kt_, .inl (G.2.1, 500, .inl (fun zz => nI (Kt zz)))), (ct_, .inl (G.2.1, 500, .inl (fun zz => nI (Ct zz)))), (vt_, .inl (G.2.1, 500, .inl (fun zz => nI (Vt zz)))), (fr, .inr (2, [.int (nI x0), .int (nI y0), .int (nI x1), .int (nI y1)]))] (fun r => nthQ L (x0, y0, x1, y1) nw Cw nt Ct cu i r) := by
  refine MetR.mk (by decide +kernel) (Nat.le_of_ble_eq_true rfl) ?_
  intro p e s m below meth c Q ls S hP hk hs hret hl
  have hx := S.1
  have hb := S.2.1
  obtain ⟨⟨hL1, hL⟩, hrw, hrt, ⟨hKw, hCw, hVw⟩, ⟨hKt, hCt, hVt⟩, hF, hsm⟩ := hC
  dsimp only at hL1 hL hrw hrt hKw hCw hVw hKt hCt hVt hF hsm
  have hFb := hF.b hL
  obtain ⟨hf1, hf2, hf3, hf4⟩ := hF
  dsimp only at hf1 hf2 hf3 hf4 hFb
  have hp2 := p2_15 hL
  have hp4 := p4_15 hL
  have hpp := Nat.two_pow_pos L
  have hnw := hrw.1
  have hnt := hrt.1
  have hl : lv_has ls 7 [(0, .ref o), (1, .int cu), (2, .int i)] := hl
  refine lv_iload_n hx hb d_CI_nth_0 rfl (lv_at hl 1 rfl) ?_
  refine vp_callSi (va_Run.run (run_S S v_CI_35 (c_CI_isCurve la G cu) ⟨rfl, rfl⟩ ⟨Nat.le_of_ble_eq_true rfl, Nat.le_of_ble_eq_true rfl⟩ (preR_S hP hk hs [] rfl) (rest := []) rfl hl.1 rfl (Nat.le_of_ble_eq_true rfl) d_CI_nth_1 ⟨Nat.le_refl _, Nat.le_refl _⟩)) (fun r1 hr1 => ?_)
  rcases hr1 with ⟨rfl, q1⟩ | ⟨rfl, q1⟩
  · rcases cuO_01 q1 with rfl | rfl
    · have hl : lv_has ls 7 [(0, .ref o), (1, .int (nI 0)), (2, .int i)] := hl
      refine lv_if_ne hx hb d_CI_nth_4 (tgt := 9) (by decide) (fun _ => ?_) (fun h => absurd h (by decide))
      refine lv_iload_n hx hb d_CI_nth_9 rfl (lv_at hl 1 rfl) ?_
      refine lv_if_ne hx hb d_CI_nth_10 (tgt := 20) (by decide) (fun h => absurd rfl h) (fun _ => ?_)
      refine lv_aload_n hx hb d_CI_nth_13 rfl (lv_at hl 0 rfl) ?_
      refine y_get S hk hP 0 rfl f_CI_10 rfl d_CI_nth_14 ?_
      refine lv_goto hx hb d_CI_nth_17 (tgt := 24) (by decide) ?_
      refine lv_astore_n hx hb d_CI_nth_24 rfl hl (by decide) rfl (fun ls hl => ?_)
      have hl : lv_has ls 7 [(3, .ref rw), (0, .ref o), (1, .int (nI 0)), (2, .int i)] := hl
      refine lv_iconst (v := nI 0) hx hb d_CI_nth_25 (by decide) ?_
      refine lv_istore hx hb d_CI_nth_26 hl (by decide) rfl (fun ls hl => ?_)
      have hl : lv_has ls 7 [(4, .int (nI 0)), (3, .ref rw), (0, .ref o), (1, .int (nI 0)), (2, .int i)] := hl
      refine lv_iconst (v := nI 0) hx hb d_CI_nth_28 (by decide) ?_
      refine lv_istore hx hb d_CI_nth_29 hl (by decide) rfl (fun ls hl => ?_)
      have hl : lv_has ls 7 [(5, .int (nI 0)), (4, .int (nI 0)), (3, .ref rw), (0, .ref o), (1, .int (nI 0)), (2, .int i)] := hl
      have hl := lv_sub hl [0, 1, 2, 5, 4, 3] rfl
      refine (?_ : ∀ (d : Nat) (q : Nat) (g : Nat) (ls : Array Slot), nw - q < d → lv_has ls 7 [(5, .int (nI q)), (4, .int (nI g)), (3, .ref rw), (2, .int i), (1, .int (nI 0)), (0, .ref o)] → (q ≤ nw) → (g = ins L (x0, y0, x1, y1) q Cw) → (∀ j, j < q → inc L (x0, y0, x1, y1) (Cw j) = true → nI (ins L (x0, y0, x1, y1) j Cw) ≠ i) → W p la e _ s m _ below meth c s.heap [] 0 0 Q (F0 m 31 ls [])) (nw - 0 + 1) 0 0 ls (Nat.lt_succ_self _) hl (Nat.zero_le _) (rfl) (fun j h => absurd h (Nat.not_lt_zero _))
      intro d
      induction d with
      | zero => intro q g ls hd; exact absurd hd (Nat.not_lt_zero _)
      | succ d ih =>
        intro q g ls hd hl hq hg hno
        refine lv_iload hx hb d_CI_nth_31 (lv_at hl 0 rfl) ?_
        refine lv_aload_n hx hb d_CI_nth_33 rfl (lv_at hl 2 rfl) ?_
        refine y_getN S hk hP 1 rfl f_CI_73 rfl d_CI_nth_34 ?_
        refine x_icmp_ge hx hb d_CI_nth_37 (tgt := 76) (by decide) (by omega) (by omega) (fun h37 => ?_) (fun h37 => ?_)
        · refine lv_iconst (v := (-1)) hx hb d_CI_nth_76 (by decide) ?_
          exact hret _ _ _ rfl (Or.inl ⟨rfl, Or.inr ⟨fun j hj hin => by rw [hrw.rkp (x0, y0, x1, y1) hj]; exact hno j (by omega) hin, rfl⟩⟩) d_CI_nth_77
        · refine lv_aload_n hx hb d_CI_nth_40 rfl (lv_at hl 2 rfl) ?_
          refine y_getN S hk hP 1 rfl f_CI_76 rfl d_CI_nth_41 ?_
          refine lv_iload hx hb d_CI_nth_44 (lv_at hl 0 rfl) ?_
          refine y_ald hx hb hk hP 3 rfl (by omega) (by decide) d_CI_nth_46 ?_
          refine lv_istore hx hb d_CI_nth_47 hl (by decide) rfl (fun ls hl => ?_)
          have hl : lv_has ls 7 [(6, .int (nI (Cw q))), (5, .int (nI q)), (4, .int (nI g)), (3, .ref rw), (2, .int i), (1, .int (nI 0)), (0, .ref o)] := hl
          refine lv_aload_n hx hb d_CI_nth_49 rfl (lv_at hl 6 rfl) ?_
          refine lv_iload hx hb d_CI_nth_50 (lv_at hl 0 rfl) ?_
          refine vp_callSi (va_Run.run (run_V S v_CI_80 (c_CI_isInFrame la G o rw rt fr L x0 y0 x1 y1 (Cw q) hL (by omega) (by omega) (by omega) (by omega) (hCw q)) ⟨rfl, rfl⟩ ⟨Nat.le_of_ble_eq_true rfl, Nat.le_of_ble_eq_true rfl⟩ (preR_V hP hk hs [0, 9] rfl 0 rfl rfl) (rest := []) rfl hl.1 rfl (Nat.le_of_ble_eq_true rfl) d_CI_nth_52 ⟨Nat.le_refl _, Nat.le_refl _⟩)) (fun r2 hr2 => ?_)
          rcases hr2 with ⟨rfl, q2⟩ | ⟨rfl, q2⟩
          · refine lv_if_eq hx hb d_CI_nth_55 (tgt := 70) (by decide) (fun h => absurd h (by decide)) (fun _ => ?_)
            refine lv_iload hx hb d_CI_nth_58 (lv_at hl 2 rfl) ?_
            refine lv_iload_n hx hb d_CI_nth_60 rfl (lv_at hl 4 rfl) ?_
            refine lv_icmp_ne hx hb d_CI_nth_61 (tgt := 67) (by decide) (fun h61 => ?_) (fun h61 => ?_)
            · refine lv_iinc (v := nI (g + 1)) hx hb d_CI_nth_67 hl (k := 2) rfl (ii_p _ 1) (by decide) rfl (fun ls hl => ?_)
              have hl : lv_has ls 7 [(4, .int (nI (g + 1))), (6, .int (nI (Cw q))), (5, .int (nI q)), (3, .ref rw), (2, .int i), (1, .int (nI 0)), (0, .ref o)] := hl
              refine lv_iinc (v := nI (q + 1)) hx hb d_CI_nth_70 hl (k := 2) rfl (ii_p _ 1) (by decide) rfl (fun ls hl => ?_)
              have hl : lv_has ls 7 [(5, .int (nI (q + 1))), (4, .int (nI (g + 1))), (6, .int (nI (Cw q))), (3, .ref rw), (2, .int i), (1, .int (nI 0)), (0, .ref o)] := hl
              refine lv_goto hx hb d_CI_nth_73 (tgt := 31) (by decide) ?_
              have hl := lv_sub hl [0, 1, 3, 4, 5, 6] rfl
              exact ih (q + 1) _ _ (by omega) hl (by omega) (by first | rw [hg, ins_1 q2] | rw [hg, ins_0 q2]) (fun j hj hin => by rcases Nat.lt_or_ge j q with z | z; exact hno j z hin; obtain rfl : j = q := (by omega); first | exact fun z => h61 (by rw [hg]; exact z) | exact absurd (hin.symm.trans q2) (by decide))
            · refine lv_iload hx hb d_CI_nth_64 (lv_at hl 0 rfl) ?_
              exact hret _ _ _ rfl (Or.inl ⟨rfl, Or.inl ⟨q, by omega, q2, by rw [hrw.rkp (x0, y0, x1, y1) (by omega), ← hg]; exact h61, rfl⟩⟩) d_CI_nth_66
          · refine lv_if_eq hx hb d_CI_nth_55 (tgt := 70) (by decide) (fun _ => ?_) (fun h => absurd (by decide) h)
            refine lv_iinc (v := nI (q + 1)) hx hb d_CI_nth_70 hl (k := 1) rfl (ii_p _ 1) (by decide) rfl (fun ls hl => ?_)
            have hl : lv_has ls 7 [(5, .int (nI (q + 1))), (6, .int (nI (Cw q))), (4, .int (nI g)), (3, .ref rw), (2, .int i), (1, .int (nI 0)), (0, .ref o)] := hl
            refine lv_goto hx hb d_CI_nth_73 (tgt := 31) (by decide) ?_
            have hl := lv_sub hl [0, 2, 3, 4, 5, 6] rfl
            exact ih (q + 1) _ _ (by omega) hl (by omega) (by first | rw [hg, ins_1 q2] | rw [hg, ins_0 q2]) (fun j hj hin => by rcases Nat.lt_or_ge j q with z | z; exact hno j z hin; obtain rfl : j = q := (by omega); first | exact fun z => h61 (by rw [hg]; exact z) | exact absurd (hin.symm.trans q2) (by decide))
    · have hl : lv_has ls 7 [(0, .ref o), (1, .int (nI 1)), (2, .int i)] := hl
      refine lv_if_ne hx hb d_CI_nth_4 (tgt := 9) (by decide) (fun _ => ?_) (fun h => absurd h (by decide))
      refine lv_iload_n hx hb d_CI_nth_9 rfl (lv_at hl 1 rfl) ?_
      refine lv_if_ne hx hb d_CI_nth_10 (tgt := 20) (by decide) (fun _ => ?_) (fun h => absurd h (by decide))
      refine lv_aload_n hx hb d_CI_nth_20 rfl (lv_at hl 0 rfl) ?_
      refine y_get S hk hP 0 rfl f_CI_16 rfl d_CI_nth_21 ?_
      refine lv_astore_n hx hb d_CI_nth_24 rfl hl (by decide) rfl (fun ls hl => ?_)
      have hl : lv_has ls 7 [(3, .ref rt), (0, .ref o), (1, .int (nI 1)), (2, .int i)] := hl
      refine lv_iconst (v := nI 0) hx hb d_CI_nth_25 (by decide) ?_
      refine lv_istore hx hb d_CI_nth_26 hl (by decide) rfl (fun ls hl => ?_)
      have hl : lv_has ls 7 [(4, .int (nI 0)), (3, .ref rt), (0, .ref o), (1, .int (nI 1)), (2, .int i)] := hl
      refine lv_iconst (v := nI 0) hx hb d_CI_nth_28 (by decide) ?_
      refine lv_istore hx hb d_CI_nth_29 hl (by decide) rfl (fun ls hl => ?_)
      have hl : lv_has ls 7 [(5, .int (nI 0)), (4, .int (nI 0)), (3, .ref rt), (0, .ref o), (1, .int (nI 1)), (2, .int i)] := hl
      have hl := lv_sub hl [0, 1, 2, 5, 4, 3] rfl
      refine (?_ : ∀ (d : Nat) (q : Nat) (g : Nat) (ls : Array Slot), nt - q < d → lv_has ls 7 [(5, .int (nI q)), (4, .int (nI g)), (3, .ref rt), (2, .int i), (1, .int (nI 1)), (0, .ref o)] → (q ≤ nt) → (g = ins L (x0, y0, x1, y1) q Ct) → (∀ j, j < q → inc L (x0, y0, x1, y1) (Ct j) = true → nI (ins L (x0, y0, x1, y1) j Ct) ≠ i) → W p la e _ s m _ below meth c s.heap [] 0 0 Q (F0 m 31 ls [])) (nt - 0 + 1) 0 0 ls (Nat.lt_succ_self _) hl (Nat.zero_le _) (rfl) (fun j h => absurd h (Nat.not_lt_zero _))
      intro d
      induction d with
      | zero => intro q g ls hd; exact absurd hd (Nat.not_lt_zero _)
      | succ d ih =>
        intro q g ls hd hl hq hg hno
        refine lv_iload hx hb d_CI_nth_31 (lv_at hl 0 rfl) ?_
        refine lv_aload_n hx hb d_CI_nth_33 rfl (lv_at hl 2 rfl) ?_
        refine y_getN S hk hP 5 rfl f_CI_73 rfl d_CI_nth_34 ?_
        refine x_icmp_ge hx hb d_CI_nth_37 (tgt := 76) (by decide) (by omega) (by omega) (fun h37 => ?_) (fun h37 => ?_)
        · refine lv_iconst (v := (-1)) hx hb d_CI_nth_76 (by decide) ?_
          exact hret _ _ _ rfl (Or.inr (Or.inl ⟨rfl, Or.inr ⟨fun j hj hin => by rw [hrt.rkp (x0, y0, x1, y1) hj]; exact hno j (by omega) hin, rfl⟩⟩)) d_CI_nth_77
        · refine lv_aload_n hx hb d_CI_nth_40 rfl (lv_at hl 2 rfl) ?_
          refine y_getN S hk hP 5 rfl f_CI_76 rfl d_CI_nth_41 ?_
          refine lv_iload hx hb d_CI_nth_44 (lv_at hl 0 rfl) ?_
          refine y_ald hx hb hk hP 7 rfl (by omega) (by decide) d_CI_nth_46 ?_
          refine lv_istore hx hb d_CI_nth_47 hl (by decide) rfl (fun ls hl => ?_)
          have hl : lv_has ls 7 [(6, .int (nI (Ct q))), (5, .int (nI q)), (4, .int (nI g)), (3, .ref rt), (2, .int i), (1, .int (nI 1)), (0, .ref o)] := hl
          refine lv_aload_n hx hb d_CI_nth_49 rfl (lv_at hl 6 rfl) ?_
          refine lv_iload hx hb d_CI_nth_50 (lv_at hl 0 rfl) ?_
          refine vp_callSi (va_Run.run (run_V S v_CI_80 (c_CI_isInFrame la G o rw rt fr L x0 y0 x1 y1 (Ct q) hL (by omega) (by omega) (by omega) (by omega) (hCt q)) ⟨rfl, rfl⟩ ⟨Nat.le_of_ble_eq_true rfl, Nat.le_of_ble_eq_true rfl⟩ (preR_V hP hk hs [0, 9] rfl 0 rfl rfl) (rest := []) rfl hl.1 rfl (Nat.le_of_ble_eq_true rfl) d_CI_nth_52 ⟨Nat.le_refl _, Nat.le_refl _⟩)) (fun r2 hr2 => ?_)
          rcases hr2 with ⟨rfl, q2⟩ | ⟨rfl, q2⟩
          · refine lv_if_eq hx hb d_CI_nth_55 (tgt := 70) (by decide) (fun h => absurd h (by decide)) (fun _ => ?_)
            refine lv_iload hx hb d_CI_nth_58 (lv_at hl 2 rfl) ?_
            refine lv_iload_n hx hb d_CI_nth_60 rfl (lv_at hl 4 rfl) ?_
            refine lv_icmp_ne hx hb d_CI_nth_61 (tgt := 67) (by decide) (fun h61 => ?_) (fun h61 => ?_)
            · refine lv_iinc (v := nI (g + 1)) hx hb d_CI_nth_67 hl (k := 2) rfl (ii_p _ 1) (by decide) rfl (fun ls hl => ?_)
              have hl : lv_has ls 7 [(4, .int (nI (g + 1))), (6, .int (nI (Ct q))), (5, .int (nI q)), (3, .ref rt), (2, .int i), (1, .int (nI 1)), (0, .ref o)] := hl
              refine lv_iinc (v := nI (q + 1)) hx hb d_CI_nth_70 hl (k := 2) rfl (ii_p _ 1) (by decide) rfl (fun ls hl => ?_)
              have hl : lv_has ls 7 [(5, .int (nI (q + 1))), (4, .int (nI (g + 1))), (6, .int (nI (Ct q))), (3, .ref rt), (2, .int i), (1, .int (nI 1)), (0, .ref o)] := hl
              refine lv_goto hx hb d_CI_nth_73 (tgt := 31) (by decide) ?_
              have hl := lv_sub hl [0, 1, 3, 4, 5, 6] rfl
              exact ih (q + 1) _ _ (by omega) hl (by omega) (by first | rw [hg, ins_1 q2] | rw [hg, ins_0 q2]) (fun j hj hin => by rcases Nat.lt_or_ge j q with z | z; exact hno j z hin; obtain rfl : j = q := (by omega); first | exact fun z => h61 (by rw [hg]; exact z) | exact absurd (hin.symm.trans q2) (by decide))
            · refine lv_iload hx hb d_CI_nth_64 (lv_at hl 0 rfl) ?_
              exact hret _ _ _ rfl (Or.inr (Or.inl ⟨rfl, Or.inl ⟨q, by omega, q2, by rw [hrt.rkp (x0, y0, x1, y1) (by omega), ← hg]; exact h61, rfl⟩⟩)) d_CI_nth_66
          · refine lv_if_eq hx hb d_CI_nth_55 (tgt := 70) (by decide) (fun _ => ?_) (fun h => absurd (by decide) h)
            refine lv_iinc (v := nI (q + 1)) hx hb d_CI_nth_70 hl (k := 1) rfl (ii_p _ 1) (by decide) rfl (fun ls hl => ?_)
            have hl : lv_has ls 7 [(5, .int (nI (q + 1))), (6, .int (nI (Ct q))), (4, .int (nI g)), (3, .ref rt), (2, .int i), (1, .int (nI 1)), (0, .ref o)] := hl
            refine lv_goto hx hb d_CI_nth_73 (tgt := 31) (by decide) ?_
            have hl := lv_sub hl [0, 2, 3, 4, 5, 6] rfl
            exact ih (q + 1) _ _ (by omega) hl (by omega) (by first | rw [hg, ins_1 q2] | rw [hg, ins_0 q2]) (fun j hj hin => by rcases Nat.lt_or_ge j q with z | z; exact hno j z hin; obtain rfl : j = q := (by omega); first | exact fun z => h61 (by rw [hg]; exact z) | exact absurd (hin.symm.trans q2) (by decide))
  · refine lv_if_ne hx hb d_CI_nth_4 (tgt := 9) (by decide) (fun h => absurd rfl h) (fun _ => ?_)
    refine lv_iconst (v := (-1)) hx hb d_CI_nth_7 (by decide) ?_
    exact hret _ _ _ rfl (Or.inr (Or.inr ⟨q1, rfl⟩)) d_CI_nth_8
set_option maxHeartbeats 4000000 in
set_option maxRecDepth 100000 in
theorem c_CI_nearest (la : Launch) (G : gG) (o rw kw_ cw_ vw_ rt kt_ ct_ vt_ fr L nw nt x0 y0 x1 y1 : Nat) (Kw Cw Vw Kt Ct Vt : Nat → Nat) (x y : Int32) (hC : okC (L, (nw, Kw, Cw, Vw), (nt, Kt, Ct, Vt), (x0, y0, x1, y1))) : MetR la y_CI_nearest b_CI_nearest 10 .int 2 48 [.ref o, .int x, .int y] G [(o, .inr (0, [.ref rw, .ref rt, .int (nI L), .ref fr])), (rw, .inr (1, [.ref kw_, .ref cw_, .ref vw_, .int (nI nw)])), (kw_, .inl (G.2.1, 500, .inl (fun zz => nI (Kw zz)))), (cw_, .inl (G.2.1, 500, .inl (fun zz => nI (Cw zz)))), (vw_, .inl (G.2.1, 500, .inl (fun zz => nI (Vw zz)))), (rt, .inr (1, [.ref kt_, .ref ct_, .ref vt_, .int (nI nt)])), (kt_, .inl (G.2.1, 500, .inl (fun zz => nI (Kt zz)))), (ct_, .inl (G.2.1, 500, .inl (fun zz => nI (Ct zz)))), (vt_, .inl (G.2.1, 500, .inl (fun zz => nI (Vt zz)))), (fr, .inr (2, [.int (nI x0), .int (nI y0), .int (nI x1), .int (nI y1)]))] (fun r => nearQ L nt Ct x y r) := by
  refine MetR.mk (by decide +kernel) (Nat.le_of_ble_eq_true rfl) ?_
  intro p e s m below meth c Q ls S hP hk hs hret hl
  have hx := S.1
  have hb := S.2.1
  obtain ⟨⟨hL1, hL⟩, hrw, hrt, ⟨hKw, hCw, hVw⟩, ⟨hKt, hCt, hVt⟩, hF, hsm⟩ := hC
  dsimp only at hL1 hL hrw hrt hKw hCw hVw hKt hCt hVt hF hsm
  have hFb := hF.b hL
  obtain ⟨hf1, hf2, hf3, hf4⟩ := hF
  dsimp only at hf1 hf2 hf3 hf4 hFb
  have hp2 := p2_15 hL
  have hp4 := p4_15 hL
  have hpp := Nat.two_pow_pos L
  have hnw := hrw.1
  have hnt := hrt.1
  have hl : lv_has ls 10 [(0, .ref o), (1, .int x), (2, .int y)] := hl
  refine lv_aload_n hx hb d_CI_nearest_0 rfl (lv_at hl 0 rfl) ?_
  refine lv_iload_n hx hb d_CI_nearest_1 rfl (lv_at hl 1 rfl) ?_
  refine lv_iload_n hx hb d_CI_nearest_2 rfl (lv_at hl 2 rfl) ?_
  refine vp_callSi (va_Run.run (run_V S v_CI_39 (c_CI_isCell la G o rw rt fr L x y hL) ⟨rfl, rfl⟩ ⟨Nat.le_of_ble_eq_true rfl, Nat.le_of_ble_eq_true rfl⟩ (preR_V hP hk hs [0] rfl 0 rfl rfl) (rest := []) rfl hl.1 rfl (Nat.le_of_ble_eq_true rfl) d_CI_nearest_3 ⟨Nat.le_refl _, Nat.le_refl _⟩)) (fun r1 hr1 => ?_)
  rcases hr1 with ⟨rfl, a, b, ha, hb', rfl, rfl⟩ | ⟨rfl, q1⟩
  · have hl : lv_has ls 10 [(0, .ref o), (1, .int (nI a)), (2, .int (nI b))] := hl
    refine lv_if_ne hx hb d_CI_nearest_6 (tgt := 11) (by decide) (fun _ => ?_) (fun h => absurd h (by decide))
    refine lv_iconst (v := (-1)) hx hb d_CI_nearest_11 (by decide) ?_
    refine lv_istore_n hx hb d_CI_nearest_12 rfl hl (by decide) rfl (fun ls hl => ?_)
    have hl : lv_has ls 10 [(3, .int (-1)), (0, .ref o), (1, .int (nI a)), (2, .int (nI b))] := hl
    refine lv_lconst (v := lN 0) hx hb d_CI_nearest_13 (by decide) ?_
    refine lv_lstore hx hb d_CI_nearest_14 hl (by decide) rfl (fun ls hl => ?_)
    have hl : lv_has ls 10 [(4, .long (lN 0)), (3, .int (-1)), (0, .ref o), (1, .int (nI a)), (2, .int (nI b))] := hl
    refine lv_iconst (v := nI 0) hx hb d_CI_nearest_16 (by decide) ?_
    refine lv_istore hx hb d_CI_nearest_17 hl (by decide) rfl (fun ls hl => ?_)
    have hl : lv_has ls 10 [(6, .int (nI 0)), (4, .long (lN 0)), (3, .int (-1)), (0, .ref o), (1, .int (nI a)), (2, .int (nI b))] := hl
    have hl := lv_sub hl [0, 1, 2, 4, 5, 3] rfl
    have hdq : ∀ j, j < nt → dq L a b (Ct j) < 2 ^ 40 := fun j hj => dq_lt hL ha hb' (hrt.2.1 j hj).1
    refine (?_ : ∀ (d : Nat) (q : Nat) (bb : Int32) (dd : Int64) (ls : Array Slot), nt - q < d → lv_has ls 10 [(6, .int (nI q)), (4, .long dd), (3, .int bb), (1, .int (nI a)), (2, .int (nI b)), (0, .ref o)] → (q ≤ nt) → (nrI L a b Ct q bb dd) → W p la e _ s m _ below meth c s.heap [] 0 0 Q (F0 m 19 ls [])) (nt - 0 + 1) 0 (-1) (lN 0) ls (Nat.lt_succ_self _) hl (Nat.zero_le _) (Or.inl ⟨rfl, rfl⟩)
    intro d
    induction d with
    | zero => intro q bb dd ls hd; exact absurd hd (Nat.not_lt_zero _)
    | succ d ih =>
      intro q bb dd ls hd hl hq hi
      refine lv_iload hx hb d_CI_nearest_19 (lv_at hl 0 rfl) ?_
      refine lv_aload_n hx hb d_CI_nearest_21 rfl (lv_at hl 5 rfl) ?_
      refine y_get S hk hP 0 rfl f_CI_16 rfl d_CI_nearest_22 ?_
      refine y_getN S hk hP 5 rfl f_CI_73 rfl d_CI_nearest_25 ?_
      refine x_icmp_ge hx hb d_CI_nearest_28 (tgt := 79) (by decide) (by omega) (by omega) (fun h28 => ?_) (fun h28 => ?_)
      · refine lv_iload_n hx hb d_CI_nearest_79 rfl (lv_at hl 2 rfl) ?_
        exact hret _ _ _ rfl (Or.inl ⟨a, b, ha, hb', rfl, rfl, nrI_end hrt (by rw [show nt = q by omega]; exact hi)⟩) d_CI_nearest_80
      · refine lv_aload_n hx hb d_CI_nearest_31 rfl (lv_at hl 5 rfl) ?_
        refine y_get S hk hP 0 rfl f_CI_16 rfl d_CI_nearest_32 ?_
        refine y_getN S hk hP 5 rfl f_CI_76 rfl d_CI_nearest_35 ?_
        refine lv_iload hx hb d_CI_nearest_38 (lv_at hl 0 rfl) ?_
        refine y_ald hx hb hk hP 7 rfl (by omega) (by decide) d_CI_nearest_40 ?_
        refine lv_istore hx hb d_CI_nearest_41 hl (by decide) rfl (fun ls hl => ?_)
        have hl : lv_has ls 10 [(7, .int (nI (Ct q))), (6, .int (nI q)), (4, .long dd), (3, .int bb), (1, .int (nI a)), (2, .int (nI b)), (0, .ref o)] := hl
        refine lv_aload_n hx hb d_CI_nearest_43 rfl (lv_at hl 6 rfl) ?_
        refine lv_iload_n hx hb d_CI_nearest_44 rfl (lv_at hl 4 rfl) ?_
        refine lv_iload_n hx hb d_CI_nearest_45 rfl (lv_at hl 5 rfl) ?_
        refine lv_iload hx hb d_CI_nearest_46 (lv_at hl 0 rfl) ?_
        refine vp_callSl (va_Run.run (run_V S v_CI_104 (c_CI_squaredDistance la G o rw rt fr L a b (Ct q) hL ha hb' (hrt.2.1 q (by omega)).1) ⟨rfl, rfl⟩ ⟨Nat.le_of_ble_eq_true rfl, Nat.le_of_ble_eq_true rfl⟩ (preR_V hP hk hs [0] rfl 0 rfl rfl) (rest := []) rfl hl.1 rfl (Nat.le_of_ble_eq_true rfl) d_CI_nearest_48 ⟨Nat.le_refl _, Nat.le_refl _⟩)) (fun r2 hr2 => ?_)
        subst hr2
        refine lv_lstore hx hb d_CI_nearest_51 hl (by decide) rfl (fun ls hl => ?_)
        have hl : lv_has ls 10 [(8, .long (lN (dq L a b (Ct q)))), (7, .int (nI (Ct q))), (6, .int (nI q)), (4, .long dd), (3, .int bb), (1, .int (nI a)), (2, .int (nI b)), (0, .ref o)] := hl
        refine lv_iload_n hx hb d_CI_nearest_53 rfl (lv_at hl 4 rfl) ?_
        refine lv_iconst (v := (-1)) hx hb d_CI_nearest_54 (by decide) ?_
        refine lv_icmp_eq hx hb d_CI_nearest_55 (tgt := 66) (by decide) (fun h55 => ?_) (fun h55 => ?_)
        · refine lv_iload hx hb d_CI_nearest_66 (lv_at hl 1 rfl) ?_
          refine lv_istore_n hx hb d_CI_nearest_68 rfl hl (by decide) rfl (fun ls hl => ?_)
          have hl : lv_has ls 10 [(3, .int (nI (Ct q))), (8, .long (lN (dq L a b (Ct q)))), (7, .int (nI (Ct q))), (6, .int (nI q)), (4, .long dd), (1, .int (nI a)), (2, .int (nI b)), (0, .ref o)] := hl
          refine lv_lload hx hb d_CI_nearest_69 (lv_at hl 1 rfl) ?_
          refine lv_lstore hx hb d_CI_nearest_71 hl (by decide) rfl (fun ls hl => ?_)
          have hl : lv_has ls 10 [(4, .long (lN (dq L a b (Ct q)))), (3, .int (nI (Ct q))), (8, .long (lN (dq L a b (Ct q)))), (7, .int (nI (Ct q))), (6, .int (nI q)), (1, .int (nI a)), (2, .int (nI b)), (0, .ref o)] := hl
          refine lv_iinc (v := nI (q + 1)) hx hb d_CI_nearest_73 hl (k := 4) rfl (ii_p _ 1) (by decide) rfl (fun ls hl => ?_)
          have hl : lv_has ls 10 [(6, .int (nI (q + 1))), (4, .long (lN (dq L a b (Ct q)))), (3, .int (nI (Ct q))), (8, .long (lN (dq L a b (Ct q)))), (7, .int (nI (Ct q))), (1, .int (nI a)), (2, .int (nI b)), (0, .ref o)] := hl
          refine lv_goto hx hb d_CI_nearest_76 (tgt := 19) (by decide) ?_
          have hl := lv_sub hl [0, 1, 2, 5, 6, 7] rfl
          exact ih (q + 1) _ _ _ (by omega) hl (by omega) (by first | exact nrI_new hi (fun j _ => hCt j) h55 | exact nrI_lt hi (fun j hj => hdq j (by omega)) h55 (lg_lt_of h63) | exact nrI_ge hi (fun j hj => hdq j (by omega)) h55 ((lg_cmp_ge _ _).1 h63))
        · refine lv_lload hx hb d_CI_nearest_58 (lv_at hl 0 rfl) ?_
          refine lv_lload hx hb d_CI_nearest_60 (lv_at hl 3 rfl) ?_
          refine W.lcmp hx hb d_CI_nearest_62 ?_
          refine lv_if_ge hx hb d_CI_nearest_63 (tgt := 73) (by decide) (fun h63 => ?_) (fun h63 => ?_)
          · refine lv_iinc (v := nI (q + 1)) hx hb d_CI_nearest_73 hl (k := 2) rfl (ii_p _ 1) (by decide) rfl (fun ls hl => ?_)
            have hl : lv_has ls 10 [(6, .int (nI (q + 1))), (8, .long (lN (dq L a b (Ct q)))), (7, .int (nI (Ct q))), (4, .long dd), (3, .int bb), (1, .int (nI a)), (2, .int (nI b)), (0, .ref o)] := hl
            refine lv_goto hx hb d_CI_nearest_76 (tgt := 19) (by decide) ?_
            have hl := lv_sub hl [0, 3, 4, 5, 6, 7] rfl
            exact ih (q + 1) _ _ _ (by omega) hl (by omega) (by first | exact nrI_new hi (fun j _ => hCt j) h55 | exact nrI_lt hi (fun j hj => hdq j (by omega)) h55 (lg_lt_of h63) | exact nrI_ge hi (fun j hj => hdq j (by omega)) h55 ((lg_cmp_ge _ _).1 h63))
          · refine lv_iload hx hb d_CI_nearest_66 (lv_at hl 1 rfl) ?_
            refine lv_istore_n hx hb d_CI_nearest_68 rfl hl (by decide) rfl (fun ls hl => ?_)
            have hl : lv_has ls 10 [(3, .int (nI (Ct q))), (8, .long (lN (dq L a b (Ct q)))), (7, .int (nI (Ct q))), (6, .int (nI q)), (4, .long dd), (1, .int (nI a)), (2, .int (nI b)), (0, .ref o)] := hl
            refine lv_lload hx hb d_CI_nearest_69 (lv_at hl 1 rfl) ?_
            refine lv_lstore hx hb d_CI_nearest_71 hl (by decide) rfl (fun ls hl => ?_)
            have hl : lv_has ls 10 [(4, .long (lN (dq L a b (Ct q)))), (3, .int (nI (Ct q))), (8, .long (lN (dq L a b (Ct q)))), (7, .int (nI (Ct q))), (6, .int (nI q)), (1, .int (nI a)), (2, .int (nI b)), (0, .ref o)] := hl
            refine lv_iinc (v := nI (q + 1)) hx hb d_CI_nearest_73 hl (k := 4) rfl (ii_p _ 1) (by decide) rfl (fun ls hl => ?_)
            have hl : lv_has ls 10 [(6, .int (nI (q + 1))), (4, .long (lN (dq L a b (Ct q)))), (3, .int (nI (Ct q))), (8, .long (lN (dq L a b (Ct q)))), (7, .int (nI (Ct q))), (1, .int (nI a)), (2, .int (nI b)), (0, .ref o)] := hl
            refine lv_goto hx hb d_CI_nearest_76 (tgt := 19) (by decide) ?_
            have hl := lv_sub hl [0, 1, 2, 5, 6, 7] rfl
            exact ih (q + 1) _ _ _ (by omega) hl (by omega) (by first | exact nrI_new hi (fun j _ => hCt j) h55 | exact nrI_lt hi (fun j hj => hdq j (by omega)) h55 (lg_lt_of h63) | exact nrI_ge hi (fun j hj => hdq j (by omega)) h55 ((lg_cmp_ge _ _).1 h63))
  · refine lv_if_ne hx hb d_CI_nearest_6 (tgt := 11) (by decide) (fun h => absurd rfl h) (fun _ => ?_)
    refine lv_iconst (v := (-1)) hx hb d_CI_nearest_9 (by decide) ?_
    exact hret _ _ _ rfl (Or.inr ⟨q1, rfl⟩) d_CI_nearest_10
