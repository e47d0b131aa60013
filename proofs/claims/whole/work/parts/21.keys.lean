/-! keys and cells of the class (laid by gen/m2.py) -/
set_option maxHeartbeats 4000000 in
set_option maxRecDepth 100000 in
theorem c_CI_keyOf (la : Launch) (G : gG) (o rw rt fr L : Nat) (cu x y : Nat) (hL : L ≤ 15) (hL1 : 1 ≤ L) (hcu : cu < 2) (hx' : x < 2 ^ L) (hy' : y < 2 ^ L) : MetR la y_CI_keyOf b_CI_keyOf 9 .int 1 20 [.ref o, .int (nI cu), .int (nI x), .int (nI y)] G [(o, .inr (0, [.ref rw, .ref rt, .int (nI L), .ref fr]))] (fun r => r = nI (kk cu L x y)) := by
  refine MetR.mk (by decide +kernel) (Nat.le_of_ble_eq_true rfl) ?_
  intro p e s m below meth c Q ls S hP hk hs hret hl
  have hx := S.1
  have hb := S.2.1
  have hp := p2_15 hL
  have hl : lv_has ls 9 [(0, .ref o), (1, .int (nI cu)), (2, .int (nI x)), (3, .int (nI y))] := hl
  refine lv_iload_n hx hb d_CI_keyOf_0 rfl (lv_at hl 1 rfl) ?_
  refine vp_callSi (va_Run.run (run_S S v_CI_117 (c_CI_firstState la G cu hcu) ⟨rfl, rfl⟩ ⟨Nat.le_of_ble_eq_true rfl, Nat.le_of_ble_eq_true rfl⟩ (preR_S hP hk hs [] rfl) (rest := []) rfl hl.1 rfl (Nat.le_of_ble_eq_true rfl) d_CI_keyOf_1 ⟨Nat.le_refl _, Nat.le_refl _⟩)) (fun r1 hr1 => ?_)
  subst hr1
  refine lv_istore hx hb d_CI_keyOf_4 hl (by decide) rfl (fun ls hl => ?_)
  have hl : lv_has ls 9 [(4, .int (nI (st0 cu))), (0, .ref o), (1, .int (nI cu)), (2, .int (nI x)), (3, .int (nI y))] := hl
  refine lv_iconst (v := nI 0) hx hb d_CI_keyOf_6 (by decide) ?_
  refine lv_istore hx hb d_CI_keyOf_7 hl (by decide) rfl (fun ls hl => ?_)
  have hl : lv_has ls 9 [(5, .int (nI 0)), (4, .int (nI (st0 cu))), (0, .ref o), (1, .int (nI cu)), (2, .int (nI x)), (3, .int (nI y))] := hl
  refine lv_aload_n hx hb d_CI_keyOf_9 rfl (lv_at hl 2 rfl) ?_
  refine y_get S hk hP 0 rfl f_CI_19 rfl d_CI_keyOf_10 ?_
  refine lv_iconst (v := nI 1) hx hb d_CI_keyOf_13 (by decide) ?_
  refine x_isub hx hb d_CI_keyOf_14 (by omega) ?_
  refine lv_istore hx hb d_CI_keyOf_15 hl (by decide) rfl (fun ls hl => ?_)
  have hl : lv_has ls 9 [(6, .int (nI (L - 1))), (5, .int (nI 0)), (4, .int (nI (st0 cu))), (0, .ref o), (1, .int (nI cu)), (2, .int (nI x)), (3, .int (nI y))] := hl
  have hl := lv_sub hl [0, 1, 2, 3, 4, 5, 6] rfl
  have hl : lv_has ls 9 [(6, .int (nI (L - 1))), (5, .int (nI 0)), (4, .int (nI (st0 cu))), (0, .ref o), (1, .int (nI cu)), (2, .int (nI x)), (3, .int (nI y))] := hl
  rw [oI_pr (by omega)] at hl
  refine (?_ : ∀ (l k st : Nat) (ls : Array Slot), l ≤ L → st < 5 → lv_has ls 9 [(6, .int (oI l)), (5, .int (nI k)), (4, .int (nI st)), (0, .ref o), (1, .int (nI cu)), (2, .int (nI x)), (3, .int (nI y))] → ck l st k x y = kk cu L x y → W p la e _ s m _ below meth c s.heap [] 0 0 Q (F0 m 17 ls [])) L 0 (st0 cu) ls (Nat.le_refl _) (st0_lt cu) hl (ck_kk hcu hx' hy')
  intro l
  induction l with
  | zero =>
    intro k st ls hl' hst hl hg
    have hl : lv_has ls 9 [(6, .int (-1)), (5, .int (nI k)), (4, .int (nI st)), (0, .ref o), (1, .int (nI cu)), (2, .int (nI x)), (3, .int (nI y))] := hl
    refine lv_iload hx hb d_CI_keyOf_17 (lv_at hl 0 rfl) ?_
    refine lv_if_lt hx hb d_CI_keyOf_19 (tgt := 80) (by decide) (fun _ => ?_) (fun h => absurd (by decide) h)
    refine lv_iload hx hb d_CI_keyOf_80 (lv_at hl 1 rfl) ?_
    exact hret _ _ _ rfl (congrArg nI hg) d_CI_keyOf_82
  | succ l ih =>
    intro k st ls hl' hst hl hg
    have b1 : x / 2 ^ l % 2 < 2 := Nat.mod_lt _ (by omega)
    have b2 : y / 2 ^ l % 2 < 2 := Nat.mod_lt _ (by omega)
    have b3 : x / 2 ^ l ≤ x := Nat.div_le_self _ _
    have b4 : y / 2 ^ l ≤ y := Nat.div_le_self _ _
    have b5 := tSQ_lt (4 * st + (2 * (x / 2 ^ l % 2) + y / 2 ^ l % 2)) (by omega)
    have hl : lv_has ls 9 [(6, .int (nI l)), (5, .int (nI k)), (4, .int (nI st)), (0, .ref o), (1, .int (nI cu)), (2, .int (nI x)), (3, .int (nI y))] := hl
    refine lv_iload hx hb d_CI_keyOf_17 (lv_at hl 0 rfl) ?_
    refine lv_if_lt hx hb d_CI_keyOf_19 (tgt := 80) (by decide) (fun h => absurd h (nI_pos (by omega))) (fun _ => ?_)
    refine lv_iconst (v := nI 2) hx hb d_CI_keyOf_22 (by decide) ?_
    refine lv_iload_n hx hb d_CI_keyOf_23 rfl (lv_at hl 5 rfl) ?_
    refine lv_iload hx hb d_CI_keyOf_24 (lv_at hl 0 rfl) ?_
    refine x_ishr hx hb d_CI_keyOf_26 (by omega) (by omega) ?_
    refine lv_iconst (v := nI 1) hx hb d_CI_keyOf_27 (by decide) ?_
    refine x_iand1 hx hb d_CI_keyOf_28 (by omega) ?_
    refine x_imul hx hb d_CI_keyOf_29 ?_
    refine lv_iload_n hx hb d_CI_keyOf_30 rfl (lv_at hl 6 rfl) ?_
    refine lv_iload hx hb d_CI_keyOf_31 (lv_at hl 0 rfl) ?_
    refine x_ishr hx hb d_CI_keyOf_33 (by omega) (by omega) ?_
    refine lv_iconst (v := nI 1) hx hb d_CI_keyOf_34 (by decide) ?_
    refine x_iand1 hx hb d_CI_keyOf_35 (by omega) ?_
    refine x_iadd hx hb d_CI_keyOf_36 ?_
    refine lv_istore hx hb d_CI_keyOf_37 hl (by decide) rfl (fun ls hl => ?_)
    have hl : lv_has ls 9 [(7, .int (nI ((2 * ((x / 2 ^ l) % 2)) + ((y / 2 ^ l) % 2)))), (6, .int (nI l)), (5, .int (nI k)), (4, .int (nI st)), (0, .ref o), (1, .int (nI cu)), (2, .int (nI x)), (3, .int (nI y))] := hl
    refine y_gets S hs.1 va_S.rf s_CI_120 d_CI_keyOf_39 ?_
    refine lv_iconst (v := nI 4) hx hb d_CI_keyOf_42 (by decide) ?_
    refine lv_iload hx hb d_CI_keyOf_43 (lv_at hl 3 rfl) ?_
    refine x_imul hx hb d_CI_keyOf_45 ?_
    refine lv_iload hx hb d_CI_keyOf_46 (lv_at hl 0 rfl) ?_
    refine x_iadd hx hb d_CI_keyOf_48 ?_
    refine y_ti hx hb hs.1 va_S.rf (by omega) d_CI_keyOf_49 ?_
    refine lv_istore hx hb d_CI_keyOf_50 hl (by decide) rfl (fun ls hl => ?_)
    have hl : lv_has ls 9 [(8, .int (nI (tSQ ((4 * st) + ((2 * ((x / 2 ^ l) % 2)) + ((y / 2 ^ l) % 2)))))), (7, .int (nI ((2 * ((x / 2 ^ l) % 2)) + ((y / 2 ^ l) % 2)))), (6, .int (nI l)), (5, .int (nI k)), (4, .int (nI st)), (0, .ref o), (1, .int (nI cu)), (2, .int (nI x)), (3, .int (nI y))] := hl
    refine lv_iconst (v := nI 4) hx hb d_CI_keyOf_52 (by decide) ?_
    refine lv_iload hx hb d_CI_keyOf_53 (lv_at hl 3 rfl) ?_
    refine x_imul hx hb d_CI_keyOf_55 ?_
    refine lv_iload hx hb d_CI_keyOf_56 (lv_at hl 0 rfl) ?_
    refine x_iadd hx hb d_CI_keyOf_58 ?_
    refine lv_istore hx hb d_CI_keyOf_59 hl (by decide) rfl (fun ls hl => ?_)
    have hl : lv_has ls 9 [(5, .int (nI ((4 * k) + (tSQ ((4 * st) + ((2 * ((x / 2 ^ l) % 2)) + ((y / 2 ^ l) % 2))))))), (8, .int (nI (tSQ ((4 * st) + ((2 * ((x / 2 ^ l) % 2)) + ((y / 2 ^ l) % 2)))))), (7, .int (nI ((2 * ((x / 2 ^ l) % 2)) + ((y / 2 ^ l) % 2)))), (6, .int (nI l)), (4, .int (nI st)), (0, .ref o), (1, .int (nI cu)), (2, .int (nI x)), (3, .int (nI y))] := hl
    refine y_gets S hs.2.2 va_S.rf s_CI_123 d_CI_keyOf_61 ?_
    refine lv_iconst (v := nI 4) hx hb d_CI_keyOf_64 (by decide) ?_
    refine lv_iload hx hb d_CI_keyOf_65 (lv_at hl 4 rfl) ?_
    refine x_imul hx hb d_CI_keyOf_67 ?_
    refine lv_iload hx hb d_CI_keyOf_68 (lv_at hl 1 rfl) ?_
    refine x_iadd hx hb d_CI_keyOf_70 ?_
    refine y_ti hx hb hs.2.2 va_S.rf (by omega) d_CI_keyOf_71 ?_
    refine lv_istore hx hb d_CI_keyOf_72 hl (by decide) rfl (fun ls hl => ?_)
    have hl : lv_has ls 9 [(4, .int (nI (tSS ((4 * st) + (tSQ ((4 * st) + ((2 * ((x / 2 ^ l) % 2)) + ((y / 2 ^ l) % 2)))))))), (5, .int (nI ((4 * k) + (tSQ ((4 * st) + ((2 * ((x / 2 ^ l) % 2)) + ((y / 2 ^ l) % 2))))))), (8, .int (nI (tSQ ((4 * st) + ((2 * ((x / 2 ^ l) % 2)) + ((y / 2 ^ l) % 2)))))), (7, .int (nI ((2 * ((x / 2 ^ l) % 2)) + ((y / 2 ^ l) % 2)))), (6, .int (nI l)), (0, .ref o), (1, .int (nI cu)), (2, .int (nI x)), (3, .int (nI y))] := hl
    refine lv_iinc (v := oI l) hx hb d_CI_keyOf_74 hl (k := 4) rfl (ii_m _) (by decide) rfl (fun ls hl => ?_)
    have hl : lv_has ls 9 [(6, .int (oI l)), (4, .int (nI (tSS ((4 * st) + (tSQ ((4 * st) + ((2 * ((x / 2 ^ l) % 2)) + ((y / 2 ^ l) % 2)))))))), (5, .int (nI ((4 * k) + (tSQ ((4 * st) + ((2 * ((x / 2 ^ l) % 2)) + ((y / 2 ^ l) % 2))))))), (8, .int (nI (tSQ ((4 * st) + ((2 * ((x / 2 ^ l) % 2)) + ((y / 2 ^ l) % 2)))))), (7, .int (nI ((2 * ((x / 2 ^ l) % 2)) + ((y / 2 ^ l) % 2)))), (0, .ref o), (1, .int (nI cu)), (2, .int (nI x)), (3, .int (nI y))] := hl
    refine lv_goto hx hb d_CI_keyOf_77 (tgt := 17) (by decide) ?_
    have hl := lv_sub hl [0, 2, 1, 5, 6, 7, 8] rfl
    exact ih _ _ _ (by omega) (tSS_lt _ (by omega)) hl hg
set_option maxHeartbeats 4000000 in
set_option maxRecDepth 100000 in
theorem c_CI_cellOf (la : Launch) (G : gG) (o rw rt fr L : Nat) (cu k : Nat) (hL : L ≤ 15) (hL1 : 1 ≤ L) (hcu : cu < 2) (hk' : k < 2 ^ L * 2 ^ L) : MetR la y_CI_cellOf b_CI_cellOf 9 .int 1 22 [.ref o, .int (nI cu), .int (nI k)] G [(o, .inr (0, [.ref rw, .ref rt, .int (nI L), .ref fr]))] (fun r => r = nI ((kc cu L k).1 * 2 ^ L + (kc cu L k).2)) := by
  refine MetR.mk (by decide +kernel) (Nat.le_of_ble_eq_true rfl) ?_
  intro p e s m below meth c Q ls S hP hk hs hret hl
  have hx := S.1
  have hb := S.2.1
  have hp := p2_15 hL
  have hp4 := p4_15 hL
  have hl : lv_has ls 9 [(0, .ref o), (1, .int (nI cu)), (2, .int (nI k))] := hl
  refine lv_iload_n hx hb d_CI_cellOf_0 rfl (lv_at hl 1 rfl) ?_
  refine vp_callSi (va_Run.run (run_S S v_CI_117 (c_CI_firstState la G cu hcu) ⟨rfl, rfl⟩ ⟨Nat.le_of_ble_eq_true rfl, Nat.le_of_ble_eq_true rfl⟩ (preR_S hP hk hs [] rfl) (rest := []) rfl hl.1 rfl (Nat.le_of_ble_eq_true rfl) d_CI_cellOf_1 ⟨Nat.le_refl _, Nat.le_refl _⟩)) (fun r1 hr1 => ?_)
  subst hr1
  refine lv_istore_n hx hb d_CI_cellOf_4 rfl hl (by decide) rfl (fun ls hl => ?_)
  have hl : lv_has ls 9 [(3, .int (nI (st0 cu))), (0, .ref o), (1, .int (nI cu)), (2, .int (nI k))] := hl
  refine lv_iconst (v := nI 0) hx hb d_CI_cellOf_5 (by decide) ?_
  refine lv_istore hx hb d_CI_cellOf_6 hl (by decide) rfl (fun ls hl => ?_)
  have hl : lv_has ls 9 [(4, .int (nI 0)), (3, .int (nI (st0 cu))), (0, .ref o), (1, .int (nI cu)), (2, .int (nI k))] := hl
  refine lv_iconst (v := nI 0) hx hb d_CI_cellOf_8 (by decide) ?_
  refine lv_istore hx hb d_CI_cellOf_9 hl (by decide) rfl (fun ls hl => ?_)
  have hl : lv_has ls 9 [(5, .int (nI 0)), (4, .int (nI 0)), (3, .int (nI (st0 cu))), (0, .ref o), (1, .int (nI cu)), (2, .int (nI k))] := hl
  refine lv_aload_n hx hb d_CI_cellOf_11 rfl (lv_at hl 3 rfl) ?_
  refine y_get S hk hP 0 rfl f_CI_19 rfl d_CI_cellOf_12 ?_
  refine lv_iconst (v := nI 1) hx hb d_CI_cellOf_15 (by decide) ?_
  refine x_isub hx hb d_CI_cellOf_16 (by omega) ?_
  refine lv_istore hx hb d_CI_cellOf_17 hl (by decide) rfl (fun ls hl => ?_)
  have hl : lv_has ls 9 [(6, .int (nI (L - 1))), (5, .int (nI 0)), (4, .int (nI 0)), (3, .int (nI (st0 cu))), (0, .ref o), (1, .int (nI cu)), (2, .int (nI k))] := hl
  have hl : lv_has ls 9 [(6, .int (nI (L - 1))), (5, .int (nI 0)), (4, .int (nI 0)), (3, .int (nI (st0 cu))), (0, .ref o), (1, .int (nI cu)), (2, .int (nI k))] := hl
  rw [oI_pr (by omega)] at hl
  refine (?_ : ∀ (l x y st : Nat) (ls : Array Slot), l ≤ L → st < 5 → lv_has ls 9 [(6, .int (oI l)), (5, .int (nI y)), (4, .int (nI x)), (3, .int (nI st)), (0, .ref o), (1, .int (nI cu)), (2, .int (nI k))] → cw l st x y k = kc cu L k → W p la e _ s m _ below meth c s.heap [] 0 0 Q (F0 m 19 ls [])) L 0 0 (st0 cu) ls (Nat.le_refl _) (st0_lt cu) hl (by rw [cw_eq _ _ _ _ _ (st0_lt cu), cs_kc hcu, Nat.mul_zero, Nat.zero_add, Nat.zero_add])
  intro l
  induction l with
  | zero =>
    intro x y st ls hl' hst hl hg
    have hg : (x, y) = kc cu L k := hg
    have hkl := kc_lt (cu := cu) (N := L) (k := k)
    rw [← hg] at hkl
    have hl : lv_has ls 9 [(6, .int (-1)), (5, .int (nI y)), (4, .int (nI x)), (3, .int (nI st)), (0, .ref o), (1, .int (nI cu)), (2, .int (nI k))] := hl
    refine lv_iload hx hb d_CI_cellOf_19 (lv_at hl 0 rfl) ?_
    refine lv_if_lt hx hb d_CI_cellOf_21 (tgt := 85) (by decide) (fun _ => ?_) (fun h => absurd (by decide) h)
    refine lv_aload_n hx hb d_CI_cellOf_85 rfl (lv_at hl 4 rfl) ?_
    refine lv_iload hx hb d_CI_cellOf_86 (lv_at hl 2 rfl) ?_
    refine lv_iload hx hb d_CI_cellOf_88 (lv_at hl 1 rfl) ?_
    refine vp_callSi (va_Run.run (run_V S v_CI_62 (c_CI_cellNumber la G o rw rt fr L x y hL hkl.1) ⟨rfl, rfl⟩ ⟨Nat.le_of_ble_eq_true rfl, Nat.le_of_ble_eq_true rfl⟩ (preR_V hP hk hs [0] rfl 0 rfl rfl) (rest := []) rfl hl.1 rfl (Nat.le_of_ble_eq_true rfl) d_CI_cellOf_90 ⟨Nat.le_refl _, Nat.le_refl _⟩)) (fun r2 hr2 => ?_)
    subst hr2
    exact hret _ _ _ rfl (by rw [← hg]) d_CI_cellOf_93
  | succ l ih =>
    intro x y st ls hl' hst hl hg
    have e22 := p22 l
    have b3 : k / 2 ^ (2 * l) ≤ k := Nat.div_le_self _ _
    have b5 : tQS (4 * st + k / 2 ^ (2 * l) % 4) < 4 := tQS_lt _ (by omega)
    have hl : lv_has ls 9 [(6, .int (nI l)), (5, .int (nI y)), (4, .int (nI x)), (3, .int (nI st)), (0, .ref o), (1, .int (nI cu)), (2, .int (nI k))] := hl
    refine lv_iload hx hb d_CI_cellOf_19 (lv_at hl 0 rfl) ?_
    refine lv_if_lt hx hb d_CI_cellOf_21 (tgt := 85) (by decide) (fun h => absurd h (nI_pos (by omega))) (fun _ => ?_)
    refine lv_iload_n hx hb d_CI_cellOf_24 rfl (lv_at hl 6 rfl) ?_
    refine lv_iconst (v := nI 2) hx hb d_CI_cellOf_25 (by decide) ?_
    refine lv_iload hx hb d_CI_cellOf_26 (lv_at hl 0 rfl) ?_
    refine x_imul hx hb d_CI_cellOf_28 ?_
    refine x_ishr hx hb d_CI_cellOf_29 (by omega) (by omega) ?_
    refine lv_iconst (v := nI 3) hx hb d_CI_cellOf_30 (by decide) ?_
    refine x_iand3 hx hb d_CI_cellOf_31 (by omega) ?_
    refine lv_istore hx hb d_CI_cellOf_32 hl (by decide) rfl (fun ls hl => ?_)
    have hl : lv_has ls 9 [(7, .int (nI ((k / 2 ^ (2 * l)) % 4))), (6, .int (nI l)), (5, .int (nI y)), (4, .int (nI x)), (3, .int (nI st)), (0, .ref o), (1, .int (nI cu)), (2, .int (nI k))] := hl
    refine y_gets S hs.2.1 va_S.rf s_CI_126 d_CI_cellOf_34 ?_
    refine lv_iconst (v := nI 4) hx hb d_CI_cellOf_37 (by decide) ?_
    refine lv_iload_n hx hb d_CI_cellOf_38 rfl (lv_at hl 4 rfl) ?_
    refine x_imul hx hb d_CI_cellOf_39 ?_
    refine lv_iload hx hb d_CI_cellOf_40 (lv_at hl 0 rfl) ?_
    refine x_iadd hx hb d_CI_cellOf_42 ?_
    refine y_ti hx hb hs.2.1 va_S.rf (by omega) d_CI_cellOf_43 ?_
    refine lv_istore hx hb d_CI_cellOf_44 hl (by decide) rfl (fun ls hl => ?_)
    have hl : lv_has ls 9 [(8, .int (nI (tQS ((4 * st) + ((k / 2 ^ (2 * l)) % 4))))), (7, .int (nI ((k / 2 ^ (2 * l)) % 4))), (6, .int (nI l)), (5, .int (nI y)), (4, .int (nI x)), (3, .int (nI st)), (0, .ref o), (1, .int (nI cu)), (2, .int (nI k))] := hl
    refine lv_iconst (v := nI 2) hx hb d_CI_cellOf_46 (by decide) ?_
    refine lv_iload hx hb d_CI_cellOf_47 (lv_at hl 4 rfl) ?_
    refine x_imul hx hb d_CI_cellOf_49 ?_
    refine lv_iload hx hb d_CI_cellOf_50 (lv_at hl 0 rfl) ?_
    refine lv_iconst (v := nI 1) hx hb d_CI_cellOf_52 (by decide) ?_
    refine x_ishr hx hb d_CI_cellOf_53 (by omega) (by omega) ?_
    refine x_iadd hx hb d_CI_cellOf_54 ?_
    refine lv_istore hx hb d_CI_cellOf_55 hl (by decide) rfl (fun ls hl => ?_)
    have hl : lv_has ls 9 [(4, .int (nI ((2 * x) + ((tQS ((4 * st) + ((k / 2 ^ (2 * l)) % 4))) / 2 ^ 1)))), (8, .int (nI (tQS ((4 * st) + ((k / 2 ^ (2 * l)) % 4))))), (7, .int (nI ((k / 2 ^ (2 * l)) % 4))), (6, .int (nI l)), (5, .int (nI y)), (3, .int (nI st)), (0, .ref o), (1, .int (nI cu)), (2, .int (nI k))] := hl
    refine lv_iconst (v := nI 2) hx hb d_CI_cellOf_57 (by decide) ?_
    refine lv_iload hx hb d_CI_cellOf_58 (lv_at hl 4 rfl) ?_
    refine x_imul hx hb d_CI_cellOf_60 ?_
    refine lv_iload hx hb d_CI_cellOf_61 (lv_at hl 1 rfl) ?_
    refine lv_iconst (v := nI 1) hx hb d_CI_cellOf_63 (by decide) ?_
    refine x_iand1 hx hb d_CI_cellOf_64 (by omega) ?_
    refine x_iadd hx hb d_CI_cellOf_65 ?_
    refine lv_istore hx hb d_CI_cellOf_66 hl (by decide) rfl (fun ls hl => ?_)
    have hl : lv_has ls 9 [(5, .int (nI ((2 * y) + ((tQS ((4 * st) + ((k / 2 ^ (2 * l)) % 4))) % 2)))), (4, .int (nI ((2 * x) + ((tQS ((4 * st) + ((k / 2 ^ (2 * l)) % 4))) / 2 ^ 1)))), (8, .int (nI (tQS ((4 * st) + ((k / 2 ^ (2 * l)) % 4))))), (7, .int (nI ((k / 2 ^ (2 * l)) % 4))), (6, .int (nI l)), (3, .int (nI st)), (0, .ref o), (1, .int (nI cu)), (2, .int (nI k))] := hl
    refine y_gets S hs.2.2 va_S.rf s_CI_123 d_CI_cellOf_68 ?_
    refine lv_iconst (v := nI 4) hx hb d_CI_cellOf_71 (by decide) ?_
    refine lv_iload_n hx hb d_CI_cellOf_72 rfl (lv_at hl 5 rfl) ?_
    refine x_imul hx hb d_CI_cellOf_73 ?_
    refine lv_iload hx hb d_CI_cellOf_74 (lv_at hl 3 rfl) ?_
    refine x_iadd hx hb d_CI_cellOf_76 ?_
    refine y_ti hx hb hs.2.2 va_S.rf (by omega) d_CI_cellOf_77 ?_
    refine lv_istore_n hx hb d_CI_cellOf_78 rfl hl (by decide) rfl (fun ls hl => ?_)
    have hl : lv_has ls 9 [(3, .int (nI (tSS ((4 * st) + ((k / 2 ^ (2 * l)) % 4))))), (5, .int (nI ((2 * y) + ((tQS ((4 * st) + ((k / 2 ^ (2 * l)) % 4))) % 2)))), (4, .int (nI ((2 * x) + ((tQS ((4 * st) + ((k / 2 ^ (2 * l)) % 4))) / 2 ^ 1)))), (8, .int (nI (tQS ((4 * st) + ((k / 2 ^ (2 * l)) % 4))))), (7, .int (nI ((k / 2 ^ (2 * l)) % 4))), (6, .int (nI l)), (0, .ref o), (1, .int (nI cu)), (2, .int (nI k))] := hl
    refine lv_iinc (v := oI l) hx hb d_CI_cellOf_79 hl (k := 5) rfl (ii_m _) (by decide) rfl (fun ls hl => ?_)
    have hl : lv_has ls 9 [(6, .int (oI l)), (3, .int (nI (tSS ((4 * st) + ((k / 2 ^ (2 * l)) % 4))))), (5, .int (nI ((2 * y) + ((tQS ((4 * st) + ((k / 2 ^ (2 * l)) % 4))) % 2)))), (4, .int (nI ((2 * x) + ((tQS ((4 * st) + ((k / 2 ^ (2 * l)) % 4))) / 2 ^ 1)))), (8, .int (nI (tQS ((4 * st) + ((k / 2 ^ (2 * l)) % 4))))), (7, .int (nI ((k / 2 ^ (2 * l)) % 4))), (0, .ref o), (1, .int (nI cu)), (2, .int (nI k))] := hl
    refine lv_goto hx hb d_CI_cellOf_82 (tgt := 19) (by decide) ?_
    have hl := lv_sub hl [0, 2, 3, 1, 6, 7, 8] rfl
    exact ih _ _ _ _ (by omega) (tSS_lt _ (by omega)) hl (by rw [e22, Nat.pow_one]; exact hg)
set_option maxHeartbeats 4000000 in
set_option maxRecDepth 100000 in
theorem c_CI_hasRuns (la : Launch) (G : gG) (o rw rt fr L : Nat) (x0 y0 x1 y1 : Nat) (x : Int32) (h0 : x0 < 32768) (h1 : y0 < 32768) (h2 : x1 < 32768) (h3 : y1 < 32768) (hx' : x0 ≤ x1) (hy' : y0 ≤ y1) : MetR la y_CI_hasRuns b_CI_hasRuns 2 .boolean 1 20 [.ref o, .int x] G [(o, .inr (0, [.ref rw, .ref rt, .int (nI L), .ref fr])), (fr, .inr (2, [.int (nI x0), .int (nI y0), .int (nI x1), .int (nI y1)]))] (fun r => (r = 1 ∧ cuO x ∧ (x1 - x0 + 1) * (y1 - y0 + 1) ≤ 4096) ∨ (r = 0 ∧ ¬ (cuO x ∧ (x1 - x0 + 1) * (y1 - y0 + 1) ≤ 4096))) := by
  refine MetR.mk (by decide +kernel) (Nat.le_of_ble_eq_true rfl) ?_
  intro p e s m below meth c Q ls S hP hk hs hret hl
  have hx := S.1
  have hb := S.2.1
  have hm : (x1 - x0 + 1) * (y1 - y0 + 1) ≤ 32768 * 32768 := Nat.mul_le_mul (by omega) (by omega)
  have hl : lv_has ls 2 [(0, .ref o), (1, .int x)] := hl
  refine lv_iload_n hx hb d_CI_hasRuns_0 rfl (lv_at hl 1 rfl) ?_
  refine vp_callSi (va_Run.run (run_S S v_CI_35 (c_CI_isCurve la G x) ⟨rfl, rfl⟩ ⟨Nat.le_of_ble_eq_true rfl, Nat.le_of_ble_eq_true rfl⟩ (preR_S hP hk hs [] rfl) (rest := []) rfl hl.1 rfl (Nat.le_of_ble_eq_true rfl) d_CI_hasRuns_1 ⟨Nat.le_refl _, Nat.le_refl _⟩)) (fun r1 hr1 => ?_)
  rcases hr1 with ⟨rfl, q1⟩ | ⟨rfl, q1⟩
  · refine lv_if_eq hx hb d_CI_hasRuns_4 (tgt := 24) (by decide) (fun h => absurd h (by decide)) (fun _ => ?_)
    refine lv_aload_n hx hb d_CI_hasRuns_7 rfl (lv_at hl 0 rfl) ?_
    refine y_get S hk hP 0 rfl f_CI_28 rfl d_CI_hasRuns_8 ?_
    refine vp_callSi (va_Run.run (run_VN S hk v_CI_129 (c_Fr_cellCount la G fr x0 y0 x1 y1 (by omega) (by omega) (by omega) (by omega) hx' hy') ⟨rfl, rfl⟩ ⟨Nat.le_of_ble_eq_true rfl, Nat.le_of_ble_eq_true rfl⟩ (preR_V hP hk hs [1] rfl 1 rfl rfl) (rest := []) rfl hl.1 rfl (Nat.le_of_ble_eq_true rfl) d_CI_hasRuns_11 ⟨Nat.le_refl _, Nat.le_refl _⟩)) (fun r2 hr2 => ?_)
    subst hr2
    refine lv_sipush (v := nI 4096) hx hb d_CI_hasRuns_14 (by decide) ?_
    refine x_icmp_gt hx hb d_CI_hasRuns_17 (tgt := 24) (by decide) (by omega) (by omega) (fun h17 => ?_) (fun h17 => ?_)
    · refine lv_iconst (v := nI 0) hx hb d_CI_hasRuns_24 (by decide) ?_
      exact hret _ _ _ (by decide) (Or.inr ⟨by decide, by first | exact fun z => q1 z.1 | exact fun z => absurd z.2 (by omega)⟩) d_CI_hasRuns_25
    · refine lv_iconst (v := nI 1) hx hb d_CI_hasRuns_20 (by decide) ?_
      refine lv_goto hx hb d_CI_hasRuns_21 (tgt := 25) (by decide) ?_
      exact hret _ _ _ (by decide) (Or.inl ⟨by decide, q1, by omega⟩) d_CI_hasRuns_25
  · refine lv_if_eq hx hb d_CI_hasRuns_4 (tgt := 24) (by decide) (fun _ => ?_) (fun h => absurd (by decide) h)
    refine lv_iconst (v := nI 0) hx hb d_CI_hasRuns_24 (by decide) ?_
    exact hret _ _ _ (by decide) (Or.inr ⟨by decide, by first | exact fun z => q1 z.1 | exact fun z => absurd z.2 (by omega)⟩) d_CI_hasRuns_25
set_option maxHeartbeats 4000000 in
set_option maxRecDepth 100000 in
theorem c_CI_squaredDistance (la : Launch) (G : gG) (o rw rt fr L : Nat) (x y k : Nat) (hL : L ≤ 15) (hx' : x < 2 ^ L) (hy' : y < 2 ^ L) (hk' : k < 2 ^ L * 2 ^ L) : MetL la y_CI_squaredDistance b_CI_squaredDistance 8 1 21 [.ref o, .int (nI x), .int (nI y), .int (nI k)] G [(o, .inr (0, [.ref rw, .ref rt, .int (nI L), .ref fr]))] (fun r => r = lN (dq L x y k)) := by
  refine MetL.mk (by decide +kernel) (Nat.le_of_ble_eq_true rfl) ?_
  intro p e s m below meth c Q ls S hP hk hs hret hl
  have hx := S.1
  have hb := S.2.1
  have hp := p2_15 hL
  have hp4 := p4_15 hL
  obtain ⟨hc1, hc2⟩ := cl_of hk'
  have hl : lv_has ls 8 [(0, .ref o), (1, .int (nI x)), (2, .int (nI y)), (3, .int (nI k))] := hl
  refine lv_iload_n hx hb d_CI_squaredDistance_0 rfl (lv_at hl 1 rfl) ?_
  refine lv_aload_n hx hb d_CI_squaredDistance_1 rfl (lv_at hl 0 rfl) ?_
  refine lv_iload_n hx hb d_CI_squaredDistance_2 rfl (lv_at hl 3 rfl) ?_
  refine vp_callSi (va_Run.run (run_V S v_CI_108 (c_CI_xOf la G o rw rt fr L k hL (by omega)) ⟨rfl, rfl⟩ ⟨Nat.le_of_ble_eq_true rfl, Nat.le_of_ble_eq_true rfl⟩ (preR_V hP hk hs [0] rfl 0 rfl rfl) (rest := [.int (nI x)]) rfl hl.1 rfl (Nat.le_of_ble_eq_true rfl) d_CI_squaredDistance_3 ⟨Nat.le_refl _, Nat.le_refl _⟩)) (fun r1 hr1 => ?_)
  subst hr1
  refine lv_isub hx hb d_CI_squaredDistance_6 ?_
  refine lv_i2l hx hb d_CI_squaredDistance_7 rfl ?_
  refine lv_lstore hx hb d_CI_squaredDistance_8 hl (by decide) rfl (fun ls hl => ?_)
  have hl : lv_has ls 8 [(4, .long (((nI x) - (nI (k / 2 ^ L))).toInt64)), (0, .ref o), (1, .int (nI x)), (2, .int (nI y)), (3, .int (nI k))] := hl
  refine lv_iload_n hx hb d_CI_squaredDistance_10 rfl (lv_at hl 3 rfl) ?_
  refine lv_aload_n hx hb d_CI_squaredDistance_11 rfl (lv_at hl 1 rfl) ?_
  refine lv_iload_n hx hb d_CI_squaredDistance_12 rfl (lv_at hl 4 rfl) ?_
  refine vp_callSi (va_Run.run (run_V S v_CI_111 (c_CI_yOf la G o rw rt fr L k hL (by omega)) ⟨rfl, rfl⟩ ⟨Nat.le_of_ble_eq_true rfl, Nat.le_of_ble_eq_true rfl⟩ (preR_V hP hk hs [0] rfl 0 rfl rfl) (rest := [.int (nI y)]) rfl hl.1 rfl (Nat.le_of_ble_eq_true rfl) d_CI_squaredDistance_13 ⟨Nat.le_refl _, Nat.le_refl _⟩)) (fun r2 hr2 => ?_)
  subst hr2
  refine lv_isub hx hb d_CI_squaredDistance_16 ?_
  refine lv_i2l hx hb d_CI_squaredDistance_17 rfl ?_
  refine lv_lstore hx hb d_CI_squaredDistance_18 hl (by decide) rfl (fun ls hl => ?_)
  have hl : lv_has ls 8 [(6, .long (((nI y) - (nI (k % 2 ^ L))).toInt64)), (4, .long (((nI x) - (nI (k / 2 ^ L))).toInt64)), (0, .ref o), (1, .int (nI x)), (2, .int (nI y)), (3, .int (nI k))] := hl
  refine lv_lload hx hb d_CI_squaredDistance_20 (lv_at hl 1 rfl) ?_
  refine lv_lload hx hb d_CI_squaredDistance_22 (lv_at hl 1 rfl) ?_
  refine lv_lmul hx hb d_CI_squaredDistance_24 ?_
  refine lv_lload hx hb d_CI_squaredDistance_25 (lv_at hl 0 rfl) ?_
  refine lv_lload hx hb d_CI_squaredDistance_27 (lv_at hl 0 rfl) ?_
  refine lv_lmul hx hb d_CI_squaredDistance_29 ?_
  refine lv_ladd hx hb d_CI_squaredDistance_30 ?_
  exact hret _ _ _ (by rw [sqd_l (by omega) (by omega), sqd_l (by omega) (by omega), lN_add]; rfl) d_CI_squaredDistance_31
