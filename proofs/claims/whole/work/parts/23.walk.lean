/-! constructors, the walk over the window's keys (laid by gen/m4.py) -/
set_option maxHeartbeats 4000000 in
set_option maxRecDepth 100000 in
theorem c_Row_init (la : Launch) (G : gG) (ro : Nat)  : MetV la y_Row_init b_Row_init 1 1 12 3 1500 [.ref ro] G [(ro, .inr (1, [.null, .null, .null, .int (nI 0)]))] (S := Nat × Nat × Nat) (fun _ => True) (fun u => [(ro, .inr (1, [.ref u.1, .ref u.2.1, .ref u.2.2, .int (nI 0)])), (u.1, .inl (G.2.1, 500, .inl (fun zz => nI (zf zz)))), (u.2.1, .inl (G.2.1, 500, .inl (fun zz => nI (zf zz)))), (u.2.2, .inl (G.2.1, 500, .inl (fun zz => nI (zf zz))))]) := by
  refine MetV.mk (by decide +kernel) (Nat.le_of_ble_eq_true rfl) ?_
  intro p e s m below meth c Q A ls S hin hP hD hA hS hk hs hret hl
  have hx := S.1
  have hb := S.2.1
  have hP : va_P G.1 cls [(ro, .inr (1, [.null, .null, .null, .int (nI 0)]))] s.heap := hP
  have hD : va_D A [(ro, .inr (1, [.null, .null, .null, .int (nI 0)]))] := hD
  have hl : lv_has ls 1 [(0, .ref ro)] := hl
  refine lv_aload_n hx hb d_Row_init_0 rfl (lv_at hl 0 rfl) ?_
  refine y_oinit S hl.1 (wq 51 (by decide +kernel)) (wq 45 (by decide +kernel)) (wq 46 (by decide +kernel)) d_Row_init_1 (Nat.le_of_ble_eq_true rfl) (Nat.le_of_ble_eq_true rfl) ?_
  refine lv_aload_n hx hb d_Row_init_4 rfl (lv_at hl 0 rfl) ?_
  refine lv_sipush (v := nI 500) hx hb d_Row_init_5 (by decide) ?_
  refine y_newa S hk hP hD hA hS (wq 60 (by decide +kernel)) (by decide) (Nat.le_of_ble_eq_true rfl) (Nat.le_of_ble_eq_true rfl) d_Row_init_8 (fun q8 H hP hD hS => ?_)
  have hP : va_P G.1 cls [(ro, .inr (1, [.null, .null, .null, .int (nI 0)])), (q8, .inl (G.2.1, 500, .inl (fun zz => nI (zf zz))))] H := hP
  have hD : va_D A [(ro, .inr (1, [.null, .null, .null, .int (nI 0)])), (q8, .inl (G.2.1, 500, .inl (fun zz => nI (zf zz))))] := hD
  refine y_putF S hin hk hP hD hS 0 rfl f_Row_9 T_1 M_1_0 ⟨_, _, rfl⟩ rfl rfl (Nat.le_of_ble_eq_true rfl) d_Row_init_10 (fun H locs hP hD hS => ?_)
  have hP : va_P G.1 cls [(ro, .inr (1, [.ref q8, .null, .null, .int (nI 0)])), (q8, .inl (G.2.1, 500, .inl (fun zz => nI (zf zz))))] H := hP
  have hD : va_D A [(ro, .inr (1, [.ref q8, .null, .null, .int (nI 0)])), (q8, .inl (G.2.1, 500, .inl (fun zz => nI (zf zz))))] := hD
  refine lv_aload_n hx hb d_Row_init_13 rfl (lv_at hl 0 rfl) ?_
  refine lv_sipush (v := nI 500) hx hb d_Row_init_14 (by decide) ?_
  refine y_newa S hk hP hD hA hS (wq 60 (by decide +kernel)) (by decide) (Nat.le_of_ble_eq_true rfl) (Nat.le_of_ble_eq_true rfl) d_Row_init_17 (fun q17 H hP hD hS => ?_)
  have hP : va_P G.1 cls [(ro, .inr (1, [.ref q8, .null, .null, .int (nI 0)])), (q8, .inl (G.2.1, 500, .inl (fun zz => nI (zf zz)))), (q17, .inl (G.2.1, 500, .inl (fun zz => nI (zf zz))))] H := hP
  have hD : va_D A [(ro, .inr (1, [.ref q8, .null, .null, .int (nI 0)])), (q8, .inl (G.2.1, 500, .inl (fun zz => nI (zf zz)))), (q17, .inl (G.2.1, 500, .inl (fun zz => nI (zf zz))))] := hD
  refine y_putF S hin hk hP hD hS 0 rfl f_Row_15 T_1 M_1_1 ⟨_, _, rfl⟩ rfl rfl (Nat.le_of_ble_eq_true rfl) d_Row_init_19 (fun H locs hP hD hS => ?_)
  have hP : va_P G.1 cls [(ro, .inr (1, [.ref q8, .ref q17, .null, .int (nI 0)])), (q8, .inl (G.2.1, 500, .inl (fun zz => nI (zf zz)))), (q17, .inl (G.2.1, 500, .inl (fun zz => nI (zf zz))))] H := hP
  have hD : va_D A [(ro, .inr (1, [.ref q8, .ref q17, .null, .int (nI 0)])), (q8, .inl (G.2.1, 500, .inl (fun zz => nI (zf zz)))), (q17, .inl (G.2.1, 500, .inl (fun zz => nI (zf zz))))] := hD
  refine lv_aload_n hx hb d_Row_init_22 rfl (lv_at hl 0 rfl) ?_
  refine lv_sipush (v := nI 500) hx hb d_Row_init_23 (by decide) ?_
  refine y_newa S hk hP hD hA hS (wq 60 (by decide +kernel)) (by decide) (Nat.le_of_ble_eq_true rfl) (Nat.le_of_ble_eq_true rfl) d_Row_init_26 (fun q26 H hP hD hS => ?_)
  have hP : va_P G.1 cls [(ro, .inr (1, [.ref q8, .ref q17, .null, .int (nI 0)])), (q8, .inl (G.2.1, 500, .inl (fun zz => nI (zf zz)))), (q17, .inl (G.2.1, 500, .inl (fun zz => nI (zf zz)))), (q26, .inl (G.2.1, 500, .inl (fun zz => nI (zf zz))))] H := hP
  have hD : va_D A [(ro, .inr (1, [.ref q8, .ref q17, .null, .int (nI 0)])), (q8, .inl (G.2.1, 500, .inl (fun zz => nI (zf zz)))), (q17, .inl (G.2.1, 500, .inl (fun zz => nI (zf zz)))), (q26, .inl (G.2.1, 500, .inl (fun zz => nI (zf zz))))] := hD
  refine y_putF S hin hk hP hD hS 0 rfl f_Row_18 T_1 M_1_2 ⟨_, _, rfl⟩ rfl rfl (Nat.le_of_ble_eq_true rfl) d_Row_init_28 (fun H locs hP hD hS => ?_)
  have hP : va_P G.1 cls [(ro, .inr (1, [.ref q8, .ref q17, .ref q26, .int (nI 0)])), (q8, .inl (G.2.1, 500, .inl (fun zz => nI (zf zz)))), (q17, .inl (G.2.1, 500, .inl (fun zz => nI (zf zz)))), (q26, .inl (G.2.1, 500, .inl (fun zz => nI (zf zz))))] H := hP
  have hD : va_D A [(ro, .inr (1, [.ref q8, .ref q17, .ref q26, .int (nI 0)])), (q8, .inl (G.2.1, 500, .inl (fun zz => nI (zf zz)))), (q17, .inl (G.2.1, 500, .inl (fun zz => nI (zf zz)))), (q26, .inl (G.2.1, 500, .inl (fun zz => nI (zf zz))))] := hD
  refine lv_aload_n hx hb d_Row_init_31 rfl (lv_at hl 0 rfl) ?_
  refine lv_iconst (v := nI 0) hx hb d_Row_init_32 (by decide) ?_
  refine y_put S hk hP hD hS 0 rfl f_Row_21 T_1 M_1_3 rfl rfl (Nat.le_of_ble_eq_true rfl) d_Row_init_33 (fun H locs hP hD hS => ?_)
  have hP : va_P G.1 cls [(ro, .inr (1, [.ref q8, .ref q17, .ref q26, .int (nI 0)])), (q8, .inl (G.2.1, 500, .inl (fun zz => nI (zf zz)))), (q17, .inl (G.2.1, 500, .inl (fun zz => nI (zf zz)))), (q26, .inl (G.2.1, 500, .inl (fun zz => nI (zf zz))))] H := hP
  have hD : va_D A [(ro, .inr (1, [.ref q8, .ref q17, .ref q26, .int (nI 0)])), (q8, .inl (G.2.1, 500, .inl (fun zz => nI (zf zz)))), (q17, .inl (G.2.1, 500, .inl (fun zz => nI (zf zz)))), (q26, .inl (G.2.1, 500, .inl (fun zz => nI (zf zz))))] := hD
  exact hret _ _ (q8, q17, q26) _ _ (trivial) hP hD hS d_Row_init_36
set_option maxHeartbeats 4000000 in
set_option maxRecDepth 100000 in
theorem c_Fr_init (la : Launch) (G : gG) (fr x0 y0 x1 y1 : Nat)  : MetV la y_Fr_init b_Fr_init 5 1 12 0 0 [.ref fr, .int (nI x0), .int (nI y0), .int (nI x1), .int (nI y1)] G [(fr, .inr (2, [.int (nI 0), .int (nI 0), .int (nI 0), .int (nI 0)]))] (S := Unit) (fun _ => True) (fun _ => [(fr, .inr (2, [.int (nI x0), .int (nI y0), .int (nI x1), .int (nI y1)]))]) := by
  refine MetV.mk (by decide +kernel) (Nat.le_of_ble_eq_true rfl) ?_
  intro p e s m below meth c Q A ls S hin hP hD hA hS hk hs hret hl
  have hx := S.1
  have hb := S.2.1
  have hP : va_P G.1 cls [(fr, .inr (2, [.int (nI 0), .int (nI 0), .int (nI 0), .int (nI 0)]))] s.heap := hP
  have hD : va_D A [(fr, .inr (2, [.int (nI 0), .int (nI 0), .int (nI 0), .int (nI 0)]))] := hD
  have hl : lv_has ls 5 [(0, .ref fr), (1, .int (nI x0)), (2, .int (nI y0)), (3, .int (nI x1)), (4, .int (nI y1))] := hl
  refine lv_aload_n hx hb d_Fr_init_0 rfl (lv_at hl 0 rfl) ?_
  refine y_oinit S hl.1 (wq 65 (by decide +kernel)) (wq 45 (by decide +kernel)) (wq 46 (by decide +kernel)) d_Fr_init_1 (Nat.le_of_ble_eq_true rfl) (Nat.le_of_ble_eq_true rfl) ?_
  refine lv_aload_n hx hb d_Fr_init_4 rfl (lv_at hl 0 rfl) ?_
  refine lv_iload_n hx hb d_Fr_init_5 rfl (lv_at hl 1 rfl) ?_
  refine y_putF S hin hk hP hD hS 0 rfl f_Fr_7 T_2 M_2_0 ⟨_, _, rfl⟩ rfl rfl (Nat.le_of_ble_eq_true rfl) d_Fr_init_6 (fun H locs hP hD hS => ?_)
  have hP : va_P G.1 cls [(fr, .inr (2, [.int (nI x0), .int (nI 0), .int (nI 0), .int (nI 0)]))] H := hP
  have hD : va_D A [(fr, .inr (2, [.int (nI x0), .int (nI 0), .int (nI 0), .int (nI 0)]))] := hD
  refine lv_aload_n hx hb d_Fr_init_9 rfl (lv_at hl 0 rfl) ?_
  refine lv_iload_n hx hb d_Fr_init_10 rfl (lv_at hl 2 rfl) ?_
  refine y_putF S hin hk hP hD hS 0 rfl f_Fr_13 T_2 M_2_1 ⟨_, _, rfl⟩ rfl rfl (Nat.le_of_ble_eq_true rfl) d_Fr_init_11 (fun H locs hP hD hS => ?_)
  have hP : va_P G.1 cls [(fr, .inr (2, [.int (nI x0), .int (nI y0), .int (nI 0), .int (nI 0)]))] H := hP
  have hD : va_D A [(fr, .inr (2, [.int (nI x0), .int (nI y0), .int (nI 0), .int (nI 0)]))] := hD
  refine lv_aload_n hx hb d_Fr_init_14 rfl (lv_at hl 0 rfl) ?_
  refine lv_iload_n hx hb d_Fr_init_15 rfl (lv_at hl 3 rfl) ?_
  refine y_putF S hin hk hP hD hS 0 rfl f_Fr_16 T_2 M_2_2 ⟨_, _, rfl⟩ rfl rfl (Nat.le_of_ble_eq_true rfl) d_Fr_init_16 (fun H locs hP hD hS => ?_)
  have hP : va_P G.1 cls [(fr, .inr (2, [.int (nI x0), .int (nI y0), .int (nI x1), .int (nI 0)]))] H := hP
  have hD : va_D A [(fr, .inr (2, [.int (nI x0), .int (nI y0), .int (nI x1), .int (nI 0)]))] := hD
  refine lv_aload_n hx hb d_Fr_init_19 rfl (lv_at hl 0 rfl) ?_
  refine lv_iload hx hb d_Fr_init_20 (lv_at hl 4 rfl) ?_
  refine y_putF S hin hk hP hD hS 0 rfl f_Fr_19 T_2 M_2_3 ⟨_, _, rfl⟩ rfl rfl (Nat.le_of_ble_eq_true rfl) d_Fr_init_22 (fun H locs hP hD hS => ?_)
  have hP : va_P G.1 cls [(fr, .inr (2, [.int (nI x0), .int (nI y0), .int (nI x1), .int (nI y1)]))] H := hP
  have hD : va_D A [(fr, .inr (2, [.int (nI x0), .int (nI y0), .int (nI x1), .int (nI y1)]))] := hD
  exact hret _ _ () _ _ (trivial) hP hD hS d_Fr_init_25
set_option maxHeartbeats 4000000 in
set_option maxRecDepth 100000 in
theorem c_RW_init (la : Launch) (G : gG) (wk fr : Nat) (w : Int32)  : MetV la y_RW_init b_RW_init 3 1 12 0 0 [.ref wk, .ref fr, .int w] G [(wk, .inr (3, [.null, .int (nI 0), .int (nI 0), .int (nI 0), .int (nI 0), .int (nI 0)]))] (S := Unit) (fun _ => True) (fun _ => [(wk, .inr (3, [.ref fr, .int w, .int (nI 0), .int (oI 0), .int (oI 0), .int (oI 0)]))]) := by
  refine MetV.mk (by decide +kernel) (Nat.le_of_ble_eq_true rfl) ?_
  intro p e s m below meth c Q A ls S hin hP hD hA hS hk hs hret hl
  have hx := S.1
  have hb := S.2.1
  have hP : va_P G.1 cls [(wk, .inr (3, [.null, .int (nI 0), .int (nI 0), .int (nI 0), .int (nI 0), .int (nI 0)]))] s.heap := hP
  have hD : va_D A [(wk, .inr (3, [.null, .int (nI 0), .int (nI 0), .int (nI 0), .int (nI 0), .int (nI 0)]))] := hD
  have hl : lv_has ls 3 [(0, .ref wk), (1, .ref fr), (2, .int w)] := hl
  refine lv_aload_n hx hb d_RW_init_0 rfl (lv_at hl 0 rfl) ?_
  refine y_oinit S hl.1 (wq 200 (by decide +kernel)) (wq 45 (by decide +kernel)) (wq 46 (by decide +kernel)) d_RW_init_1 (Nat.le_of_ble_eq_true rfl) (Nat.le_of_ble_eq_true rfl) ?_
  refine lv_aload_n hx hb d_RW_init_4 rfl (lv_at hl 0 rfl) ?_
  refine lv_iconst (v := nI 0) hx hb d_RW_init_5 (by decide) ?_
  refine y_put S hk hP hD hS 0 rfl f_RW_9 T_3 M_3_2 rfl rfl (Nat.le_of_ble_eq_true rfl) d_RW_init_6 (fun H locs hP hD hS => ?_)
  have hP : va_P G.1 cls [(wk, .inr (3, [.null, .int (nI 0), .int (nI 0), .int (nI 0), .int (nI 0), .int (nI 0)]))] H := hP
  have hD : va_D A [(wk, .inr (3, [.null, .int (nI 0), .int (nI 0), .int (nI 0), .int (nI 0), .int (nI 0)]))] := hD
  refine lv_aload_n hx hb d_RW_init_9 rfl (lv_at hl 0 rfl) ?_
  refine lv_iconst (v := (-1)) hx hb d_RW_init_10 (by decide) ?_
  refine y_put S hk hP hD hS 0 rfl f_RW_15 T_3 M_3_3 rfl rfl (Nat.le_of_ble_eq_true rfl) d_RW_init_11 (fun H locs hP hD hS => ?_)
  have hP : va_P G.1 cls [(wk, .inr (3, [.null, .int (nI 0), .int (nI 0), .int (-1), .int (nI 0), .int (nI 0)]))] H := hP
  have hD : va_D A [(wk, .inr (3, [.null, .int (nI 0), .int (nI 0), .int (-1), .int (nI 0), .int (nI 0)]))] := hD
  refine lv_aload_n hx hb d_RW_init_14 rfl (lv_at hl 0 rfl) ?_
  refine lv_iconst (v := (-1)) hx hb d_RW_init_15 (by decide) ?_
  refine y_put S hk hP hD hS 0 rfl f_RW_18 T_3 M_3_4 rfl rfl (Nat.le_of_ble_eq_true rfl) d_RW_init_16 (fun H locs hP hD hS => ?_)
  have hP : va_P G.1 cls [(wk, .inr (3, [.null, .int (nI 0), .int (nI 0), .int (-1), .int (-1), .int (nI 0)]))] H := hP
  have hD : va_D A [(wk, .inr (3, [.null, .int (nI 0), .int (nI 0), .int (-1), .int (-1), .int (nI 0)]))] := hD
  refine lv_aload_n hx hb d_RW_init_19 rfl (lv_at hl 0 rfl) ?_
  refine lv_iconst (v := (-1)) hx hb d_RW_init_20 (by decide) ?_
  refine y_put S hk hP hD hS 0 rfl f_RW_21 T_3 M_3_5 rfl rfl (Nat.le_of_ble_eq_true rfl) d_RW_init_21 (fun H locs hP hD hS => ?_)
  have hP : va_P G.1 cls [(wk, .inr (3, [.null, .int (nI 0), .int (nI 0), .int (-1), .int (-1), .int (-1)]))] H := hP
  have hD : va_D A [(wk, .inr (3, [.null, .int (nI 0), .int (nI 0), .int (-1), .int (-1), .int (-1)]))] := hD
  refine lv_aload_n hx hb d_RW_init_24 rfl (lv_at hl 0 rfl) ?_
  refine lv_aload_n hx hb d_RW_init_25 rfl (lv_at hl 1 rfl) ?_
  refine y_putF S hin hk hP hD hS 0 rfl f_RW_24 T_3 M_3_0 ⟨_, _, rfl⟩ rfl rfl (Nat.le_of_ble_eq_true rfl) d_RW_init_26 (fun H locs hP hD hS => ?_)
  have hP : va_P G.1 cls [(wk, .inr (3, [.ref fr, .int (nI 0), .int (nI 0), .int (-1), .int (-1), .int (-1)]))] H := hP
  have hD : va_D A [(wk, .inr (3, [.ref fr, .int (nI 0), .int (nI 0), .int (-1), .int (-1), .int (-1)]))] := hD
  refine lv_aload_n hx hb d_RW_init_29 rfl (lv_at hl 0 rfl) ?_
  refine lv_iload_n hx hb d_RW_init_30 rfl (lv_at hl 2 rfl) ?_
  refine y_putF S hin hk hP hD hS 0 rfl f_RW_28 T_3 M_3_1 ⟨_, _, rfl⟩ rfl rfl (Nat.le_of_ble_eq_true rfl) d_RW_init_31 (fun H locs hP hD hS => ?_)
  have hP : va_P G.1 cls [(wk, .inr (3, [.ref fr, .int w, .int (nI 0), .int (-1), .int (-1), .int (-1)]))] H := hP
  have hD : va_D A [(wk, .inr (3, [.ref fr, .int w, .int (nI 0), .int (-1), .int (-1), .int (-1)]))] := hD
  exact hret _ _ () _ _ (trivial) hP hD hS d_RW_init_34
set_option maxHeartbeats 4000000 in
set_option maxRecDepth 100000 in
theorem c_RW_join (la : Launch) (G : gG) (wk fr : Nat) (w : Int32) (c0 e0 f0 g0 a b : Nat) (ha : a < 2147483648) (hc : c0 < 2147483647) (he : e0 < 2147483648) : MetV la y_RW_join b_RW_join 3 0 0 0 0 [.ref wk, .int (nI a), .int (oI b)] G [(wk, .inr (3, [.ref fr, .int w, .int (nI c0), .int (oI e0), .int (oI f0), .int (oI g0)]))] (S := rw_S) (fun u => u = rw_j w a b (c0, e0, f0, g0)) (fun u => [(wk, .inr (3, [.ref fr, .int w, .int (nI u.1), .int (oI u.2.1), .int (oI u.2.2.1), .int (oI u.2.2.2)]))]) := by
  refine MetV.mk (by decide +kernel) (Nat.le_of_ble_eq_true rfl) ?_
  intro p e s m below meth c Q A ls S hin hP hD hA hS hk hs hret hl
  have hx := S.1
  have hb := S.2.1
  have hP : va_P G.1 cls [(wk, .inr (3, [.ref fr, .int w, .int (nI c0), .int (oI e0), .int (oI f0), .int (oI g0)]))] s.heap := hP
  have hD : va_D A [(wk, .inr (3, [.ref fr, .int w, .int (nI c0), .int (oI e0), .int (oI f0), .int (oI g0)]))] := hD
  have hl : lv_has ls 3 [(0, .ref wk), (1, .int (nI a)), (2, .int (oI b))] := hl
  refine lv_aload_n hx hb d_RW_join_0 rfl (lv_at hl 0 rfl) ?_
  refine y_get S hk hP 0 rfl f_RW_9 rfl d_RW_join_1 ?_
  refine x_if_eq hx hb d_RW_join_4 (tgt := 17) (by decide) (by omega) (fun h4 => ?_) (fun h4 => ?_)
  · refine lv_aload_n hx hb d_RW_join_17 rfl (lv_at hl 0 rfl) ?_
    refine lv_dup hx hb d_RW_join_18 rfl ?_
    refine y_get S hk hP 0 rfl f_RW_9 rfl d_RW_join_19 ?_
    refine lv_iconst (v := nI 1) hx hb d_RW_join_22 (by decide) ?_
    refine x_iadd hx hb d_RW_join_23 ?_
    refine y_put S hk hP hD hS 0 rfl f_RW_9 T_3 M_3_2 rfl rfl (Nat.le_of_ble_eq_true rfl) d_RW_join_24 (fun H locs hP hD hS => ?_)
    have hP : va_P G.1 cls [(wk, .inr (3, [.ref fr, .int w, .int (nI (c0 + 1)), .int (oI e0), .int (oI f0), .int (oI g0)]))] H := hP
    have hD : va_D A [(wk, .inr (3, [.ref fr, .int w, .int (nI (c0 + 1)), .int (oI e0), .int (oI f0), .int (oI g0)]))] := hD
    refine lv_aload_n hx hb d_RW_join_27 rfl (lv_at hl 0 rfl) ?_
    refine y_get S hk hP 0 rfl f_RW_9 rfl d_RW_join_28 ?_
    refine lv_iconst (v := nI 1) hx hb d_RW_join_31 (by decide) ?_
    refine x_isub hx hb d_RW_join_32 (by omega) ?_
    refine x_reN (b := c0) (by omega) ?_
    refine lv_aload_n hx hb d_RW_join_33 rfl (lv_at hl 0 rfl) ?_
    refine y_get S hk hP 0 rfl f_RW_28 rfl d_RW_join_34 ?_
    refine lv_icmp_ne hx hb d_RW_join_37 (tgt := 45) (by decide) (fun h37 => ?_) (fun h37 => ?_)
    · refine lv_aload_n hx hb d_RW_join_45 rfl (lv_at hl 0 rfl) ?_
      refine y_get S hk hP 0 rfl f_RW_9 rfl d_RW_join_46 ?_
      refine lv_iconst (v := nI 1) hx hb d_RW_join_49 (by decide) ?_
      refine x_isub hx hb d_RW_join_50 (by omega) ?_
      refine x_reN (b := c0) (by omega) ?_
      refine lv_aload_n hx hb d_RW_join_51 rfl (lv_at hl 0 rfl) ?_
      refine y_get S hk hP 0 rfl f_RW_28 rfl d_RW_join_52 ?_
      refine lv_icmp_ne hx hb d_RW_join_55 (tgt := 63) (by decide) (fun h55 => ?_) (fun h55 => ?_)
      · refine lv_aload_n hx hb d_RW_join_63 rfl (lv_at hl 0 rfl) ?_
        refine lv_iload_n hx hb d_RW_join_64 rfl (lv_at hl 2 rfl) ?_
        refine y_put S hk hP hD hS 0 rfl f_RW_15 T_3 M_3_3 rfl rfl (Nat.le_of_ble_eq_true rfl) d_RW_join_65 (fun H locs hP hD hS => ?_)
        have hP : va_P G.1 cls [(wk, .inr (3, [.ref fr, .int w, .int (nI (c0 + 1)), .int (oI b), .int (oI f0), .int (oI g0)]))] H := hP
        have hD : va_D A [(wk, .inr (3, [.ref fr, .int w, .int (nI (c0 + 1)), .int (oI b), .int (oI f0), .int (oI g0)]))] := hD
        exact hret _ _ (c0 + 1, b, f0, g0) _ _ (by rw [rw_j_new (by first | exact Or.inl h4 | exact Or.inr h14)]; dsimp only; rw [if_neg h55, if_neg h55]) hP hD hS d_RW_join_68
      · refine lv_aload_n hx hb d_RW_join_58 rfl (lv_at hl 0 rfl) ?_
        refine lv_iload_n hx hb d_RW_join_59 rfl (lv_at hl 2 rfl) ?_
        refine y_put S hk hP hD hS 0 rfl f_RW_21 T_3 M_3_5 rfl rfl (Nat.le_of_ble_eq_true rfl) d_RW_join_60 (fun H locs hP hD hS => ?_)
        have hP : va_P G.1 cls [(wk, .inr (3, [.ref fr, .int w, .int (nI (c0 + 1)), .int (oI e0), .int (oI f0), .int (oI b)]))] H := hP
        have hD : va_D A [(wk, .inr (3, [.ref fr, .int w, .int (nI (c0 + 1)), .int (oI e0), .int (oI f0), .int (oI b)]))] := hD
        refine lv_aload_n hx hb d_RW_join_63 rfl (lv_at hl 0 rfl) ?_
        refine lv_iload_n hx hb d_RW_join_64 rfl (lv_at hl 2 rfl) ?_
        refine y_put S hk hP hD hS 0 rfl f_RW_15 T_3 M_3_3 rfl rfl (Nat.le_of_ble_eq_true rfl) d_RW_join_65 (fun H locs hP hD hS => ?_)
        have hP : va_P G.1 cls [(wk, .inr (3, [.ref fr, .int w, .int (nI (c0 + 1)), .int (oI b), .int (oI f0), .int (oI b)]))] H := hP
        have hD : va_D A [(wk, .inr (3, [.ref fr, .int w, .int (nI (c0 + 1)), .int (oI b), .int (oI f0), .int (oI b)]))] := hD
        exact absurd h55 h37
    · refine lv_aload_n hx hb d_RW_join_40 rfl (lv_at hl 0 rfl) ?_
      refine lv_iload_n hx hb d_RW_join_41 rfl (lv_at hl 1 rfl) ?_
      refine y_put S hk hP hD hS 0 rfl f_RW_18 T_3 M_3_4 rfl rfl (Nat.le_of_ble_eq_true rfl) d_RW_join_42 (fun H locs hP hD hS => ?_)
      have hP : va_P G.1 cls [(wk, .inr (3, [.ref fr, .int w, .int (nI (c0 + 1)), .int (oI e0), .int (nI a), .int (oI g0)]))] H := hP
      have hD : va_D A [(wk, .inr (3, [.ref fr, .int w, .int (nI (c0 + 1)), .int (oI e0), .int (nI a), .int (oI g0)]))] := hD
      refine lv_aload_n hx hb d_RW_join_45 rfl (lv_at hl 0 rfl) ?_
      refine y_get S hk hP 0 rfl f_RW_9 rfl d_RW_join_46 ?_
      refine lv_iconst (v := nI 1) hx hb d_RW_join_49 (by decide) ?_
      refine x_isub hx hb d_RW_join_50 (by omega) ?_
      refine x_reN (b := c0) (by omega) ?_
      refine lv_aload_n hx hb d_RW_join_51 rfl (lv_at hl 0 rfl) ?_
      refine y_get S hk hP 0 rfl f_RW_28 rfl d_RW_join_52 ?_
      refine lv_icmp_ne hx hb d_RW_join_55 (tgt := 63) (by decide) (fun h55 => ?_) (fun h55 => ?_)
      · refine lv_aload_n hx hb d_RW_join_63 rfl (lv_at hl 0 rfl) ?_
        refine lv_iload_n hx hb d_RW_join_64 rfl (lv_at hl 2 rfl) ?_
        refine y_put S hk hP hD hS 0 rfl f_RW_15 T_3 M_3_3 rfl rfl (Nat.le_of_ble_eq_true rfl) d_RW_join_65 (fun H locs hP hD hS => ?_)
        have hP : va_P G.1 cls [(wk, .inr (3, [.ref fr, .int w, .int (nI (c0 + 1)), .int (oI b), .int (nI a), .int (oI g0)]))] H := hP
        have hD : va_D A [(wk, .inr (3, [.ref fr, .int w, .int (nI (c0 + 1)), .int (oI b), .int (nI a), .int (oI g0)]))] := hD
        exact absurd h37 h55
      · refine lv_aload_n hx hb d_RW_join_58 rfl (lv_at hl 0 rfl) ?_
        refine lv_iload_n hx hb d_RW_join_59 rfl (lv_at hl 2 rfl) ?_
        refine y_put S hk hP hD hS 0 rfl f_RW_21 T_3 M_3_5 rfl rfl (Nat.le_of_ble_eq_true rfl) d_RW_join_60 (fun H locs hP hD hS => ?_)
        have hP : va_P G.1 cls [(wk, .inr (3, [.ref fr, .int w, .int (nI (c0 + 1)), .int (oI e0), .int (nI a), .int (oI b)]))] H := hP
        have hD : va_D A [(wk, .inr (3, [.ref fr, .int w, .int (nI (c0 + 1)), .int (oI e0), .int (nI a), .int (oI b)]))] := hD
        refine lv_aload_n hx hb d_RW_join_63 rfl (lv_at hl 0 rfl) ?_
        refine lv_iload_n hx hb d_RW_join_64 rfl (lv_at hl 2 rfl) ?_
        refine y_put S hk hP hD hS 0 rfl f_RW_15 T_3 M_3_3 rfl rfl (Nat.le_of_ble_eq_true rfl) d_RW_join_65 (fun H locs hP hD hS => ?_)
        have hP : va_P G.1 cls [(wk, .inr (3, [.ref fr, .int w, .int (nI (c0 + 1)), .int (oI b), .int (nI a), .int (oI b)]))] H := hP
        have hD : va_D A [(wk, .inr (3, [.ref fr, .int w, .int (nI (c0 + 1)), .int (oI b), .int (nI a), .int (oI b)]))] := hD
        exact hret _ _ (c0 + 1, b, a + 1, b) _ _ (by rw [rw_j_new (by first | exact Or.inl h4 | exact Or.inr h14)]; dsimp only; rw [if_pos h55, if_pos h55]) hP hD hS d_RW_join_68
  · refine lv_iload_n hx hb d_RW_join_7 rfl (lv_at hl 1 rfl) ?_
    refine lv_aload_n hx hb d_RW_join_8 rfl (lv_at hl 0 rfl) ?_
    refine y_get S hk hP 0 rfl f_RW_15 rfl d_RW_join_9 ?_
    refine lv_iconst (v := nI 1) hx hb d_RW_join_12 (by decide) ?_
    refine lv_iadd hx hb d_RW_join_13 ?_
    refine x_re (y := (nI e0)) (oI_inc1 e0) ?_
    refine x_icmp_eq hx hb d_RW_join_14 (tgt := 45) (by decide) (by omega) (by omega) (fun h14 => ?_) (fun h14 => ?_)
    · refine lv_aload_n hx hb d_RW_join_45 rfl (lv_at hl 0 rfl) ?_
      refine y_get S hk hP 0 rfl f_RW_9 rfl d_RW_join_46 ?_
      refine lv_iconst (v := nI 1) hx hb d_RW_join_49 (by decide) ?_
      refine x_isub hx hb d_RW_join_50 (by omega) ?_
      refine lv_aload_n hx hb d_RW_join_51 rfl (lv_at hl 0 rfl) ?_
      refine y_get S hk hP 0 rfl f_RW_28 rfl d_RW_join_52 ?_
      refine lv_icmp_ne hx hb d_RW_join_55 (tgt := 63) (by decide) (fun h55 => ?_) (fun h55 => ?_)
      · refine lv_aload_n hx hb d_RW_join_63 rfl (lv_at hl 0 rfl) ?_
        refine lv_iload_n hx hb d_RW_join_64 rfl (lv_at hl 2 rfl) ?_
        refine y_put S hk hP hD hS 0 rfl f_RW_15 T_3 M_3_3 rfl rfl (Nat.le_of_ble_eq_true rfl) d_RW_join_65 (fun H locs hP hD hS => ?_)
        have hP : va_P G.1 cls [(wk, .inr (3, [.ref fr, .int w, .int (nI c0), .int (oI b), .int (oI f0), .int (oI g0)]))] H := hP
        have hD : va_D A [(wk, .inr (3, [.ref fr, .int w, .int (nI c0), .int (oI b), .int (oI f0), .int (oI g0)]))] := hD
        exact hret _ _ (c0, b, f0, g0) _ _ (by rw [rw_j_old h4 h14]; dsimp only; rw [if_neg h55]) hP hD hS d_RW_join_68
      · refine lv_aload_n hx hb d_RW_join_58 rfl (lv_at hl 0 rfl) ?_
        refine lv_iload_n hx hb d_RW_join_59 rfl (lv_at hl 2 rfl) ?_
        refine y_put S hk hP hD hS 0 rfl f_RW_21 T_3 M_3_5 rfl rfl (Nat.le_of_ble_eq_true rfl) d_RW_join_60 (fun H locs hP hD hS => ?_)
        have hP : va_P G.1 cls [(wk, .inr (3, [.ref fr, .int w, .int (nI c0), .int (oI e0), .int (oI f0), .int (oI b)]))] H := hP
        have hD : va_D A [(wk, .inr (3, [.ref fr, .int w, .int (nI c0), .int (oI e0), .int (oI f0), .int (oI b)]))] := hD
        refine lv_aload_n hx hb d_RW_join_63 rfl (lv_at hl 0 rfl) ?_
        refine lv_iload_n hx hb d_RW_join_64 rfl (lv_at hl 2 rfl) ?_
        refine y_put S hk hP hD hS 0 rfl f_RW_15 T_3 M_3_3 rfl rfl (Nat.le_of_ble_eq_true rfl) d_RW_join_65 (fun H locs hP hD hS => ?_)
        have hP : va_P G.1 cls [(wk, .inr (3, [.ref fr, .int w, .int (nI c0), .int (oI b), .int (oI f0), .int (oI b)]))] H := hP
        have hD : va_D A [(wk, .inr (3, [.ref fr, .int w, .int (nI c0), .int (oI b), .int (oI f0), .int (oI b)]))] := hD
        exact hret _ _ (c0, b, f0, b) _ _ (by rw [rw_j_old h4 h14]; dsimp only; rw [if_pos h55]) hP hD hS d_RW_join_68
    · refine lv_aload_n hx hb d_RW_join_17 rfl (lv_at hl 0 rfl) ?_
      refine lv_dup hx hb d_RW_join_18 rfl ?_
      refine y_get S hk hP 0 rfl f_RW_9 rfl d_RW_join_19 ?_
      refine lv_iconst (v := nI 1) hx hb d_RW_join_22 (by decide) ?_
      refine x_iadd hx hb d_RW_join_23 ?_
      refine y_put S hk hP hD hS 0 rfl f_RW_9 T_3 M_3_2 rfl rfl (Nat.le_of_ble_eq_true rfl) d_RW_join_24 (fun H locs hP hD hS => ?_)
      have hP : va_P G.1 cls [(wk, .inr (3, [.ref fr, .int w, .int (nI (c0 + 1)), .int (oI e0), .int (oI f0), .int (oI g0)]))] H := hP
      have hD : va_D A [(wk, .inr (3, [.ref fr, .int w, .int (nI (c0 + 1)), .int (oI e0), .int (oI f0), .int (oI g0)]))] := hD
      refine lv_aload_n hx hb d_RW_join_27 rfl (lv_at hl 0 rfl) ?_
      refine y_get S hk hP 0 rfl f_RW_9 rfl d_RW_join_28 ?_
      refine lv_iconst (v := nI 1) hx hb d_RW_join_31 (by decide) ?_
      refine x_isub hx hb d_RW_join_32 (by omega) ?_
      refine x_reN (b := c0) (by omega) ?_
      refine lv_aload_n hx hb d_RW_join_33 rfl (lv_at hl 0 rfl) ?_
      refine y_get S hk hP 0 rfl f_RW_28 rfl d_RW_join_34 ?_
      refine lv_icmp_ne hx hb d_RW_join_37 (tgt := 45) (by decide) (fun h37 => ?_) (fun h37 => ?_)
      · refine lv_aload_n hx hb d_RW_join_45 rfl (lv_at hl 0 rfl) ?_
        refine y_get S hk hP 0 rfl f_RW_9 rfl d_RW_join_46 ?_
        refine lv_iconst (v := nI 1) hx hb d_RW_join_49 (by decide) ?_
        refine x_isub hx hb d_RW_join_50 (by omega) ?_
        refine x_reN (b := c0) (by omega) ?_
        refine lv_aload_n hx hb d_RW_join_51 rfl (lv_at hl 0 rfl) ?_
        refine y_get S hk hP 0 rfl f_RW_28 rfl d_RW_join_52 ?_
        refine lv_icmp_ne hx hb d_RW_join_55 (tgt := 63) (by decide) (fun h55 => ?_) (fun h55 => ?_)
        · refine lv_aload_n hx hb d_RW_join_63 rfl (lv_at hl 0 rfl) ?_
          refine lv_iload_n hx hb d_RW_join_64 rfl (lv_at hl 2 rfl) ?_
          refine y_put S hk hP hD hS 0 rfl f_RW_15 T_3 M_3_3 rfl rfl (Nat.le_of_ble_eq_true rfl) d_RW_join_65 (fun H locs hP hD hS => ?_)
          have hP : va_P G.1 cls [(wk, .inr (3, [.ref fr, .int w, .int (nI (c0 + 1)), .int (oI b), .int (oI f0), .int (oI g0)]))] H := hP
          have hD : va_D A [(wk, .inr (3, [.ref fr, .int w, .int (nI (c0 + 1)), .int (oI b), .int (oI f0), .int (oI g0)]))] := hD
          exact hret _ _ (c0 + 1, b, f0, g0) _ _ (by rw [rw_j_new (by first | exact Or.inl h4 | exact Or.inr h14)]; dsimp only; rw [if_neg h55, if_neg h55]) hP hD hS d_RW_join_68
        · refine lv_aload_n hx hb d_RW_join_58 rfl (lv_at hl 0 rfl) ?_
          refine lv_iload_n hx hb d_RW_join_59 rfl (lv_at hl 2 rfl) ?_
          refine y_put S hk hP hD hS 0 rfl f_RW_21 T_3 M_3_5 rfl rfl (Nat.le_of_ble_eq_true rfl) d_RW_join_60 (fun H locs hP hD hS => ?_)
          have hP : va_P G.1 cls [(wk, .inr (3, [.ref fr, .int w, .int (nI (c0 + 1)), .int (oI e0), .int (oI f0), .int (oI b)]))] H := hP
          have hD : va_D A [(wk, .inr (3, [.ref fr, .int w, .int (nI (c0 + 1)), .int (oI e0), .int (oI f0), .int (oI b)]))] := hD
          refine lv_aload_n hx hb d_RW_join_63 rfl (lv_at hl 0 rfl) ?_
          refine lv_iload_n hx hb d_RW_join_64 rfl (lv_at hl 2 rfl) ?_
          refine y_put S hk hP hD hS 0 rfl f_RW_15 T_3 M_3_3 rfl rfl (Nat.le_of_ble_eq_true rfl) d_RW_join_65 (fun H locs hP hD hS => ?_)
          have hP : va_P G.1 cls [(wk, .inr (3, [.ref fr, .int w, .int (nI (c0 + 1)), .int (oI b), .int (oI f0), .int (oI b)]))] H := hP
          have hD : va_D A [(wk, .inr (3, [.ref fr, .int w, .int (nI (c0 + 1)), .int (oI b), .int (oI f0), .int (oI b)]))] := hD
          exact absurd h55 h37
      · refine lv_aload_n hx hb d_RW_join_40 rfl (lv_at hl 0 rfl) ?_
        refine lv_iload_n hx hb d_RW_join_41 rfl (lv_at hl 1 rfl) ?_
        refine y_put S hk hP hD hS 0 rfl f_RW_18 T_3 M_3_4 rfl rfl (Nat.le_of_ble_eq_true rfl) d_RW_join_42 (fun H locs hP hD hS => ?_)
        have hP : va_P G.1 cls [(wk, .inr (3, [.ref fr, .int w, .int (nI (c0 + 1)), .int (oI e0), .int (nI a), .int (oI g0)]))] H := hP
        have hD : va_D A [(wk, .inr (3, [.ref fr, .int w, .int (nI (c0 + 1)), .int (oI e0), .int (nI a), .int (oI g0)]))] := hD
        refine lv_aload_n hx hb d_RW_join_45 rfl (lv_at hl 0 rfl) ?_
        refine y_get S hk hP 0 rfl f_RW_9 rfl d_RW_join_46 ?_
        refine lv_iconst (v := nI 1) hx hb d_RW_join_49 (by decide) ?_
        refine x_isub hx hb d_RW_join_50 (by omega) ?_
        refine x_reN (b := c0) (by omega) ?_
        refine lv_aload_n hx hb d_RW_join_51 rfl (lv_at hl 0 rfl) ?_
        refine y_get S hk hP 0 rfl f_RW_28 rfl d_RW_join_52 ?_
        refine lv_icmp_ne hx hb d_RW_join_55 (tgt := 63) (by decide) (fun h55 => ?_) (fun h55 => ?_)
        · refine lv_aload_n hx hb d_RW_join_63 rfl (lv_at hl 0 rfl) ?_
          refine lv_iload_n hx hb d_RW_join_64 rfl (lv_at hl 2 rfl) ?_
          refine y_put S hk hP hD hS 0 rfl f_RW_15 T_3 M_3_3 rfl rfl (Nat.le_of_ble_eq_true rfl) d_RW_join_65 (fun H locs hP hD hS => ?_)
          have hP : va_P G.1 cls [(wk, .inr (3, [.ref fr, .int w, .int (nI (c0 + 1)), .int (oI b), .int (nI a), .int (oI g0)]))] H := hP
          have hD : va_D A [(wk, .inr (3, [.ref fr, .int w, .int (nI (c0 + 1)), .int (oI b), .int (nI a), .int (oI g0)]))] := hD
          exact absurd h37 h55
        · refine lv_aload_n hx hb d_RW_join_58 rfl (lv_at hl 0 rfl) ?_
          refine lv_iload_n hx hb d_RW_join_59 rfl (lv_at hl 2 rfl) ?_
          refine y_put S hk hP hD hS 0 rfl f_RW_21 T_3 M_3_5 rfl rfl (Nat.le_of_ble_eq_true rfl) d_RW_join_60 (fun H locs hP hD hS => ?_)
          have hP : va_P G.1 cls [(wk, .inr (3, [.ref fr, .int w, .int (nI (c0 + 1)), .int (oI e0), .int (nI a), .int (oI b)]))] H := hP
          have hD : va_D A [(wk, .inr (3, [.ref fr, .int w, .int (nI (c0 + 1)), .int (oI e0), .int (nI a), .int (oI b)]))] := hD
          refine lv_aload_n hx hb d_RW_join_63 rfl (lv_at hl 0 rfl) ?_
          refine lv_iload_n hx hb d_RW_join_64 rfl (lv_at hl 2 rfl) ?_
          refine y_put S hk hP hD hS 0 rfl f_RW_15 T_3 M_3_3 rfl rfl (Nat.le_of_ble_eq_true rfl) d_RW_join_65 (fun H locs hP hD hS => ?_)
          have hP : va_P G.1 cls [(wk, .inr (3, [.ref fr, .int w, .int (nI (c0 + 1)), .int (oI b), .int (nI a), .int (oI b)]))] H := hP
          have hD : va_D A [(wk, .inr (3, [.ref fr, .int w, .int (nI (c0 + 1)), .int (oI b), .int (nI a), .int (oI b)]))] := hD
          exact hret _ _ (c0 + 1, b, a + 1, b) _ _ (by rw [rw_j_new (by first | exact Or.inl h4 | exact Or.inr h14)]; dsimp only; rw [if_pos h55, if_pos h55]) hP hD hS d_RW_join_68
set_option maxHeartbeats 4000000 in
set_option maxRecDepth 100000 in
/-- visit: the walk over a square's keys -/
theorem c_RW_visit (la : Launch) (G : gG) (wk fr x0 y0 x1 y1 : Nat) (w : Int32) (M : Nat → Bool) (h0 : x0 < 2147483648) (h1 : y0 < 2147483648) (h2 : x1 < 2147483648) (h3 : y1 < 2147483648) (hne : ∀ k, (rw_k w M k).1 ≤ k ∧ (rw_k w M k).2.1 ≤ k) : ∀ l : Nat, l ≤ 15 → ∀ st x y k : Nat, st < 5 → x + 2 ^ l ≤ 32768 → y + 2 ^ l ≤ 32768 → k + 2 ^ l * 2 ^ l ≤ 1073741824 → sqM M (x0, y0, x1, y1) st l x y k → MetV la y_RW_visit b_RW_visit 9 (l + 2) (45 + 28 * l) 0 0 [.ref wk, .int (nI l), .int (nI st), .int (nI x), .int (nI y), .int (nI k)] G [(wk, .inr (3, [.ref fr, .int w, .int (nI ((rw_k w M (k)).1)), .int (oI ((rw_k w M (k)).2.1)), .int (oI ((rw_k w M (k)).2.2.1)), .int (oI ((rw_k w M (k)).2.2.2))])), (fr, .inr (2, [.int (nI x0), .int (nI y0), .int (nI x1), .int (nI y1)]))] (S := Unit) (fun _ => True) (fun _ => [(wk, .inr (3, [.ref fr, .int w, .int (nI ((rw_k w M (k + 2 ^ l * 2 ^ l)).1)), .int (oI ((rw_k w M (k + 2 ^ l * 2 ^ l)).2.1)), .int (oI ((rw_k w M (k + 2 ^ l * 2 ^ l)).2.2.1)), .int (oI ((rw_k w M (k + 2 ^ l * 2 ^ l)).2.2.2))])), (fr, .inr (2, [.int (nI x0), .int (nI y0), .int (nI x1), .int (nI y1)]))]) := by
  intro l
  induction l with
  | zero =>
    intro hl15 st x y k hst hxb hyb hkb hsq
    have hp4 := p4_pos (0)
    have hpp := Nat.two_pow_pos (0)
    have hl2 := p2_15 hl15
    have hl4 := p4_15 hl15
    have hl22 := p22_15 hl15
    have hj := hne k
    refine MetV.mk (by decide +kernel) (Nat.le_of_ble_eq_true rfl) ?_
    intro p e s m below meth c Q A ls S hin hP hD hA hS hk hs hret hl
    have hx := S.1
    have hb := S.2.1
    have hP : va_P G.1 cls [(wk, .inr (3, [.ref fr, .int w, .int (nI ((rw_k w M k).1)), .int (oI ((rw_k w M k).2.1)), .int (oI ((rw_k w M k).2.2.1)), .int (oI ((rw_k w M k).2.2.2))])), (fr, .inr (2, [.int (nI x0), .int (nI y0), .int (nI x1), .int (nI y1)]))] s.heap := hP
    have hD : va_D A [(wk, .inr (3, [.ref fr, .int w, .int (nI ((rw_k w M k).1)), .int (oI ((rw_k w M k).2.1)), .int (oI ((rw_k w M k).2.2.1)), .int (oI ((rw_k w M k).2.2.2))])), (fr, .inr (2, [.int (nI x0), .int (nI y0), .int (nI x1), .int (nI y1)]))] := hD
    have hl : lv_has ls 9 [(0, .ref wk), (1, .int (nI 0)), (2, .int (nI st)), (3, .int (nI x)), (4, .int (nI y)), (5, .int (nI k))] := hl
    refine lv_iload_n hx hb d_RW_visit_0 rfl (lv_at hl 1 rfl) ?_
    refine lv_if_lt hx hb d_RW_visit_1 (tgt := 20) (by decide) (fun h => absurd h (by decide)) (fun _ => ?_)
    refine lv_aload_n hx hb d_RW_visit_4 rfl (lv_at hl 0 rfl) ?_
    refine y_get S hk hP 0 rfl f_RW_24 rfl d_RW_visit_5 ?_
    refine lv_iload_n hx hb d_RW_visit_8 rfl (lv_at hl 3 rfl) ?_
    refine lv_iload hx hb d_RW_visit_9 (lv_at hl 4 rfl) ?_
    refine lv_iconst (v := nI 1) hx hb d_RW_visit_11 (by decide) ?_
    refine lv_iload_n hx hb d_RW_visit_12 rfl (lv_at hl 1 rfl) ?_
    refine x_ishl hx hb d_RW_visit_13 (by omega) (by rw [Nat.one_mul]; omega) ?_
    refine x_reN (b := 2 ^ 0) (Nat.one_mul _) ?_
    refine vp_callSi (va_Run.run (run_VN S hk v_RW_31 (c_Fr_missesSquare la G fr x0 y0 x1 y1 x y (2 ^ 0) h0 h1 h2 h3 (by omega) (by omega)) ⟨rfl, rfl⟩ ⟨(by omega : 0 + 1 ≤ 0 + 2), (by omega : 8 + (4 + 11) + 0 ≤ 45 + 28 * 0)⟩ (preR_V hP hk (hs.kept (fun a h1 h2 => hS.2.1 a h1 h2)) [1] rfl 1 rfl rfl) (rest := []) rfl hl.1 rfl (Nat.le_of_ble_eq_true rfl) d_RW_visit_14 ⟨Nat.le_of_ble_eq_true rfl, Nat.le_of_ble_eq_true rfl⟩)) (fun r1 hr1 => ?_)
    rcases hr1 with ⟨rfl, m1⟩ | ⟨rfl, m1⟩
    · refine lv_if_eq hx hb d_RW_visit_17 (tgt := 21) (by decide) (fun h => absurd h (by decide)) (fun _ => ?_)
      rw [← sqM_miss hsq m1 w] at hP hD
      exact hret _ _ () _ _ trivial hP hD hS d_RW_visit_20
    · refine lv_if_eq hx hb d_RW_visit_17 (tgt := 21) (by decide) (fun _ => ?_) (fun h => absurd (by decide) h)
      refine lv_aload_n hx hb d_RW_visit_21 rfl (lv_at hl 0 rfl) ?_
      refine y_get S hk hP 0 rfl f_RW_24 rfl d_RW_visit_22 ?_
      refine lv_iload_n hx hb d_RW_visit_25 rfl (lv_at hl 3 rfl) ?_
      refine lv_iload hx hb d_RW_visit_26 (lv_at hl 4 rfl) ?_
      refine lv_iconst (v := nI 1) hx hb d_RW_visit_28 (by decide) ?_
      refine lv_iload_n hx hb d_RW_visit_29 rfl (lv_at hl 1 rfl) ?_
      refine x_ishl hx hb d_RW_visit_30 (by omega) (by rw [Nat.one_mul]; omega) ?_
      refine x_reN (b := 2 ^ 0) (Nat.one_mul _) ?_
      refine vp_callSi (va_Run.run (run_VN S hk v_RW_37 (c_Fr_holdsSquare la G fr x0 y0 x1 y1 x y (2 ^ 0) h0 h1 h2 h3 (by omega) (by omega) (by omega)) ⟨rfl, rfl⟩ ⟨(by omega : 1 + 1 ≤ 0 + 2), (by omega : 8 + (4 + 11) + 22 ≤ 45 + 28 * 0)⟩ (preR_V hP hk (hs.kept (fun a h1 h2 => hS.2.1 a h1 h2)) [1] rfl 1 rfl rfl) (rest := []) rfl hl.1 rfl (Nat.le_of_ble_eq_true rfl) d_RW_visit_31 ⟨Nat.le_of_ble_eq_true rfl, Nat.le_of_ble_eq_true rfl⟩)) (fun r2 hr2 => ?_)
      rcases hr2 with ⟨rfl, m2, m3⟩ | ⟨rfl, m2⟩
      · refine lv_if_eq hx hb d_RW_visit_34 (tgt := 54) (by decide) (fun h => absurd h (by decide)) (fun _ => ?_)
        refine lv_aload_n hx hb d_RW_visit_37 rfl (lv_at hl 0 rfl) ?_
        refine lv_iload hx hb d_RW_visit_38 (lv_at hl 5 rfl) ?_
        refine lv_iload hx hb d_RW_visit_40 (lv_at hl 5 rfl) ?_
        refine lv_iconst (v := nI 1) hx hb d_RW_visit_42 (by decide) ?_
        refine lv_iconst (v := nI 2) hx hb d_RW_visit_43 (by decide) ?_
        refine lv_iload_n hx hb d_RW_visit_44 rfl (lv_at hl 1 rfl) ?_
        refine x_imul hx hb d_RW_visit_45 ?_
        refine x_ishl hx hb d_RW_visit_46 (by omega) (by rw [Nat.one_mul]; omega) ?_
        refine x_iadd hx hb d_RW_visit_47 ?_
        refine lv_iconst (v := nI 1) hx hb d_RW_visit_48 (by decide) ?_
        refine x_isub hx hb d_RW_visit_49 (by rw [Nat.one_mul, p22]; omega) ?_
        refine x_re (y := (oI (k + 2 ^ 0 * 2 ^ 0))) (by rw [Nat.one_mul, p22]; exact oI_pr (by omega)) ?_
        refine eff_V (wr := [(fr, .inr (2, [.int (nI x0), .int (nI y0), .int (nI x1), .int (nI y1)]))]) (run_V S v_RW_40 (c_RW_join la G wk fr w (rw_k w M k).1 (rw_k w M k).2.1 (rw_k w M k).2.2.1 (rw_k w M k).2.2.2 k (k + 2 ^ 0 * 2 ^ 0) (by omega) (by omega) (by omega) _) ⟨rfl, rfl⟩ ⟨(by omega : 0 + 1 ≤ 0 + 2), (by omega : 8 + (3 + 11) + 0 ≤ 45 + 28 * 0)⟩ (preW_V hP hD hA hS hk hs [0] (by decide) rfl 0 rfl rfl) (rest := []) rfl hl.1 rfl (Nat.le_of_ble_eq_true rfl) d_RW_visit_50 ⟨Nat.le_of_ble_eq_true rfl, Nat.le_of_ble_eq_true rfl⟩) hP hD hA hS [0] [1] rfl rfl (by decide) (by decide) (fun u H locs hu hP hD hS => ?_)
        have hu : u = rw_k w M (k + 2 ^ 0 * 2 ^ 0) := hu.trans (sqM_hold hsq m2 m3 w).symm
        subst hu
        exact hret _ _ () _ _ trivial (hP.sub [1, 0] rfl) (hD.sub [1, 0] (by decide) rfl) hS d_RW_visit_53
      · refine lv_if_eq hx hb d_RW_visit_34 (tgt := 54) (by decide) (fun _ => ?_) (fun h => absurd (by decide) h)
        exact absurd (sq_one (F := (x0, y0, x1, y1)) m1) m2
  | succ l ihv =>
    intro hl15 st x y k hst hxb hyb hkb hsq
    have hp4 := p4_pos (l + 1)
    have hpp := Nat.two_pow_pos (l + 1)
    have hl2 := p2_15 hl15
    have hl4 := p4_15 hl15
    have hl22 := p22_15 hl15
    have hj := hne k
    refine MetV.mk (by decide +kernel) (Nat.le_of_ble_eq_true rfl) ?_
    intro p e s m below meth c Q A ls S hin hP hD hA hS hk hs hret hl
    have hx := S.1
    have hb := S.2.1
    have hP : va_P G.1 cls [(wk, .inr (3, [.ref fr, .int w, .int (nI ((rw_k w M k).1)), .int (oI ((rw_k w M k).2.1)), .int (oI ((rw_k w M k).2.2.1)), .int (oI ((rw_k w M k).2.2.2))])), (fr, .inr (2, [.int (nI x0), .int (nI y0), .int (nI x1), .int (nI y1)]))] s.heap := hP
    have hD : va_D A [(wk, .inr (3, [.ref fr, .int w, .int (nI ((rw_k w M k).1)), .int (oI ((rw_k w M k).2.1)), .int (oI ((rw_k w M k).2.2.1)), .int (oI ((rw_k w M k).2.2.2))])), (fr, .inr (2, [.int (nI x0), .int (nI y0), .int (nI x1), .int (nI y1)]))] := hD
    have hl : lv_has ls 9 [(0, .ref wk), (1, .int (nI (l + 1))), (2, .int (nI st)), (3, .int (nI x)), (4, .int (nI y)), (5, .int (nI k))] := hl
    refine lv_iload_n hx hb d_RW_visit_0 rfl (lv_at hl 1 rfl) ?_
    refine lv_if_lt hx hb d_RW_visit_1 (tgt := 20) (by decide) (fun h => absurd h (nI_pos (by omega))) (fun _ => ?_)
    refine lv_aload_n hx hb d_RW_visit_4 rfl (lv_at hl 0 rfl) ?_
    refine y_get S hk hP 0 rfl f_RW_24 rfl d_RW_visit_5 ?_
    refine lv_iload_n hx hb d_RW_visit_8 rfl (lv_at hl 3 rfl) ?_
    refine lv_iload hx hb d_RW_visit_9 (lv_at hl 4 rfl) ?_
    refine lv_iconst (v := nI 1) hx hb d_RW_visit_11 (by decide) ?_
    refine lv_iload_n hx hb d_RW_visit_12 rfl (lv_at hl 1 rfl) ?_
    refine x_ishl hx hb d_RW_visit_13 (by omega) (by rw [Nat.one_mul]; omega) ?_
    refine x_reN (b := 2 ^ (l + 1)) (Nat.one_mul _) ?_
    refine vp_callSi (va_Run.run (run_VN S hk v_RW_31 (c_Fr_missesSquare la G fr x0 y0 x1 y1 x y (2 ^ (l + 1)) h0 h1 h2 h3 (by omega) (by omega)) ⟨rfl, rfl⟩ ⟨(by omega : 0 + 1 ≤ (l + 1) + 2), (by omega : 8 + (4 + 11) + 0 ≤ 45 + 28 * (l + 1))⟩ (preR_V hP hk (hs.kept (fun a h1 h2 => hS.2.1 a h1 h2)) [1] rfl 1 rfl rfl) (rest := []) rfl hl.1 rfl (Nat.le_of_ble_eq_true rfl) d_RW_visit_14 ⟨Nat.le_of_ble_eq_true rfl, Nat.le_of_ble_eq_true rfl⟩)) (fun r1 hr1 => ?_)
    rcases hr1 with ⟨rfl, m1⟩ | ⟨rfl, m1⟩
    · refine lv_if_eq hx hb d_RW_visit_17 (tgt := 21) (by decide) (fun h => absurd h (by decide)) (fun _ => ?_)
      rw [← sqM_miss hsq m1 w] at hP hD
      exact hret _ _ () _ _ trivial hP hD hS d_RW_visit_20
    · refine lv_if_eq hx hb d_RW_visit_17 (tgt := 21) (by decide) (fun _ => ?_) (fun h => absurd (by decide) h)
      refine lv_aload_n hx hb d_RW_visit_21 rfl (lv_at hl 0 rfl) ?_
      refine y_get S hk hP 0 rfl f_RW_24 rfl d_RW_visit_22 ?_
      refine lv_iload_n hx hb d_RW_visit_25 rfl (lv_at hl 3 rfl) ?_
      refine lv_iload hx hb d_RW_visit_26 (lv_at hl 4 rfl) ?_
      refine lv_iconst (v := nI 1) hx hb d_RW_visit_28 (by decide) ?_
      refine lv_iload_n hx hb d_RW_visit_29 rfl (lv_at hl 1 rfl) ?_
      refine x_ishl hx hb d_RW_visit_30 (by omega) (by rw [Nat.one_mul]; omega) ?_
      refine x_reN (b := 2 ^ (l + 1)) (Nat.one_mul _) ?_
      refine vp_callSi (va_Run.run (run_VN S hk v_RW_37 (c_Fr_holdsSquare la G fr x0 y0 x1 y1 x y (2 ^ (l + 1)) h0 h1 h2 h3 (by omega) (by omega) (by omega)) ⟨rfl, rfl⟩ ⟨(by omega : 1 + 1 ≤ (l + 1) + 2), (by omega : 8 + (4 + 11) + 22 ≤ 45 + 28 * (l + 1))⟩ (preR_V hP hk (hs.kept (fun a h1 h2 => hS.2.1 a h1 h2)) [1] rfl 1 rfl rfl) (rest := []) rfl hl.1 rfl (Nat.le_of_ble_eq_true rfl) d_RW_visit_31 ⟨Nat.le_of_ble_eq_true rfl, Nat.le_of_ble_eq_true rfl⟩)) (fun r2 hr2 => ?_)
      rcases hr2 with ⟨rfl, m2, m3⟩ | ⟨rfl, m2⟩
      · refine lv_if_eq hx hb d_RW_visit_34 (tgt := 54) (by decide) (fun h => absurd h (by decide)) (fun _ => ?_)
        refine lv_aload_n hx hb d_RW_visit_37 rfl (lv_at hl 0 rfl) ?_
        refine lv_iload hx hb d_RW_visit_38 (lv_at hl 5 rfl) ?_
        refine lv_iload hx hb d_RW_visit_40 (lv_at hl 5 rfl) ?_
        refine lv_iconst (v := nI 1) hx hb d_RW_visit_42 (by decide) ?_
        refine lv_iconst (v := nI 2) hx hb d_RW_visit_43 (by decide) ?_
        refine lv_iload_n hx hb d_RW_visit_44 rfl (lv_at hl 1 rfl) ?_
        refine x_imul hx hb d_RW_visit_45 ?_
        refine x_ishl hx hb d_RW_visit_46 (by omega) (by rw [Nat.one_mul]; omega) ?_
        refine x_iadd hx hb d_RW_visit_47 ?_
        refine lv_iconst (v := nI 1) hx hb d_RW_visit_48 (by decide) ?_
        refine x_isub hx hb d_RW_visit_49 (by rw [Nat.one_mul, p22]; omega) ?_
        refine x_re (y := (oI (k + 2 ^ (l + 1) * 2 ^ (l + 1)))) (by rw [Nat.one_mul, p22]; exact oI_pr (by omega)) ?_
        refine eff_V (wr := [(fr, .inr (2, [.int (nI x0), .int (nI y0), .int (nI x1), .int (nI y1)]))]) (run_V S v_RW_40 (c_RW_join la G wk fr w (rw_k w M k).1 (rw_k w M k).2.1 (rw_k w M k).2.2.1 (rw_k w M k).2.2.2 k (k + 2 ^ (l + 1) * 2 ^ (l + 1)) (by omega) (by omega) (by omega) _) ⟨rfl, rfl⟩ ⟨(by omega : 0 + 1 ≤ (l + 1) + 2), (by omega : 8 + (3 + 11) + 0 ≤ 45 + 28 * (l + 1))⟩ (preW_V hP hD hA hS hk hs [0] (by decide) rfl 0 rfl rfl) (rest := []) rfl hl.1 rfl (Nat.le_of_ble_eq_true rfl) d_RW_visit_50 ⟨Nat.le_of_ble_eq_true rfl, Nat.le_of_ble_eq_true rfl⟩) hP hD hA hS [0] [1] rfl rfl (by decide) (by decide) (fun u H locs hu hP hD hS => ?_)
        have hu : u = rw_k w M (k + 2 ^ (l + 1) * 2 ^ (l + 1)) := hu.trans (sqM_hold hsq m2 m3 w).symm
        subst hu
        exact hret _ _ () _ _ trivial (hP.sub [1, 0] rfl) (hD.sub [1, 0] (by decide) rfl) hS d_RW_visit_53
      · refine lv_if_eq hx hb d_RW_visit_34 (tgt := 54) (by decide) (fun _ => ?_) (fun h => absurd (by decide) h)
        refine lv_iload_n hx hb d_RW_visit_54 rfl (lv_at hl 1 rfl) ?_
        refine lv_iconst (v := nI 1) hx hb d_RW_visit_55 (by decide) ?_
        refine x_isub hx hb d_RW_visit_56 (by omega) ?_
        refine x_reN (b := l) (by omega) ?_
        refine lv_istore hx hb d_RW_visit_57 hl (by decide) rfl (fun ls hl => ?_)
        have hl : lv_has ls 9 [(6, .int (nI l)), (0, .ref wk), (1, .int (nI (l + 1))), (2, .int (nI st)), (3, .int (nI x)), (4, .int (nI y)), (5, .int (nI k))] := hl
        refine lv_iconst (v := nI 0) hx hb d_RW_visit_59 (by decide) ?_
        refine lv_istore hx hb d_RW_visit_60 hl (by decide) rfl (fun ls hl => ?_)
        have hl : lv_has ls 9 [(7, .int (nI 0)), (6, .int (nI l)), (0, .ref wk), (1, .int (nI (l + 1))), (2, .int (nI st)), (3, .int (nI x)), (4, .int (nI y)), (5, .int (nI k))] := hl
        have hp4' := p4_s l
        have hp2' := p2_s l
        have e22 := p22 l
        refine (?_ : ∀ (d : Nat) (q : Nat) (u : rw_S) (H : Heap) (locs : List Loc) (ls : Array Slot), 4 - q < d → lv_has ls 9 [(7, .int (nI q)), (6, .int (nI l)), (0, .ref wk), (1, .int (nI (l + 1))), (2, .int (nI st)), (3, .int (nI x)), (4, .int (nI y)), (5, .int (nI k))] → va_P G.1 cls [(wk, .inr (3, [.ref fr, .int w, .int (nI u.1), .int (oI u.2.1), .int (oI u.2.2.1), .int (oI u.2.2.2)])), (fr, .inr (2, [.int (nI x0), .int (nI y0), .int (nI x1), .int (nI y1)]))] H → va_D A [(wk, .inr (3, [.ref fr, .int w, .int (nI u.1), .int (oI u.2.1), .int (oI u.2.2.1), .int (oI u.2.2.2)])), (fr, .inr (2, [.int (nI x0), .int (nI y0), .int (nI x1), .int (nI y1)]))] → va_S A s.heap H locs → (q ≤ 4) → (u = rw_k w M (k + q * 2 ^ (2 * l))) → W p la e _ s m _ below meth c H locs 0 0 Q (F0 m 62 ls [])) (4 - 0 + 1) 0 (rw_k w M k) _ _ ls (Nat.lt_succ_self _) hl hP hD hS (by omega) (by rw [Nat.zero_mul, Nat.add_zero])
        intro d
        induction d with
        | zero => intro q u H locs ls hd; exact absurd hd (Nat.not_lt_zero _)
        | succ d ih =>
          intro q u H locs ls hd hl hP hD hS hq hu
          subst hu
          refine lv_iload hx hb d_RW_visit_62 (lv_at hl 0 rfl) ?_
          refine lv_iconst (v := nI 4) hx hb d_RW_visit_64 (by decide) ?_
          refine x_icmp_ge hx hb d_RW_visit_65 (tgt := 131) (by decide) (by omega) (by omega) (fun h65 => ?_) (fun h65 => ?_)
          · have e4 : k + q * 2 ^ (2 * l) = k + 2 ^ (l + 1) * 2 ^ (l + 1) := by rw [p4_s, p22, show q = 4 by omega]
            rw [e4] at hP hD
            exact hret _ _ () _ _ trivial (hP.sub [0, 1] rfl) (hD.sub [0, 1] (by decide) rfl) hS d_RW_visit_131
          · refine y_getsN S hk hs.2.1 hS s_RW_44 d_RW_visit_68 ?_
            refine lv_iconst (v := nI 4) hx hb d_RW_visit_71 (by decide) ?_
            refine lv_iload_n hx hb d_RW_visit_72 rfl (lv_at hl 4 rfl) ?_
            refine x_imul hx hb d_RW_visit_73 ?_
            refine lv_iload hx hb d_RW_visit_74 (lv_at hl 0 rfl) ?_
            refine x_iadd hx hb d_RW_visit_76 ?_
            refine y_ti hx hb hs.2.1 hS (by omega) d_RW_visit_77 ?_
            have hQ := tQS_lt (4 * st + q) (by omega)
            have hd1 : tQS (4 * st + q) / 2 ^ 1 < 2 := by rw [Nat.pow_one]; omega
            have hm1 : tQS (4 * st + q) / 2 ^ 1 * 2 ^ l ≤ 1 * 2 ^ l := Nat.mul_le_mul_right _ (by omega)
            have hm2 : tQS (4 * st + q) % 2 * 2 ^ l ≤ 1 * 2 ^ l := Nat.mul_le_mul_right _ (by omega)
            have hm3 : q * 2 ^ (2 * l) ≤ 3 * 2 ^ (2 * l) := Nat.mul_le_mul_right _ (by omega)
            rw [Nat.one_mul] at hm1 hm2
            refine lv_istore hx hb d_RW_visit_78 hl (by decide) rfl (fun ls hl => ?_)
            have hl : lv_has ls 9 [(8, .int (nI (tQS ((4 * st) + q)))), (7, .int (nI q)), (6, .int (nI l)), (0, .ref wk), (1, .int (nI (l + 1))), (2, .int (nI st)), (3, .int (nI x)), (4, .int (nI y)), (5, .int (nI k))] := hl
            refine lv_aload_n hx hb d_RW_visit_80 rfl (lv_at hl 3 rfl) ?_
            refine lv_iload hx hb d_RW_visit_81 (lv_at hl 2 rfl) ?_
            refine y_getsN S hk hs.2.2 hS s_RW_48 d_RW_visit_83 ?_
            refine lv_iconst (v := nI 4) hx hb d_RW_visit_86 (by decide) ?_
            refine lv_iload_n hx hb d_RW_visit_87 rfl (lv_at hl 5 rfl) ?_
            refine x_imul hx hb d_RW_visit_88 ?_
            refine lv_iload hx hb d_RW_visit_89 (lv_at hl 1 rfl) ?_
            refine x_iadd hx hb d_RW_visit_91 ?_
            refine y_ti hx hb hs.2.2 hS (by omega) d_RW_visit_92 ?_
            refine lv_iload_n hx hb d_RW_visit_93 rfl (lv_at hl 6 rfl) ?_
            refine lv_iload hx hb d_RW_visit_94 (lv_at hl 0 rfl) ?_
            refine lv_iconst (v := nI 1) hx hb d_RW_visit_96 (by decide) ?_
            refine x_ishr hx hb d_RW_visit_97 (by omega) (by omega) ?_
            refine lv_iload hx hb d_RW_visit_98 (lv_at hl 2 rfl) ?_
            refine x_ishl hx hb d_RW_visit_100 (by omega) (by omega) ?_
            refine x_iadd hx hb d_RW_visit_101 ?_
            refine lv_iload hx hb d_RW_visit_102 (lv_at hl 7 rfl) ?_
            refine lv_iload hx hb d_RW_visit_104 (lv_at hl 0 rfl) ?_
            refine lv_iconst (v := nI 1) hx hb d_RW_visit_106 (by decide) ?_
            refine x_iand1 hx hb d_RW_visit_107 (by omega) ?_
            refine lv_iload hx hb d_RW_visit_108 (lv_at hl 2 rfl) ?_
            refine x_ishl hx hb d_RW_visit_110 (by omega) (by omega) ?_
            refine x_iadd hx hb d_RW_visit_111 ?_
            refine lv_iload hx hb d_RW_visit_112 (lv_at hl 8 rfl) ?_
            refine lv_iload hx hb d_RW_visit_114 (lv_at hl 1 rfl) ?_
            refine lv_iconst (v := nI 2) hx hb d_RW_visit_116 (by decide) ?_
            refine lv_iload hx hb d_RW_visit_117 (lv_at hl 2 rfl) ?_
            refine x_imul hx hb d_RW_visit_119 ?_
            refine x_ishl hx hb d_RW_visit_120 (by omega) (by omega) ?_
            refine x_iadd hx hb d_RW_visit_121 ?_
            refine eff_V (wr := []) (run_S S v_RW_51 (ihv (by omega) (tSS (4 * st + q)) (x + tQS (4 * st + q) / 2 ^ 1 * 2 ^ l) (y + tQS (4 * st + q) % 2 * 2 ^ l) (k + q * 2 ^ (2 * l)) (tSS_lt _ (by omega)) (by omega) (by omega) (by omega) (sqM_step hst (by omega) hsq) _) ⟨rfl, rfl⟩ ⟨(by omega : l + 2 + 1 ≤ l + 1 + 2), (by omega : 8 + (9 + 11) + (45 + 28 * l) ≤ 45 + 28 * (l + 1))⟩ (preW_S hP hD hA hS hk hs [0, 1] (by decide) rfl) (rest := []) rfl hl.1 rfl (Nat.le_of_ble_eq_true rfl) d_RW_visit_122 ⟨Nat.le_of_ble_eq_true rfl, Nat.le_of_ble_eq_true rfl⟩) hP hD hA hS [0, 1] [] rfl rfl (by decide) (by decide) (fun u H locs hu hP hD hS => ?_)
            have hP : va_P G.1 cls [(wk, .inr (3, [.ref fr, .int w, .int (nI ((rw_k w M (k + q * 2 ^ (2 * l) + 2 ^ l * 2 ^ l)).1)), .int (oI ((rw_k w M (k + q * 2 ^ (2 * l) + 2 ^ l * 2 ^ l)).2.1)), .int (oI ((rw_k w M (k + q * 2 ^ (2 * l) + 2 ^ l * 2 ^ l)).2.2.1)), .int (oI ((rw_k w M (k + q * 2 ^ (2 * l) + 2 ^ l * 2 ^ l)).2.2.2))])), (fr, .inr (2, [.int (nI x0), .int (nI y0), .int (nI x1), .int (nI y1)]))] H := hP
            have hD : va_D A [(wk, .inr (3, [.ref fr, .int w, .int (nI ((rw_k w M (k + q * 2 ^ (2 * l) + 2 ^ l * 2 ^ l)).1)), .int (oI ((rw_k w M (k + q * 2 ^ (2 * l) + 2 ^ l * 2 ^ l)).2.1)), .int (oI ((rw_k w M (k + q * 2 ^ (2 * l) + 2 ^ l * 2 ^ l)).2.2.1)), .int (oI ((rw_k w M (k + q * 2 ^ (2 * l) + 2 ^ l * 2 ^ l)).2.2.2))])), (fr, .inr (2, [.int (nI x0), .int (nI y0), .int (nI x1), .int (nI y1)]))] := hD
            refine lv_iinc (v := nI (q + 1)) hx hb d_RW_visit_125 hl (k := 1) rfl (ii_p _ 1) (by decide) rfl (fun ls hl => ?_)
            have hl : lv_has ls 9 [(7, .int (nI (q + 1))), (8, .int (nI (tQS ((4 * st) + q)))), (6, .int (nI l)), (0, .ref wk), (1, .int (nI (l + 1))), (2, .int (nI st)), (3, .int (nI x)), (4, .int (nI y)), (5, .int (nI k))] := hl
            refine lv_goto hx hb d_RW_visit_128 (tgt := 62) (by decide) ?_
            have hl := lv_sub hl [0, 2, 3, 4, 5, 6, 7, 8] rfl
            exact ih (q + 1) (rw_k w M (k + q * 2 ^ (2 * l) + 2 ^ l * 2 ^ l)) _ _ _ (by omega) hl hP hD hS (by omega) (by rw [Nat.add_mul, Nat.one_mul, p22, Nat.add_assoc])
