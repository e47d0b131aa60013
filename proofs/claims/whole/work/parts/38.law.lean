/-! the law's loop (laid by gen/m10.py) -/
set_option maxHeartbeats 8000000 in
set_option maxRecDepth 100000 in
theorem law_loop {p : Program} {e : Env} {s : State} {m : MethodId} {below : List Frame} {meth : Method} {c : Code} (la : Launch) {b sl : Nat} {xs : Nat → Int32} {Q : State → Prop} {A : Nat → Prop} (G : gG) (hsl : sl ≤ 2560) (S : CallFix p m c code 4 s #[Value.ref b] (Cond.initialized R_CI :: wg) R_Law) (hk : kx G s) (hA : ∀ q, s.heap.size ≤ q → A q) (hs : sx G A s s.heap) (hX : va_X b sl xs s s.heap) (hbl : b < s.heap.size) (hbA : ¬ A b) (hend : ∀ (pc : Nat) (ls : Array Slot) (H : Heap) (locs : List Loc) (cells slots : Nat), cells ≤ 600000 → slots ≤ 7302250 → va_S A s.heap H locs → decode code pc = .ok (.ireturn, 1) → W p la e room_1 s m #[Value.ref b] below meth c H locs cells slots Q (F0 m pc ls [.int (nI 1)])) (o rw kw_ cw_ vw_ rt kt_ ct_ vt_ mo mc_ mv_ mk_ mx_ : Nat) : ∀ (d k fr : Nat) (u : cS) (v : mS) (H : Heap) (locs : List Loc) (ls : Array Slot), 600 - k < d → k ≤ 512 → lv_has ls 4 [(3, .int (nI (5 * k))), (2, .ref mo), (1, .ref o), (0, .ref b)] → va_P G.1 cls [(o, .inr (0, [.ref rw, .ref rt, .int (nI u.1), .ref fr])), (rw, .inr (1, [.ref kw_, .ref cw_, .ref vw_, .int (nI u.2.1.1)])), (kw_, .inl (G.2.1, 500, .inl (fun zz => nI (u.2.1.2.1 zz)))), (cw_, .inl (G.2.1, 500, .inl (fun zz => nI (u.2.1.2.2.1 zz)))), (vw_, .inl (G.2.1, 500, .inl (fun zz => nI (u.2.1.2.2.2 zz)))), (rt, .inr (1, [.ref kt_, .ref ct_, .ref vt_, .int (nI u.2.2.1.1)])), (kt_, .inl (G.2.1, 500, .inl (fun zz => nI (u.2.2.1.2.1 zz)))), (ct_, .inl (G.2.1, 500, .inl (fun zz => nI (u.2.2.1.2.2.1 zz)))), (vt_, .inl (G.2.1, 500, .inl (fun zz => nI (u.2.2.1.2.2.2 zz)))), (fr, .inr (2, [.int (nI u.2.2.2.1), .int (nI u.2.2.2.2.1), .int (nI u.2.2.2.2.2.1), .int (nI u.2.2.2.2.2.2)])), (mo, .inr (4, [.int (nI v.1), .int (nI v.2.1.1), .ref mc_, .ref mv_, .int (nI v.2.2.1.1), .int (nI v.2.2.1.2.1), .int (nI v.2.2.1.2.2.1), .int (nI v.2.2.1.2.2.2), .ref mk_, .ref mx_])), (mc_, .inl (G.2.1, 500, .inl (fun zz => nI (v.2.1.2.1 zz)))), (mv_, .inl (G.2.1, 500, .inl (fun zz => nI (v.2.1.2.2 zz)))), (mk_, .inl (G.2.1, 4096, .inl (fun zz => nI (v.2.2.2.1 zz)))), (mx_, .inl (G.2.1, 4096, .inl (fun zz => nI (v.2.2.2.2 zz))))] H → va_D A [(o, .inr (0, [.ref rw, .ref rt, .int (nI u.1), .ref fr])), (rw, .inr (1, [.ref kw_, .ref cw_, .ref vw_, .int (nI u.2.1.1)])), (kw_, .inl (G.2.1, 500, .inl (fun zz => nI (u.2.1.2.1 zz)))), (cw_, .inl (G.2.1, 500, .inl (fun zz => nI (u.2.1.2.2.1 zz)))), (vw_, .inl (G.2.1, 500, .inl (fun zz => nI (u.2.1.2.2.2 zz)))), (rt, .inr (1, [.ref kt_, .ref ct_, .ref vt_, .int (nI u.2.2.1.1)])), (kt_, .inl (G.2.1, 500, .inl (fun zz => nI (u.2.2.1.2.1 zz)))), (ct_, .inl (G.2.1, 500, .inl (fun zz => nI (u.2.2.1.2.2.1 zz)))), (vt_, .inl (G.2.1, 500, .inl (fun zz => nI (u.2.2.1.2.2.2 zz)))), (fr, .inr (2, [.int (nI u.2.2.2.1), .int (nI u.2.2.2.2.1), .int (nI u.2.2.2.2.2.1), .int (nI u.2.2.2.2.2.2)])), (mo, .inr (4, [.int (nI v.1), .int (nI v.2.1.1), .ref mc_, .ref mv_, .int (nI v.2.2.1.1), .int (nI v.2.2.1.2.1), .int (nI v.2.2.1.2.2.1), .int (nI v.2.2.1.2.2.2), .ref mk_, .ref mx_])), (mc_, .inl (G.2.1, 500, .inl (fun zz => nI (v.2.1.2.1 zz)))), (mv_, .inl (G.2.1, 500, .inl (fun zz => nI (v.2.1.2.2 zz)))), (mk_, .inl (G.2.1, 4096, .inl (fun zz => nI (v.2.2.2.1 zz)))), (mx_, .inl (G.2.1, 4096, .inl (fun zz => nI (v.2.2.2.2 zz))))] → va_S A s.heap H locs → lkS u v → W p la e room_1 s m #[Value.ref b] below meth c H locs (15 + k) (12218 + 6 * k) Q (F0 m 18 ls []) := by
  intro d
  induction d with
  | zero => intro k fr u v H locs ls hd; exact absurd hd (Nat.not_lt_zero _)
  | succ d ih =>
    intro k fr u v H locs ls hd hk5 hl hP hD hS hlk
    have hx := S.1
    have hb := S.2.1
    have hC := hlk.1
    have hM := hlk.2.1
    have hL15 := hC.1.2
    have hlv := hlk.2.2.1
    have hfv := hlk.2.2.2.1
    have hsm := hlk.2.2.2.2
    have hl : lv_has ls 4 [(3, .int (nI (5 * k))), (2, .ref mo), (1, .ref o), (0, .ref b)] := hl
    refine lv_iload_n hx hb d_Law_law_18 rfl (lv_at hl 0 rfl) ?_
    refine lv_aload_n hx hb d_Law_law_19 rfl (lv_at hl 3 rfl) ?_
    refine y_slen hx hb hX hbl hbA hS d_Law_law_20 ?_
    refine lv_iconst (v := nI 5) hx hb d_Law_law_21 (by decide) ?_
    refine lv_isub hx hb d_Law_law_22 ?_
    refine lv_icmp_gt hx hb d_Law_law_23 (tgt := 542) (by decide) (fun h23 => ?_) (fun h23 => ?_)
    · refine lv_iconst (v := nI 1) hx hb d_Law_law_542 (by decide) ?_
      exact hend _ _ _ _ _ _ (by omega) (by omega) hS d_Law_law_543
    · have h5 := gt5 hsl (by omega) h23
      refine lv_aload_n hx hb d_Law_law_26 rfl (lv_at hl 3 rfl) ?_
      refine lv_iload_n hx hb d_Law_law_27 rfl (lv_at hl 0 rfl) ?_
      refine y_sld hx hb hX hbl hbA hS (by omega) hsl d_Law_law_28 ?_
      refine lv_bipush (v := nI 15) hx hb d_Law_law_29 (by decide) ?_
      refine lv_iand hx hb d_Law_law_31 ?_
      obtain ⟨jj, hjj, ejj⟩ := and15 (xs (5 * k))
      refine x_re ejj ?_
      rcases (show jj = 0 ∨ jj = 1 ∨ jj = 2 ∨ jj = 3 ∨ jj = 4 ∨ jj = 5 ∨ jj = 6 ∨ jj = 7 ∨ jj = 8 ∨ jj = 9 ∨ jj = 10 ∨ jj = 11 ∨ jj = 12 ∨ jj = 13 ∨ jj = 14 ∨ jj = 15 by omega) with rfl | rfl | rfl | rfl | rfl | rfl | rfl | rfl | rfl | rfl | rfl | rfl | rfl | rfl | rfl | rfl
      · refine lv_tableIn hx hb d_Law_law_32 (off := 72) (tgt := 104) (by decide) (by decide) (by decide) (by decide) ?_
        refine lv_aload_n hx hb d_Law_law_104 rfl (lv_at hl 2 rfl) ?_
        refine lv_aload_n hx hb d_Law_law_105 rfl (lv_at hl 3 rfl) ?_
        refine lv_iload_n hx hb d_Law_law_106 rfl (lv_at hl 0 rfl) ?_
        refine lv_iconst (v := nI 1) hx hb d_Law_law_107 (by decide) ?_
        refine x_iadd hx hb d_Law_law_108 ?_
        refine y_sld hx hb hX hbl hbA hS (by omega) hsl d_Law_law_109 ?_
        refine eff_W (wr := [(mo, .inr (4, [.int (nI v.1), .int (nI v.2.1.1), .ref mc_, .ref mv_, .int (nI v.2.2.1.1), .int (nI v.2.2.1.2.1), .int (nI v.2.2.1.2.2.1), .int (nI v.2.2.1.2.2.2), .ref mk_, .ref mx_])), (mc_, .inl (G.2.1, 500, .inl (fun zz => nI (v.2.1.2.1 zz)))), (mv_, .inl (G.2.1, 500, .inl (fun zz => nI (v.2.1.2.2 zz)))), (mk_, .inl (G.2.1, 4096, .inl (fun zz => nI (v.2.2.2.1 zz)))), (mx_, .inl (G.2.1, 4096, .inl (fun zz => nI (v.2.2.2.2 zz))))]) (run_V S v_Law_13 (c_CI_begin la G o rw kw_ cw_ vw_ rt kt_ ct_ vt_ fr u.1 u.2.1.1 u.2.2.1.1 u.2.2.2.1 u.2.2.2.2.1 u.2.2.2.2.2.1 u.2.2.2.2.2.2 u.2.1.2.1 u.2.1.2.2.1 u.2.1.2.2.2 u.2.2.1.2.1 u.2.2.1.2.2.1 u.2.2.1.2.2.2 (xs (5 * k + 1)) hC _) ⟨rfl, rfl⟩ ⟨Nat.le_of_ble_eq_true rfl, Nat.le_of_ble_eq_true rfl⟩ (preW_V hP hD hA hS hk hs [0, 1, 2, 3, 4, 5, 6, 7, 8, 9] (by decide) rfl 0 rfl rfl) (rest := []) rfl hl.1 rfl (Nat.le_of_ble_eq_true rfl) d_Law_law_110 ⟨(by omega : 15 + k + 1 ≤ 600000), (by omega : 12218 + 6 * k + 4 ≤ 7302250)⟩) hP hD hA hS [0, 1, 2, 3, 4, 5, 6, 7, 8, 9] [10, 11, 12, 13, 14] rfl rfl (by decide) (by decide) (fun r1 u1 H locs hu1 hP hD hS => ?_)
        have hP : va_P G.1 cls [(mo, .inr (4, [.int (nI v.1), .int (nI v.2.1.1), .ref mc_, .ref mv_, .int (nI v.2.2.1.1), .int (nI v.2.2.1.2.1), .int (nI v.2.2.1.2.2.1), .int (nI v.2.2.1.2.2.2), .ref mk_, .ref mx_])), (mc_, .inl (G.2.1, 500, .inl (fun zz => nI (v.2.1.2.1 zz)))), (mv_, .inl (G.2.1, 500, .inl (fun zz => nI (v.2.1.2.2 zz)))), (mk_, .inl (G.2.1, 4096, .inl (fun zz => nI (v.2.2.2.1 zz)))), (mx_, .inl (G.2.1, 4096, .inl (fun zz => nI (v.2.2.2.2 zz)))), (o, .inr (0, [.ref rw, .ref rt, .int (nI u1.1.1), .ref u1.2])), (rw, .inr (1, [.ref kw_, .ref cw_, .ref vw_, .int (nI u1.1.2.1.1)])), (kw_, .inl (G.2.1, 500, .inl (fun zz => nI (u1.1.2.1.2.1 zz)))), (cw_, .inl (G.2.1, 500, .inl (fun zz => nI (u1.1.2.1.2.2.1 zz)))), (vw_, .inl (G.2.1, 500, .inl (fun zz => nI (u1.1.2.1.2.2.2 zz)))), (rt, .inr (1, [.ref kt_, .ref ct_, .ref vt_, .int (nI u1.1.2.2.1.1)])), (kt_, .inl (G.2.1, 500, .inl (fun zz => nI (u1.1.2.2.1.2.1 zz)))), (ct_, .inl (G.2.1, 500, .inl (fun zz => nI (u1.1.2.2.1.2.2.1 zz)))), (vt_, .inl (G.2.1, 500, .inl (fun zz => nI (u1.1.2.2.1.2.2.2 zz)))), (u1.2, .inr (2, [.int (nI u1.1.2.2.2.1), .int (nI u1.1.2.2.2.2.1), .int (nI u1.1.2.2.2.2.2.1), .int (nI u1.1.2.2.2.2.2.2)]))] H := hP
        have hD : va_D A [(mo, .inr (4, [.int (nI v.1), .int (nI v.2.1.1), .ref mc_, .ref mv_, .int (nI v.2.2.1.1), .int (nI v.2.2.1.2.1), .int (nI v.2.2.1.2.2.1), .int (nI v.2.2.1.2.2.2), .ref mk_, .ref mx_])), (mc_, .inl (G.2.1, 500, .inl (fun zz => nI (v.2.1.2.1 zz)))), (mv_, .inl (G.2.1, 500, .inl (fun zz => nI (v.2.1.2.2 zz)))), (mk_, .inl (G.2.1, 4096, .inl (fun zz => nI (v.2.2.2.1 zz)))), (mx_, .inl (G.2.1, 4096, .inl (fun zz => nI (v.2.2.2.2 zz)))), (o, .inr (0, [.ref rw, .ref rt, .int (nI u1.1.1), .ref u1.2])), (rw, .inr (1, [.ref kw_, .ref cw_, .ref vw_, .int (nI u1.1.2.1.1)])), (kw_, .inl (G.2.1, 500, .inl (fun zz => nI (u1.1.2.1.2.1 zz)))), (cw_, .inl (G.2.1, 500, .inl (fun zz => nI (u1.1.2.1.2.2.1 zz)))), (vw_, .inl (G.2.1, 500, .inl (fun zz => nI (u1.1.2.1.2.2.2 zz)))), (rt, .inr (1, [.ref kt_, .ref ct_, .ref vt_, .int (nI u1.1.2.2.1.1)])), (kt_, .inl (G.2.1, 500, .inl (fun zz => nI (u1.1.2.2.1.2.1 zz)))), (ct_, .inl (G.2.1, 500, .inl (fun zz => nI (u1.1.2.2.1.2.2.1 zz)))), (vt_, .inl (G.2.1, 500, .inl (fun zz => nI (u1.1.2.2.1.2.2.2 zz)))), (u1.2, .inr (2, [.int (nI u1.1.2.2.2.1), .int (nI u1.1.2.2.2.2.1), .int (nI u1.1.2.2.2.2.2.1), .int (nI u1.1.2.2.2.2.2.2)]))] := hD
        refine lv_aload_n hx hb d_Law_law_113 rfl (lv_at hl 1 rfl) ?_
        refine lv_aload_n hx hb d_Law_law_114 rfl (lv_at hl 3 rfl) ?_
        refine lv_iload_n hx hb d_Law_law_115 rfl (lv_at hl 0 rfl) ?_
        refine lv_iconst (v := nI 1) hx hb d_Law_law_116 (by decide) ?_
        refine x_iadd hx hb d_Law_law_117 ?_
        refine y_sld hx hb hX hbl hbA hS (by omega) hsl d_Law_law_118 ?_
        refine eff_W (wr := [(o, .inr (0, [.ref rw, .ref rt, .int (nI u1.1.1), .ref u1.2])), (rw, .inr (1, [.ref kw_, .ref cw_, .ref vw_, .int (nI u1.1.2.1.1)])), (kw_, .inl (G.2.1, 500, .inl (fun zz => nI (u1.1.2.1.2.1 zz)))), (cw_, .inl (G.2.1, 500, .inl (fun zz => nI (u1.1.2.1.2.2.1 zz)))), (vw_, .inl (G.2.1, 500, .inl (fun zz => nI (u1.1.2.1.2.2.2 zz)))), (rt, .inr (1, [.ref kt_, .ref ct_, .ref vt_, .int (nI u1.1.2.2.1.1)])), (kt_, .inl (G.2.1, 500, .inl (fun zz => nI (u1.1.2.2.1.2.1 zz)))), (ct_, .inl (G.2.1, 500, .inl (fun zz => nI (u1.1.2.2.1.2.2.1 zz)))), (vt_, .inl (G.2.1, 500, .inl (fun zz => nI (u1.1.2.2.1.2.2.2 zz)))), (u1.2, .inr (2, [.int (nI u1.1.2.2.2.1), .int (nI u1.1.2.2.2.2.1), .int (nI u1.1.2.2.2.2.2.1), .int (nI u1.1.2.2.2.2.2.2)]))]) (run_V S v_Law_17 (c_Mo_begin la G mo mc_ mv_ mk_ mx_ v.1 v.2.1.1 v.2.2.1.1 v.2.2.1.2.1 v.2.2.1.2.2.1 v.2.2.1.2.2.2 v.2.1.2.1 v.2.1.2.2 v.2.2.2.1 v.2.2.2.2 (xs (5 * k + 1)) hM _) ⟨rfl, rfl⟩ ⟨Nat.le_of_ble_eq_true rfl, Nat.le_of_ble_eq_true rfl⟩ (preW_V hP hD hA hS hk hs [0, 1, 2, 3, 4] (by decide) rfl 0 rfl rfl) (rest := [.int r1]) rfl hl.1 rfl (Nat.le_of_ble_eq_true rfl) d_Law_law_119 ⟨(by omega : 15 + k + 1 + 0 ≤ 600000), (by omega : 12218 + 6 * k + 4 + 0 ≤ 7302250)⟩) hP hD hA hS [0, 1, 2, 3, 4] [5, 6, 7, 8, 9, 10, 11, 12, 13, 14] rfl rfl (by decide) (by decide) (fun r2 v1 H locs hu2 hP hD hS => ?_)
        have hP : va_P G.1 cls [(o, .inr (0, [.ref rw, .ref rt, .int (nI u1.1.1), .ref u1.2])), (rw, .inr (1, [.ref kw_, .ref cw_, .ref vw_, .int (nI u1.1.2.1.1)])), (kw_, .inl (G.2.1, 500, .inl (fun zz => nI (u1.1.2.1.2.1 zz)))), (cw_, .inl (G.2.1, 500, .inl (fun zz => nI (u1.1.2.1.2.2.1 zz)))), (vw_, .inl (G.2.1, 500, .inl (fun zz => nI (u1.1.2.1.2.2.2 zz)))), (rt, .inr (1, [.ref kt_, .ref ct_, .ref vt_, .int (nI u1.1.2.2.1.1)])), (kt_, .inl (G.2.1, 500, .inl (fun zz => nI (u1.1.2.2.1.2.1 zz)))), (ct_, .inl (G.2.1, 500, .inl (fun zz => nI (u1.1.2.2.1.2.2.1 zz)))), (vt_, .inl (G.2.1, 500, .inl (fun zz => nI (u1.1.2.2.1.2.2.2 zz)))), (u1.2, .inr (2, [.int (nI u1.1.2.2.2.1), .int (nI u1.1.2.2.2.2.1), .int (nI u1.1.2.2.2.2.2.1), .int (nI u1.1.2.2.2.2.2.2)])), (mo, .inr (4, [.int (nI v1.1), .int (nI v1.2.1.1), .ref mc_, .ref mv_, .int (nI v1.2.2.1.1), .int (nI v1.2.2.1.2.1), .int (nI v1.2.2.1.2.2.1), .int (nI v1.2.2.1.2.2.2), .ref mk_, .ref mx_])), (mc_, .inl (G.2.1, 500, .inl (fun zz => nI (v1.2.1.2.1 zz)))), (mv_, .inl (G.2.1, 500, .inl (fun zz => nI (v1.2.1.2.2 zz)))), (mk_, .inl (G.2.1, 4096, .inl (fun zz => nI (v1.2.2.2.1 zz)))), (mx_, .inl (G.2.1, 4096, .inl (fun zz => nI (v1.2.2.2.2 zz))))] H := hP
        have hD : va_D A [(o, .inr (0, [.ref rw, .ref rt, .int (nI u1.1.1), .ref u1.2])), (rw, .inr (1, [.ref kw_, .ref cw_, .ref vw_, .int (nI u1.1.2.1.1)])), (kw_, .inl (G.2.1, 500, .inl (fun zz => nI (u1.1.2.1.2.1 zz)))), (cw_, .inl (G.2.1, 500, .inl (fun zz => nI (u1.1.2.1.2.2.1 zz)))), (vw_, .inl (G.2.1, 500, .inl (fun zz => nI (u1.1.2.1.2.2.2 zz)))), (rt, .inr (1, [.ref kt_, .ref ct_, .ref vt_, .int (nI u1.1.2.2.1.1)])), (kt_, .inl (G.2.1, 500, .inl (fun zz => nI (u1.1.2.2.1.2.1 zz)))), (ct_, .inl (G.2.1, 500, .inl (fun zz => nI (u1.1.2.2.1.2.2.1 zz)))), (vt_, .inl (G.2.1, 500, .inl (fun zz => nI (u1.1.2.2.1.2.2.2 zz)))), (u1.2, .inr (2, [.int (nI u1.1.2.2.2.1), .int (nI u1.1.2.2.2.2.1), .int (nI u1.1.2.2.2.2.2.1), .int (nI u1.1.2.2.2.2.2.2)])), (mo, .inr (4, [.int (nI v1.1), .int (nI v1.2.1.1), .ref mc_, .ref mv_, .int (nI v1.2.2.1.1), .int (nI v1.2.2.1.2.1), .int (nI v1.2.2.1.2.2.1), .int (nI v1.2.2.1.2.2.2), .ref mk_, .ref mx_])), (mc_, .inl (G.2.1, 500, .inl (fun zz => nI (v1.2.1.2.1 zz)))), (mv_, .inl (G.2.1, 500, .inl (fun zz => nI (v1.2.1.2.2 zz)))), (mk_, .inl (G.2.1, 4096, .inl (fun zz => nI (v1.2.2.2.1 zz)))), (mx_, .inl (G.2.1, 4096, .inl (fun zz => nI (v1.2.2.2.2 zz))))] := hD
        obtain ⟨heq, hlk'⟩ := lk_begin (fr := fr) hlk hu1 hu2
        clear hu1 hu2
        refine lv_icmp_eq hx hb d_Law_law_122 (tgt := 536) (by decide) (fun _ => ?_) (fun h => absurd heq h)
        refine lv_iinc (v := nI ((5 * k) + 5)) hx hb d_Law_law_536 hl (k := 0) rfl (ii_p _ 5) (by decide) rfl (fun ls hl => ?_)
        have hl : lv_has ls 4 [(3, .int (nI ((5 * k) + 5))), (2, .ref mo), (1, .ref o), (0, .ref b)] := hl
        refine lv_goto hx hb d_Law_law_539 (tgt := 18) (by decide) ?_
        have hl := lv_sub hl [0, 1, 2, 3] rfl
        rw [show 5 * k + 5 = 5 * (k + 1) by omega] at hl
        refine W.widen (k := 15 + (k + 1)) (n := 12218 + 6 * (k + 1)) (by omega) (by omega) ?_
        exact ih (k + 1) u1.2 u1.1 v1 _ _ _ (by omega) (by omega) hl (hP.sub [0, 1, 2, 3, 4, 5, 6, 7, 8, 9, 10, 11, 12, 13, 14] rfl) (hD.sub [0, 1, 2, 3, 4, 5, 6, 7, 8, 9, 10, 11, 12, 13, 14] (by decide) rfl) hS hlk'
      · refine lv_tableIn hx hb d_Law_law_32 (off := 95) (tgt := 127) (by decide) (by decide) (by decide) (by decide) ?_
        refine lv_aload_n hx hb d_Law_law_127 rfl (lv_at hl 2 rfl) ?_
        refine lv_aload_n hx hb d_Law_law_128 rfl (lv_at hl 3 rfl) ?_
        refine lv_iload_n hx hb d_Law_law_129 rfl (lv_at hl 0 rfl) ?_
        refine lv_iconst (v := nI 1) hx hb d_Law_law_130 (by decide) ?_
        refine x_iadd hx hb d_Law_law_131 ?_
        refine y_sld hx hb hX hbl hbA hS (by omega) hsl d_Law_law_132 ?_
        refine lv_aload_n hx hb d_Law_law_133 rfl (lv_at hl 3 rfl) ?_
        refine lv_iload_n hx hb d_Law_law_134 rfl (lv_at hl 0 rfl) ?_
        refine lv_iconst (v := nI 2) hx hb d_Law_law_135 (by decide) ?_
        refine x_iadd hx hb d_Law_law_136 ?_
        refine y_sld hx hb hX hbl hbA hS (by omega) hsl d_Law_law_137 ?_
        refine lv_aload_n hx hb d_Law_law_138 rfl (lv_at hl 3 rfl) ?_
        refine lv_iload_n hx hb d_Law_law_139 rfl (lv_at hl 0 rfl) ?_
        refine lv_iconst (v := nI 3) hx hb d_Law_law_140 (by decide) ?_
        refine x_iadd hx hb d_Law_law_141 ?_
        refine y_sld hx hb hX hbl hbA hS (by omega) hsl d_Law_law_142 ?_
        refine vp_callSi (va_Run.run (run_V S v_Law_18 (c_CI_key la G o rw kw_ cw_ vw_ rt kt_ ct_ vt_ fr u.1 u.2.1.1 u.2.2.1.1 u.2.2.2.1 u.2.2.2.2.1 u.2.2.2.2.2.1 u.2.2.2.2.2.2 u.2.1.2.1 u.2.1.2.2.1 u.2.1.2.2.2 u.2.2.1.2.1 u.2.2.1.2.2.1 u.2.2.1.2.2.2 (xs (5 * k + 1)) (xs (5 * k + 2)) (xs (5 * k + 3)) hC) ⟨rfl, rfl⟩ ⟨Nat.le_of_ble_eq_true rfl, Nat.le_of_ble_eq_true rfl⟩ (preR_V hP hk (hs.kept (fun a h1 h2 => hS.2.1 a h1 h2)) [0, 1, 2, 3, 4, 5, 6, 7, 8, 9] rfl 0 rfl rfl) (rest := []) rfl hl.1 rfl (Nat.le_of_ble_eq_true rfl) d_Law_law_143 ⟨(by omega : 15 + k + 0 ≤ 600000), (by omega : 12218 + 6 * k + 0 ≤ 7302250)⟩)) (fun r1 hu1 => ?_)
        refine lv_aload_n hx hb d_Law_law_146 rfl (lv_at hl 1 rfl) ?_
        refine lv_aload_n hx hb d_Law_law_147 rfl (lv_at hl 3 rfl) ?_
        refine lv_iload_n hx hb d_Law_law_148 rfl (lv_at hl 0 rfl) ?_
        refine lv_iconst (v := nI 1) hx hb d_Law_law_149 (by decide) ?_
        refine x_iadd hx hb d_Law_law_150 ?_
        refine y_sld hx hb hX hbl hbA hS (by omega) hsl d_Law_law_151 ?_
        refine lv_aload_n hx hb d_Law_law_152 rfl (lv_at hl 3 rfl) ?_
        refine lv_iload_n hx hb d_Law_law_153 rfl (lv_at hl 0 rfl) ?_
        refine lv_iconst (v := nI 2) hx hb d_Law_law_154 (by decide) ?_
        refine x_iadd hx hb d_Law_law_155 ?_
        refine y_sld hx hb hX hbl hbA hS (by omega) hsl d_Law_law_156 ?_
        refine lv_aload_n hx hb d_Law_law_157 rfl (lv_at hl 3 rfl) ?_
        refine lv_iload_n hx hb d_Law_law_158 rfl (lv_at hl 0 rfl) ?_
        refine lv_iconst (v := nI 3) hx hb d_Law_law_159 (by decide) ?_
        refine x_iadd hx hb d_Law_law_160 ?_
        refine y_sld hx hb hX hbl hbA hS (by omega) hsl d_Law_law_161 ?_
        refine vp_callSi (va_Run.run (run_V S v_Law_22 (c_Mo_key la G mo mc_ mv_ mk_ mx_ v.1 v.2.1.1 v.2.2.1.1 v.2.2.1.2.1 v.2.2.1.2.2.1 v.2.2.1.2.2.2 v.2.1.2.1 v.2.1.2.2 v.2.2.2.1 v.2.2.2.2 (xs (5 * k + 1)) (xs (5 * k + 2)) (xs (5 * k + 3)) hM) ⟨rfl, rfl⟩ ⟨Nat.le_of_ble_eq_true rfl, Nat.le_of_ble_eq_true rfl⟩ (preR_V hP hk (hs.kept (fun a h1 h2 => hS.2.1 a h1 h2)) [10, 11, 12, 13, 14] rfl 10 rfl rfl) (rest := [.int r1]) rfl hl.1 rfl (Nat.le_of_ble_eq_true rfl) d_Law_law_162 ⟨(by omega : 15 + k + 0 ≤ 600000), (by omega : 12218 + 6 * k + 0 ≤ 7302250)⟩)) (fun r2 hu2 => ?_)
        rw [← hlv] at hu2
        have heq : r1 = r2 := keyS_u hL15 hu1 hu2
        refine lv_icmp_eq hx hb d_Law_law_165 (tgt := 536) (by decide) (fun _ => ?_) (fun h => absurd heq h)
        refine lv_iinc (v := nI ((5 * k) + 5)) hx hb d_Law_law_536 hl (k := 0) rfl (ii_p _ 5) (by decide) rfl (fun ls hl => ?_)
        have hl : lv_has ls 4 [(3, .int (nI ((5 * k) + 5))), (2, .ref mo), (1, .ref o), (0, .ref b)] := hl
        refine lv_goto hx hb d_Law_law_539 (tgt := 18) (by decide) ?_
        have hl := lv_sub hl [0, 1, 2, 3] rfl
        rw [show 5 * k + 5 = 5 * (k + 1) by omega] at hl
        refine W.widen (k := 15 + (k + 1)) (n := 12218 + 6 * (k + 1)) (by omega) (by omega) ?_
        exact ih (k + 1) fr u v _ _ _ (by omega) (by omega) hl (hP.sub [0, 1, 2, 3, 4, 5, 6, 7, 8, 9, 10, 11, 12, 13, 14] rfl) (hD.sub [0, 1, 2, 3, 4, 5, 6, 7, 8, 9, 10, 11, 12, 13, 14] (by decide) rfl) hS hlk
      · refine lv_tableIn hx hb d_Law_law_32 (off := 138) (tgt := 170) (by decide) (by decide) (by decide) (by decide) ?_
        refine lv_aload_n hx hb d_Law_law_170 rfl (lv_at hl 2 rfl) ?_
        refine lv_aload_n hx hb d_Law_law_171 rfl (lv_at hl 3 rfl) ?_
        refine lv_iload_n hx hb d_Law_law_172 rfl (lv_at hl 0 rfl) ?_
        refine lv_iconst (v := nI 1) hx hb d_Law_law_173 (by decide) ?_
        refine x_iadd hx hb d_Law_law_174 ?_
        refine y_sld hx hb hX hbl hbA hS (by omega) hsl d_Law_law_175 ?_
        refine lv_aload_n hx hb d_Law_law_176 rfl (lv_at hl 3 rfl) ?_
        refine lv_iload_n hx hb d_Law_law_177 rfl (lv_at hl 0 rfl) ?_
        refine lv_iconst (v := nI 2) hx hb d_Law_law_178 (by decide) ?_
        refine x_iadd hx hb d_Law_law_179 ?_
        refine y_sld hx hb hX hbl hbA hS (by omega) hsl d_Law_law_180 ?_
        refine vp_callSi (va_Run.run (run_V S v_Law_23 (c_CI_cell la G o rw kw_ cw_ vw_ rt kt_ ct_ vt_ fr u.1 u.2.1.1 u.2.2.1.1 u.2.2.2.1 u.2.2.2.2.1 u.2.2.2.2.2.1 u.2.2.2.2.2.2 u.2.1.2.1 u.2.1.2.2.1 u.2.1.2.2.2 u.2.2.1.2.1 u.2.2.1.2.2.1 u.2.2.1.2.2.2 (xs (5 * k + 1)) (xs (5 * k + 2)) hC) ⟨rfl, rfl⟩ ⟨Nat.le_of_ble_eq_true rfl, Nat.le_of_ble_eq_true rfl⟩ (preR_V hP hk (hs.kept (fun a h1 h2 => hS.2.1 a h1 h2)) [0, 1, 2, 3, 4, 5, 6, 7, 8, 9] rfl 0 rfl rfl) (rest := []) rfl hl.1 rfl (Nat.le_of_ble_eq_true rfl) d_Law_law_181 ⟨(by omega : 15 + k + 0 ≤ 600000), (by omega : 12218 + 6 * k + 0 ≤ 7302250)⟩)) (fun r1 hu1 => ?_)
        refine lv_aload_n hx hb d_Law_law_184 rfl (lv_at hl 1 rfl) ?_
        refine lv_aload_n hx hb d_Law_law_185 rfl (lv_at hl 3 rfl) ?_
        refine lv_iload_n hx hb d_Law_law_186 rfl (lv_at hl 0 rfl) ?_
        refine lv_iconst (v := nI 1) hx hb d_Law_law_187 (by decide) ?_
        refine x_iadd hx hb d_Law_law_188 ?_
        refine y_sld hx hb hX hbl hbA hS (by omega) hsl d_Law_law_189 ?_
        refine lv_aload_n hx hb d_Law_law_190 rfl (lv_at hl 3 rfl) ?_
        refine lv_iload_n hx hb d_Law_law_191 rfl (lv_at hl 0 rfl) ?_
        refine lv_iconst (v := nI 2) hx hb d_Law_law_192 (by decide) ?_
        refine x_iadd hx hb d_Law_law_193 ?_
        refine y_sld hx hb hX hbl hbA hS (by omega) hsl d_Law_law_194 ?_
        refine vp_callSi (va_Run.run (run_V S v_Law_27 (c_Mo_cell la G mo mc_ mv_ mk_ mx_ v.1 v.2.1.1 v.2.2.1.1 v.2.2.1.2.1 v.2.2.1.2.2.1 v.2.2.1.2.2.2 v.2.1.2.1 v.2.1.2.2 v.2.2.2.1 v.2.2.2.2 (xs (5 * k + 1)) (xs (5 * k + 2)) hM) ⟨rfl, rfl⟩ ⟨Nat.le_of_ble_eq_true rfl, Nat.le_of_ble_eq_true rfl⟩ (preR_V hP hk (hs.kept (fun a h1 h2 => hS.2.1 a h1 h2)) [10, 11, 12, 13, 14] rfl 10 rfl rfl) (rest := [.int r1]) rfl hl.1 rfl (Nat.le_of_ble_eq_true rfl) d_Law_law_195 ⟨(by omega : 15 + k + 0 ≤ 600000), (by omega : 12218 + 6 * k + 0 ≤ 7302250)⟩)) (fun r2 hu2 => ?_)
        rw [← hlv] at hu2
        have heq : r1 = r2 := cellS_u hL15 hu1 hu2
        refine lv_icmp_eq hx hb d_Law_law_198 (tgt := 536) (by decide) (fun _ => ?_) (fun h => absurd heq h)
        refine lv_iinc (v := nI ((5 * k) + 5)) hx hb d_Law_law_536 hl (k := 0) rfl (ii_p _ 5) (by decide) rfl (fun ls hl => ?_)
        have hl : lv_has ls 4 [(3, .int (nI ((5 * k) + 5))), (2, .ref mo), (1, .ref o), (0, .ref b)] := hl
        refine lv_goto hx hb d_Law_law_539 (tgt := 18) (by decide) ?_
        have hl := lv_sub hl [0, 1, 2, 3] rfl
        rw [show 5 * k + 5 = 5 * (k + 1) by omega] at hl
        refine W.widen (k := 15 + (k + 1)) (n := 12218 + 6 * (k + 1)) (by omega) (by omega) ?_
        exact ih (k + 1) fr u v _ _ _ (by omega) (by omega) hl (hP.sub [0, 1, 2, 3, 4, 5, 6, 7, 8, 9, 10, 11, 12, 13, 14] rfl) (hD.sub [0, 1, 2, 3, 4, 5, 6, 7, 8, 9, 10, 11, 12, 13, 14] (by decide) rfl) hS hlk
      · refine lv_tableIn hx hb d_Law_law_32 (off := 171) (tgt := 203) (by decide) (by decide) (by decide) (by decide) ?_
        refine lv_aload_n hx hb d_Law_law_203 rfl (lv_at hl 2 rfl) ?_
        refine lv_aload_n hx hb d_Law_law_204 rfl (lv_at hl 3 rfl) ?_
        refine lv_iload_n hx hb d_Law_law_205 rfl (lv_at hl 0 rfl) ?_
        refine lv_iconst (v := nI 1) hx hb d_Law_law_206 (by decide) ?_
        refine x_iadd hx hb d_Law_law_207 ?_
        refine y_sld hx hb hX hbl hbA hS (by omega) hsl d_Law_law_208 ?_
        refine lv_aload_n hx hb d_Law_law_209 rfl (lv_at hl 3 rfl) ?_
        refine lv_iload_n hx hb d_Law_law_210 rfl (lv_at hl 0 rfl) ?_
        refine lv_iconst (v := nI 2) hx hb d_Law_law_211 (by decide) ?_
        refine x_iadd hx hb d_Law_law_212 ?_
        refine y_sld hx hb hX hbl hbA hS (by omega) hsl d_Law_law_213 ?_
        refine lv_aload_n hx hb d_Law_law_214 rfl (lv_at hl 3 rfl) ?_
        refine lv_iload_n hx hb d_Law_law_215 rfl (lv_at hl 0 rfl) ?_
        refine lv_iconst (v := nI 3) hx hb d_Law_law_216 (by decide) ?_
        refine x_iadd hx hb d_Law_law_217 ?_
        refine y_sld hx hb hX hbl hbA hS (by omega) hsl d_Law_law_218 ?_
        refine eff_W (wr := [(mo, .inr (4, [.int (nI v.1), .int (nI v.2.1.1), .ref mc_, .ref mv_, .int (nI v.2.2.1.1), .int (nI v.2.2.1.2.1), .int (nI v.2.2.1.2.2.1), .int (nI v.2.2.1.2.2.2), .ref mk_, .ref mx_])), (mc_, .inl (G.2.1, 500, .inl (fun zz => nI (v.2.1.2.1 zz)))), (mv_, .inl (G.2.1, 500, .inl (fun zz => nI (v.2.1.2.2 zz)))), (mk_, .inl (G.2.1, 4096, .inl (fun zz => nI (v.2.2.2.1 zz)))), (mx_, .inl (G.2.1, 4096, .inl (fun zz => nI (v.2.2.2.2 zz))))]) (run_V S v_Law_28 (c_CI_put la G o rw kw_ cw_ vw_ rt kt_ ct_ vt_ fr u.1 u.2.1.1 u.2.2.1.1 u.2.2.2.1 u.2.2.2.2.1 u.2.2.2.2.2.1 u.2.2.2.2.2.2 u.2.1.2.1 u.2.1.2.2.1 u.2.1.2.2.2 u.2.2.1.2.1 u.2.2.1.2.2.1 u.2.2.1.2.2.2 (xs (5 * k + 1)) (xs (5 * k + 2)) (xs (5 * k + 3)) hC _) ⟨rfl, rfl⟩ ⟨Nat.le_of_ble_eq_true rfl, Nat.le_of_ble_eq_true rfl⟩ (preW_V hP hD hA hS hk hs [0, 1, 2, 3, 4, 5, 6, 7, 8, 9] (by decide) rfl 0 rfl rfl) (rest := []) rfl hl.1 rfl (Nat.le_of_ble_eq_true rfl) d_Law_law_219 ⟨(by omega : 15 + k + 0 ≤ 600000), (by omega : 12218 + 6 * k + 0 ≤ 7302250)⟩) hP hD hA hS [0, 1, 2, 3, 4, 5, 6, 7, 8, 9] [10, 11, 12, 13, 14] rfl rfl (by decide) (by decide) (fun r1 u1 H locs hu1 hP hD hS => ?_)
        have hP : va_P G.1 cls [(mo, .inr (4, [.int (nI v.1), .int (nI v.2.1.1), .ref mc_, .ref mv_, .int (nI v.2.2.1.1), .int (nI v.2.2.1.2.1), .int (nI v.2.2.1.2.2.1), .int (nI v.2.2.1.2.2.2), .ref mk_, .ref mx_])), (mc_, .inl (G.2.1, 500, .inl (fun zz => nI (v.2.1.2.1 zz)))), (mv_, .inl (G.2.1, 500, .inl (fun zz => nI (v.2.1.2.2 zz)))), (mk_, .inl (G.2.1, 4096, .inl (fun zz => nI (v.2.2.2.1 zz)))), (mx_, .inl (G.2.1, 4096, .inl (fun zz => nI (v.2.2.2.2 zz)))), (o, .inr (0, [.ref rw, .ref rt, .int (nI u1.1.1), .ref u1.2])), (rw, .inr (1, [.ref kw_, .ref cw_, .ref vw_, .int (nI u1.1.2.1.1)])), (kw_, .inl (G.2.1, 500, .inl (fun zz => nI (u1.1.2.1.2.1 zz)))), (cw_, .inl (G.2.1, 500, .inl (fun zz => nI (u1.1.2.1.2.2.1 zz)))), (vw_, .inl (G.2.1, 500, .inl (fun zz => nI (u1.1.2.1.2.2.2 zz)))), (rt, .inr (1, [.ref kt_, .ref ct_, .ref vt_, .int (nI u1.1.2.2.1.1)])), (kt_, .inl (G.2.1, 500, .inl (fun zz => nI (u1.1.2.2.1.2.1 zz)))), (ct_, .inl (G.2.1, 500, .inl (fun zz => nI (u1.1.2.2.1.2.2.1 zz)))), (vt_, .inl (G.2.1, 500, .inl (fun zz => nI (u1.1.2.2.1.2.2.2 zz)))), (u1.2, .inr (2, [.int (nI u1.1.2.2.2.1), .int (nI u1.1.2.2.2.2.1), .int (nI u1.1.2.2.2.2.2.1), .int (nI u1.1.2.2.2.2.2.2)]))] H := hP
        have hD : va_D A [(mo, .inr (4, [.int (nI v.1), .int (nI v.2.1.1), .ref mc_, .ref mv_, .int (nI v.2.2.1.1), .int (nI v.2.2.1.2.1), .int (nI v.2.2.1.2.2.1), .int (nI v.2.2.1.2.2.2), .ref mk_, .ref mx_])), (mc_, .inl (G.2.1, 500, .inl (fun zz => nI (v.2.1.2.1 zz)))), (mv_, .inl (G.2.1, 500, .inl (fun zz => nI (v.2.1.2.2 zz)))), (mk_, .inl (G.2.1, 4096, .inl (fun zz => nI (v.2.2.2.1 zz)))), (mx_, .inl (G.2.1, 4096, .inl (fun zz => nI (v.2.2.2.2 zz)))), (o, .inr (0, [.ref rw, .ref rt, .int (nI u1.1.1), .ref u1.2])), (rw, .inr (1, [.ref kw_, .ref cw_, .ref vw_, .int (nI u1.1.2.1.1)])), (kw_, .inl (G.2.1, 500, .inl (fun zz => nI (u1.1.2.1.2.1 zz)))), (cw_, .inl (G.2.1, 500, .inl (fun zz => nI (u1.1.2.1.2.2.1 zz)))), (vw_, .inl (G.2.1, 500, .inl (fun zz => nI (u1.1.2.1.2.2.2 zz)))), (rt, .inr (1, [.ref kt_, .ref ct_, .ref vt_, .int (nI u1.1.2.2.1.1)])), (kt_, .inl (G.2.1, 500, .inl (fun zz => nI (u1.1.2.2.1.2.1 zz)))), (ct_, .inl (G.2.1, 500, .inl (fun zz => nI (u1.1.2.2.1.2.2.1 zz)))), (vt_, .inl (G.2.1, 500, .inl (fun zz => nI (u1.1.2.2.1.2.2.2 zz)))), (u1.2, .inr (2, [.int (nI u1.1.2.2.2.1), .int (nI u1.1.2.2.2.2.1), .int (nI u1.1.2.2.2.2.2.1), .int (nI u1.1.2.2.2.2.2.2)]))] := hD
        refine lv_aload_n hx hb d_Law_law_222 rfl (lv_at hl 1 rfl) ?_
        refine lv_aload_n hx hb d_Law_law_223 rfl (lv_at hl 3 rfl) ?_
        refine lv_iload_n hx hb d_Law_law_224 rfl (lv_at hl 0 rfl) ?_
        refine lv_iconst (v := nI 1) hx hb d_Law_law_225 (by decide) ?_
        refine x_iadd hx hb d_Law_law_226 ?_
        refine y_sld hx hb hX hbl hbA hS (by omega) hsl d_Law_law_227 ?_
        refine lv_aload_n hx hb d_Law_law_228 rfl (lv_at hl 3 rfl) ?_
        refine lv_iload_n hx hb d_Law_law_229 rfl (lv_at hl 0 rfl) ?_
        refine lv_iconst (v := nI 2) hx hb d_Law_law_230 (by decide) ?_
        refine x_iadd hx hb d_Law_law_231 ?_
        refine y_sld hx hb hX hbl hbA hS (by omega) hsl d_Law_law_232 ?_
        refine lv_aload_n hx hb d_Law_law_233 rfl (lv_at hl 3 rfl) ?_
        refine lv_iload_n hx hb d_Law_law_234 rfl (lv_at hl 0 rfl) ?_
        refine lv_iconst (v := nI 3) hx hb d_Law_law_235 (by decide) ?_
        refine x_iadd hx hb d_Law_law_236 ?_
        refine y_sld hx hb hX hbl hbA hS (by omega) hsl d_Law_law_237 ?_
        refine eff_W (wr := [(o, .inr (0, [.ref rw, .ref rt, .int (nI u1.1.1), .ref u1.2])), (rw, .inr (1, [.ref kw_, .ref cw_, .ref vw_, .int (nI u1.1.2.1.1)])), (kw_, .inl (G.2.1, 500, .inl (fun zz => nI (u1.1.2.1.2.1 zz)))), (cw_, .inl (G.2.1, 500, .inl (fun zz => nI (u1.1.2.1.2.2.1 zz)))), (vw_, .inl (G.2.1, 500, .inl (fun zz => nI (u1.1.2.1.2.2.2 zz)))), (rt, .inr (1, [.ref kt_, .ref ct_, .ref vt_, .int (nI u1.1.2.2.1.1)])), (kt_, .inl (G.2.1, 500, .inl (fun zz => nI (u1.1.2.2.1.2.1 zz)))), (ct_, .inl (G.2.1, 500, .inl (fun zz => nI (u1.1.2.2.1.2.2.1 zz)))), (vt_, .inl (G.2.1, 500, .inl (fun zz => nI (u1.1.2.2.1.2.2.2 zz)))), (u1.2, .inr (2, [.int (nI u1.1.2.2.2.1), .int (nI u1.1.2.2.2.2.1), .int (nI u1.1.2.2.2.2.2.1), .int (nI u1.1.2.2.2.2.2.2)]))]) (run_V S v_Law_31 (c_Mo_put la G mo mc_ mv_ mk_ mx_ v.1 v.2.1.1 v.2.2.1.1 v.2.2.1.2.1 v.2.2.1.2.2.1 v.2.2.1.2.2.2 v.2.1.2.1 v.2.1.2.2 v.2.2.2.1 v.2.2.2.2 (xs (5 * k + 1)) (xs (5 * k + 2)) (xs (5 * k + 3)) hM _) ⟨rfl, rfl⟩ ⟨Nat.le_of_ble_eq_true rfl, Nat.le_of_ble_eq_true rfl⟩ (preW_V hP hD hA hS hk hs [0, 1, 2, 3, 4] (by decide) rfl 0 rfl rfl) (rest := [.int r1]) rfl hl.1 rfl (Nat.le_of_ble_eq_true rfl) d_Law_law_238 ⟨(by omega : 15 + k + 0 + 0 ≤ 600000), (by omega : 12218 + 6 * k + 0 + 0 ≤ 7302250)⟩) hP hD hA hS [0, 1, 2, 3, 4] [5, 6, 7, 8, 9, 10, 11, 12, 13, 14] rfl rfl (by decide) (by decide) (fun r2 v1 H locs hu2 hP hD hS => ?_)
        have hP : va_P G.1 cls [(o, .inr (0, [.ref rw, .ref rt, .int (nI u1.1.1), .ref u1.2])), (rw, .inr (1, [.ref kw_, .ref cw_, .ref vw_, .int (nI u1.1.2.1.1)])), (kw_, .inl (G.2.1, 500, .inl (fun zz => nI (u1.1.2.1.2.1 zz)))), (cw_, .inl (G.2.1, 500, .inl (fun zz => nI (u1.1.2.1.2.2.1 zz)))), (vw_, .inl (G.2.1, 500, .inl (fun zz => nI (u1.1.2.1.2.2.2 zz)))), (rt, .inr (1, [.ref kt_, .ref ct_, .ref vt_, .int (nI u1.1.2.2.1.1)])), (kt_, .inl (G.2.1, 500, .inl (fun zz => nI (u1.1.2.2.1.2.1 zz)))), (ct_, .inl (G.2.1, 500, .inl (fun zz => nI (u1.1.2.2.1.2.2.1 zz)))), (vt_, .inl (G.2.1, 500, .inl (fun zz => nI (u1.1.2.2.1.2.2.2 zz)))), (u1.2, .inr (2, [.int (nI u1.1.2.2.2.1), .int (nI u1.1.2.2.2.2.1), .int (nI u1.1.2.2.2.2.2.1), .int (nI u1.1.2.2.2.2.2.2)])), (mo, .inr (4, [.int (nI v1.1), .int (nI v1.2.1.1), .ref mc_, .ref mv_, .int (nI v1.2.2.1.1), .int (nI v1.2.2.1.2.1), .int (nI v1.2.2.1.2.2.1), .int (nI v1.2.2.1.2.2.2), .ref mk_, .ref mx_])), (mc_, .inl (G.2.1, 500, .inl (fun zz => nI (v1.2.1.2.1 zz)))), (mv_, .inl (G.2.1, 500, .inl (fun zz => nI (v1.2.1.2.2 zz)))), (mk_, .inl (G.2.1, 4096, .inl (fun zz => nI (v1.2.2.2.1 zz)))), (mx_, .inl (G.2.1, 4096, .inl (fun zz => nI (v1.2.2.2.2 zz))))] H := hP
        have hD : va_D A [(o, .inr (0, [.ref rw, .ref rt, .int (nI u1.1.1), .ref u1.2])), (rw, .inr (1, [.ref kw_, .ref cw_, .ref vw_, .int (nI u1.1.2.1.1)])), (kw_, .inl (G.2.1, 500, .inl (fun zz => nI (u1.1.2.1.2.1 zz)))), (cw_, .inl (G.2.1, 500, .inl (fun zz => nI (u1.1.2.1.2.2.1 zz)))), (vw_, .inl (G.2.1, 500, .inl (fun zz => nI (u1.1.2.1.2.2.2 zz)))), (rt, .inr (1, [.ref kt_, .ref ct_, .ref vt_, .int (nI u1.1.2.2.1.1)])), (kt_, .inl (G.2.1, 500, .inl (fun zz => nI (u1.1.2.2.1.2.1 zz)))), (ct_, .inl (G.2.1, 500, .inl (fun zz => nI (u1.1.2.2.1.2.2.1 zz)))), (vt_, .inl (G.2.1, 500, .inl (fun zz => nI (u1.1.2.2.1.2.2.2 zz)))), (u1.2, .inr (2, [.int (nI u1.1.2.2.2.1), .int (nI u1.1.2.2.2.2.1), .int (nI u1.1.2.2.2.2.2.1), .int (nI u1.1.2.2.2.2.2.2)])), (mo, .inr (4, [.int (nI v1.1), .int (nI v1.2.1.1), .ref mc_, .ref mv_, .int (nI v1.2.2.1.1), .int (nI v1.2.2.1.2.1), .int (nI v1.2.2.1.2.2.1), .int (nI v1.2.2.1.2.2.2), .ref mk_, .ref mx_])), (mc_, .inl (G.2.1, 500, .inl (fun zz => nI (v1.2.1.2.1 zz)))), (mv_, .inl (G.2.1, 500, .inl (fun zz => nI (v1.2.1.2.2 zz)))), (mk_, .inl (G.2.1, 4096, .inl (fun zz => nI (v1.2.2.2.1 zz)))), (mx_, .inl (G.2.1, 4096, .inl (fun zz => nI (v1.2.2.2.2 zz))))] := hD
        obtain ⟨heq, hlk', -⟩ := lk_put (fr := fr) hlk hu1 hu2
        clear hu1 hu2
        refine lv_icmp_eq hx hb d_Law_law_241 (tgt := 536) (by decide) (fun _ => ?_) (fun h => absurd heq h)
        refine lv_iinc (v := nI ((5 * k) + 5)) hx hb d_Law_law_536 hl (k := 0) rfl (ii_p _ 5) (by decide) rfl (fun ls hl => ?_)
        have hl : lv_has ls 4 [(3, .int (nI ((5 * k) + 5))), (2, .ref mo), (1, .ref o), (0, .ref b)] := hl
        refine lv_goto hx hb d_Law_law_539 (tgt := 18) (by decide) ?_
        have hl := lv_sub hl [0, 1, 2, 3] rfl
        rw [show 5 * k + 5 = 5 * (k + 1) by omega] at hl
        refine W.widen (k := 15 + (k + 1)) (n := 12218 + 6 * (k + 1)) (by omega) (by omega) ?_
        exact ih (k + 1) u1.2 u1.1 v1 _ _ _ (by omega) (by omega) hl (hP.sub [0, 1, 2, 3, 4, 5, 6, 7, 8, 9, 10, 11, 12, 13, 14] rfl) (hD.sub [0, 1, 2, 3, 4, 5, 6, 7, 8, 9, 10, 11, 12, 13, 14] (by decide) rfl) hS hlk'
      · refine lv_tableIn hx hb d_Law_law_32 (off := 214) (tgt := 246) (by decide) (by decide) (by decide) (by decide) ?_
        refine lv_aload_n hx hb d_Law_law_246 rfl (lv_at hl 2 rfl) ?_
        refine lv_aload_n hx hb d_Law_law_247 rfl (lv_at hl 3 rfl) ?_
        refine lv_iload_n hx hb d_Law_law_248 rfl (lv_at hl 0 rfl) ?_
        refine lv_iconst (v := nI 1) hx hb d_Law_law_249 (by decide) ?_
        refine x_iadd hx hb d_Law_law_250 ?_
        refine y_sld hx hb hX hbl hbA hS (by omega) hsl d_Law_law_251 ?_
        refine lv_aload_n hx hb d_Law_law_252 rfl (lv_at hl 3 rfl) ?_
        refine lv_iload_n hx hb d_Law_law_253 rfl (lv_at hl 0 rfl) ?_
        refine lv_iconst (v := nI 2) hx hb d_Law_law_254 (by decide) ?_
        refine x_iadd hx hb d_Law_law_255 ?_
        refine y_sld hx hb hX hbl hbA hS (by omega) hsl d_Law_law_256 ?_
        refine eff_W (wr := [(mo, .inr (4, [.int (nI v.1), .int (nI v.2.1.1), .ref mc_, .ref mv_, .int (nI v.2.2.1.1), .int (nI v.2.2.1.2.1), .int (nI v.2.2.1.2.2.1), .int (nI v.2.2.1.2.2.2), .ref mk_, .ref mx_])), (mc_, .inl (G.2.1, 500, .inl (fun zz => nI (v.2.1.2.1 zz)))), (mv_, .inl (G.2.1, 500, .inl (fun zz => nI (v.2.1.2.2 zz)))), (mk_, .inl (G.2.1, 4096, .inl (fun zz => nI (v.2.2.2.1 zz)))), (mx_, .inl (G.2.1, 4096, .inl (fun zz => nI (v.2.2.2.2 zz))))]) (run_V S v_Law_32 (c_CI_take la G o rw kw_ cw_ vw_ rt kt_ ct_ vt_ fr u.1 u.2.1.1 u.2.2.1.1 u.2.2.2.1 u.2.2.2.2.1 u.2.2.2.2.2.1 u.2.2.2.2.2.2 u.2.1.2.1 u.2.1.2.2.1 u.2.1.2.2.2 u.2.2.1.2.1 u.2.2.1.2.2.1 u.2.2.1.2.2.2 (xs (5 * k + 1)) (xs (5 * k + 2)) hC _) ⟨rfl, rfl⟩ ⟨Nat.le_of_ble_eq_true rfl, Nat.le_of_ble_eq_true rfl⟩ (preW_V hP hD hA hS hk hs [0, 1, 2, 3, 4, 5, 6, 7, 8, 9] (by decide) rfl 0 rfl rfl) (rest := []) rfl hl.1 rfl (Nat.le_of_ble_eq_true rfl) d_Law_law_257 ⟨(by omega : 15 + k + 0 ≤ 600000), (by omega : 12218 + 6 * k + 0 ≤ 7302250)⟩) hP hD hA hS [0, 1, 2, 3, 4, 5, 6, 7, 8, 9] [10, 11, 12, 13, 14] rfl rfl (by decide) (by decide) (fun r1 u1 H locs hu1 hP hD hS => ?_)
        have hP : va_P G.1 cls [(mo, .inr (4, [.int (nI v.1), .int (nI v.2.1.1), .ref mc_, .ref mv_, .int (nI v.2.2.1.1), .int (nI v.2.2.1.2.1), .int (nI v.2.2.1.2.2.1), .int (nI v.2.2.1.2.2.2), .ref mk_, .ref mx_])), (mc_, .inl (G.2.1, 500, .inl (fun zz => nI (v.2.1.2.1 zz)))), (mv_, .inl (G.2.1, 500, .inl (fun zz => nI (v.2.1.2.2 zz)))), (mk_, .inl (G.2.1, 4096, .inl (fun zz => nI (v.2.2.2.1 zz)))), (mx_, .inl (G.2.1, 4096, .inl (fun zz => nI (v.2.2.2.2 zz)))), (o, .inr (0, [.ref rw, .ref rt, .int (nI u1.1.1), .ref u1.2])), (rw, .inr (1, [.ref kw_, .ref cw_, .ref vw_, .int (nI u1.1.2.1.1)])), (kw_, .inl (G.2.1, 500, .inl (fun zz => nI (u1.1.2.1.2.1 zz)))), (cw_, .inl (G.2.1, 500, .inl (fun zz => nI (u1.1.2.1.2.2.1 zz)))), (vw_, .inl (G.2.1, 500, .inl (fun zz => nI (u1.1.2.1.2.2.2 zz)))), (rt, .inr (1, [.ref kt_, .ref ct_, .ref vt_, .int (nI u1.1.2.2.1.1)])), (kt_, .inl (G.2.1, 500, .inl (fun zz => nI (u1.1.2.2.1.2.1 zz)))), (ct_, .inl (G.2.1, 500, .inl (fun zz => nI (u1.1.2.2.1.2.2.1 zz)))), (vt_, .inl (G.2.1, 500, .inl (fun zz => nI (u1.1.2.2.1.2.2.2 zz)))), (u1.2, .inr (2, [.int (nI u1.1.2.2.2.1), .int (nI u1.1.2.2.2.2.1), .int (nI u1.1.2.2.2.2.2.1), .int (nI u1.1.2.2.2.2.2.2)]))] H := hP
        have hD : va_D A [(mo, .inr (4, [.int (nI v.1), .int (nI v.2.1.1), .ref mc_, .ref mv_, .int (nI v.2.2.1.1), .int (nI v.2.2.1.2.1), .int (nI v.2.2.1.2.2.1), .int (nI v.2.2.1.2.2.2), .ref mk_, .ref mx_])), (mc_, .inl (G.2.1, 500, .inl (fun zz => nI (v.2.1.2.1 zz)))), (mv_, .inl (G.2.1, 500, .inl (fun zz => nI (v.2.1.2.2 zz)))), (mk_, .inl (G.2.1, 4096, .inl (fun zz => nI (v.2.2.2.1 zz)))), (mx_, .inl (G.2.1, 4096, .inl (fun zz => nI (v.2.2.2.2 zz)))), (o, .inr (0, [.ref rw, .ref rt, .int (nI u1.1.1), .ref u1.2])), (rw, .inr (1, [.ref kw_, .ref cw_, .ref vw_, .int (nI u1.1.2.1.1)])), (kw_, .inl (G.2.1, 500, .inl (fun zz => nI (u1.1.2.1.2.1 zz)))), (cw_, .inl (G.2.1, 500, .inl (fun zz => nI (u1.1.2.1.2.2.1 zz)))), (vw_, .inl (G.2.1, 500, .inl (fun zz => nI (u1.1.2.1.2.2.2 zz)))), (rt, .inr (1, [.ref kt_, .ref ct_, .ref vt_, .int (nI u1.1.2.2.1.1)])), (kt_, .inl (G.2.1, 500, .inl (fun zz => nI (u1.1.2.2.1.2.1 zz)))), (ct_, .inl (G.2.1, 500, .inl (fun zz => nI (u1.1.2.2.1.2.2.1 zz)))), (vt_, .inl (G.2.1, 500, .inl (fun zz => nI (u1.1.2.2.1.2.2.2 zz)))), (u1.2, .inr (2, [.int (nI u1.1.2.2.2.1), .int (nI u1.1.2.2.2.2.1), .int (nI u1.1.2.2.2.2.2.1), .int (nI u1.1.2.2.2.2.2.2)]))] := hD
        refine lv_aload_n hx hb d_Law_law_260 rfl (lv_at hl 1 rfl) ?_
        refine lv_aload_n hx hb d_Law_law_261 rfl (lv_at hl 3 rfl) ?_
        refine lv_iload_n hx hb d_Law_law_262 rfl (lv_at hl 0 rfl) ?_
        refine lv_iconst (v := nI 1) hx hb d_Law_law_263 (by decide) ?_
        refine x_iadd hx hb d_Law_law_264 ?_
        refine y_sld hx hb hX hbl hbA hS (by omega) hsl d_Law_law_265 ?_
        refine lv_aload_n hx hb d_Law_law_266 rfl (lv_at hl 3 rfl) ?_
        refine lv_iload_n hx hb d_Law_law_267 rfl (lv_at hl 0 rfl) ?_
        refine lv_iconst (v := nI 2) hx hb d_Law_law_268 (by decide) ?_
        refine x_iadd hx hb d_Law_law_269 ?_
        refine y_sld hx hb hX hbl hbA hS (by omega) hsl d_Law_law_270 ?_
        refine eff_W (wr := [(o, .inr (0, [.ref rw, .ref rt, .int (nI u1.1.1), .ref u1.2])), (rw, .inr (1, [.ref kw_, .ref cw_, .ref vw_, .int (nI u1.1.2.1.1)])), (kw_, .inl (G.2.1, 500, .inl (fun zz => nI (u1.1.2.1.2.1 zz)))), (cw_, .inl (G.2.1, 500, .inl (fun zz => nI (u1.1.2.1.2.2.1 zz)))), (vw_, .inl (G.2.1, 500, .inl (fun zz => nI (u1.1.2.1.2.2.2 zz)))), (rt, .inr (1, [.ref kt_, .ref ct_, .ref vt_, .int (nI u1.1.2.2.1.1)])), (kt_, .inl (G.2.1, 500, .inl (fun zz => nI (u1.1.2.2.1.2.1 zz)))), (ct_, .inl (G.2.1, 500, .inl (fun zz => nI (u1.1.2.2.1.2.2.1 zz)))), (vt_, .inl (G.2.1, 500, .inl (fun zz => nI (u1.1.2.2.1.2.2.2 zz)))), (u1.2, .inr (2, [.int (nI u1.1.2.2.2.1), .int (nI u1.1.2.2.2.2.1), .int (nI u1.1.2.2.2.2.2.1), .int (nI u1.1.2.2.2.2.2.2)]))]) (run_V S v_Law_35 (c_Mo_take la G mo mc_ mv_ mk_ mx_ v.1 v.2.1.1 v.2.2.1.1 v.2.2.1.2.1 v.2.2.1.2.2.1 v.2.2.1.2.2.2 v.2.1.2.1 v.2.1.2.2 v.2.2.2.1 v.2.2.2.2 (xs (5 * k + 1)) (xs (5 * k + 2)) hM _) ⟨rfl, rfl⟩ ⟨Nat.le_of_ble_eq_true rfl, Nat.le_of_ble_eq_true rfl⟩ (preW_V hP hD hA hS hk hs [0, 1, 2, 3, 4] (by decide) rfl 0 rfl rfl) (rest := [.int r1]) rfl hl.1 rfl (Nat.le_of_ble_eq_true rfl) d_Law_law_271 ⟨(by omega : 15 + k + 0 + 0 ≤ 600000), (by omega : 12218 + 6 * k + 0 + 0 ≤ 7302250)⟩) hP hD hA hS [0, 1, 2, 3, 4] [5, 6, 7, 8, 9, 10, 11, 12, 13, 14] rfl rfl (by decide) (by decide) (fun r2 v1 H locs hu2 hP hD hS => ?_)
        have hP : va_P G.1 cls [(o, .inr (0, [.ref rw, .ref rt, .int (nI u1.1.1), .ref u1.2])), (rw, .inr (1, [.ref kw_, .ref cw_, .ref vw_, .int (nI u1.1.2.1.1)])), (kw_, .inl (G.2.1, 500, .inl (fun zz => nI (u1.1.2.1.2.1 zz)))), (cw_, .inl (G.2.1, 500, .inl (fun zz => nI (u1.1.2.1.2.2.1 zz)))), (vw_, .inl (G.2.1, 500, .inl (fun zz => nI (u1.1.2.1.2.2.2 zz)))), (rt, .inr (1, [.ref kt_, .ref ct_, .ref vt_, .int (nI u1.1.2.2.1.1)])), (kt_, .inl (G.2.1, 500, .inl (fun zz => nI (u1.1.2.2.1.2.1 zz)))), (ct_, .inl (G.2.1, 500, .inl (fun zz => nI (u1.1.2.2.1.2.2.1 zz)))), (vt_, .inl (G.2.1, 500, .inl (fun zz => nI (u1.1.2.2.1.2.2.2 zz)))), (u1.2, .inr (2, [.int (nI u1.1.2.2.2.1), .int (nI u1.1.2.2.2.2.1), .int (nI u1.1.2.2.2.2.2.1), .int (nI u1.1.2.2.2.2.2.2)])), (mo, .inr (4, [.int (nI v1.1), .int (nI v1.2.1.1), .ref mc_, .ref mv_, .int (nI v1.2.2.1.1), .int (nI v1.2.2.1.2.1), .int (nI v1.2.2.1.2.2.1), .int (nI v1.2.2.1.2.2.2), .ref mk_, .ref mx_])), (mc_, .inl (G.2.1, 500, .inl (fun zz => nI (v1.2.1.2.1 zz)))), (mv_, .inl (G.2.1, 500, .inl (fun zz => nI (v1.2.1.2.2 zz)))), (mk_, .inl (G.2.1, 4096, .inl (fun zz => nI (v1.2.2.2.1 zz)))), (mx_, .inl (G.2.1, 4096, .inl (fun zz => nI (v1.2.2.2.2 zz))))] H := hP
        have hD : va_D A [(o, .inr (0, [.ref rw, .ref rt, .int (nI u1.1.1), .ref u1.2])), (rw, .inr (1, [.ref kw_, .ref cw_, .ref vw_, .int (nI u1.1.2.1.1)])), (kw_, .inl (G.2.1, 500, .inl (fun zz => nI (u1.1.2.1.2.1 zz)))), (cw_, .inl (G.2.1, 500, .inl (fun zz => nI (u1.1.2.1.2.2.1 zz)))), (vw_, .inl (G.2.1, 500, .inl (fun zz => nI (u1.1.2.1.2.2.2 zz)))), (rt, .inr (1, [.ref kt_, .ref ct_, .ref vt_, .int (nI u1.1.2.2.1.1)])), (kt_, .inl (G.2.1, 500, .inl (fun zz => nI (u1.1.2.2.1.2.1 zz)))), (ct_, .inl (G.2.1, 500, .inl (fun zz => nI (u1.1.2.2.1.2.2.1 zz)))), (vt_, .inl (G.2.1, 500, .inl (fun zz => nI (u1.1.2.2.1.2.2.2 zz)))), (u1.2, .inr (2, [.int (nI u1.1.2.2.2.1), .int (nI u1.1.2.2.2.2.1), .int (nI u1.1.2.2.2.2.2.1), .int (nI u1.1.2.2.2.2.2.2)])), (mo, .inr (4, [.int (nI v1.1), .int (nI v1.2.1.1), .ref mc_, .ref mv_, .int (nI v1.2.2.1.1), .int (nI v1.2.2.1.2.1), .int (nI v1.2.2.1.2.2.1), .int (nI v1.2.2.1.2.2.2), .ref mk_, .ref mx_])), (mc_, .inl (G.2.1, 500, .inl (fun zz => nI (v1.2.1.2.1 zz)))), (mv_, .inl (G.2.1, 500, .inl (fun zz => nI (v1.2.1.2.2 zz)))), (mk_, .inl (G.2.1, 4096, .inl (fun zz => nI (v1.2.2.2.1 zz)))), (mx_, .inl (G.2.1, 4096, .inl (fun zz => nI (v1.2.2.2.2 zz))))] := hD
        obtain ⟨heq, hlk', -⟩ := lk_take (fr := fr) hlk hu1 hu2
        clear hu1 hu2
        refine lv_icmp_eq hx hb d_Law_law_274 (tgt := 536) (by decide) (fun _ => ?_) (fun h => absurd heq h)
        refine lv_iinc (v := nI ((5 * k) + 5)) hx hb d_Law_law_536 hl (k := 0) rfl (ii_p _ 5) (by decide) rfl (fun ls hl => ?_)
        have hl : lv_has ls 4 [(3, .int (nI ((5 * k) + 5))), (2, .ref mo), (1, .ref o), (0, .ref b)] := hl
        refine lv_goto hx hb d_Law_law_539 (tgt := 18) (by decide) ?_
        have hl := lv_sub hl [0, 1, 2, 3] rfl
        rw [show 5 * k + 5 = 5 * (k + 1) by omega] at hl
        refine W.widen (k := 15 + (k + 1)) (n := 12218 + 6 * (k + 1)) (by omega) (by omega) ?_
        exact ih (k + 1) u1.2 u1.1 v1 _ _ _ (by omega) (by omega) hl (hP.sub [0, 1, 2, 3, 4, 5, 6, 7, 8, 9, 10, 11, 12, 13, 14] rfl) (hD.sub [0, 1, 2, 3, 4, 5, 6, 7, 8, 9, 10, 11, 12, 13, 14] (by decide) rfl) hS hlk'
      · refine lv_tableIn hx hb d_Law_law_32 (off := 247) (tgt := 279) (by decide) (by decide) (by decide) (by decide) ?_
        refine lv_aload_n hx hb d_Law_law_279 rfl (lv_at hl 2 rfl) ?_
        refine lv_aload_n hx hb d_Law_law_280 rfl (lv_at hl 3 rfl) ?_
        refine lv_iload_n hx hb d_Law_law_281 rfl (lv_at hl 0 rfl) ?_
        refine lv_iconst (v := nI 1) hx hb d_Law_law_282 (by decide) ?_
        refine x_iadd hx hb d_Law_law_283 ?_
        refine y_sld hx hb hX hbl hbA hS (by omega) hsl d_Law_law_284 ?_
        refine lv_aload_n hx hb d_Law_law_285 rfl (lv_at hl 3 rfl) ?_
        refine lv_iload_n hx hb d_Law_law_286 rfl (lv_at hl 0 rfl) ?_
        refine lv_iconst (v := nI 2) hx hb d_Law_law_287 (by decide) ?_
        refine x_iadd hx hb d_Law_law_288 ?_
        refine y_sld hx hb hX hbl hbA hS (by omega) hsl d_Law_law_289 ?_
        refine vp_callSi (va_Run.run (run_V S v_Law_36 (c_CI_at la G o rw kw_ cw_ vw_ rt kt_ ct_ vt_ fr u.1 u.2.1.1 u.2.2.1.1 u.2.2.2.1 u.2.2.2.2.1 u.2.2.2.2.2.1 u.2.2.2.2.2.2 u.2.1.2.1 u.2.1.2.2.1 u.2.1.2.2.2 u.2.2.1.2.1 u.2.2.1.2.2.1 u.2.2.1.2.2.2 (xs (5 * k + 1)) (xs (5 * k + 2)) hC) ⟨rfl, rfl⟩ ⟨Nat.le_of_ble_eq_true rfl, Nat.le_of_ble_eq_true rfl⟩ (preR_V hP hk (hs.kept (fun a h1 h2 => hS.2.1 a h1 h2)) [0, 1, 2, 3, 4, 5, 6, 7, 8, 9] rfl 0 rfl rfl) (rest := []) rfl hl.1 rfl (Nat.le_of_ble_eq_true rfl) d_Law_law_290 ⟨(by omega : 15 + k + 0 ≤ 600000), (by omega : 12218 + 6 * k + 0 ≤ 7302250)⟩)) (fun r1 hu1 => ?_)
        refine lv_aload_n hx hb d_Law_law_293 rfl (lv_at hl 1 rfl) ?_
        refine lv_aload_n hx hb d_Law_law_294 rfl (lv_at hl 3 rfl) ?_
        refine lv_iload_n hx hb d_Law_law_295 rfl (lv_at hl 0 rfl) ?_
        refine lv_iconst (v := nI 1) hx hb d_Law_law_296 (by decide) ?_
        refine x_iadd hx hb d_Law_law_297 ?_
        refine y_sld hx hb hX hbl hbA hS (by omega) hsl d_Law_law_298 ?_
        refine lv_aload_n hx hb d_Law_law_299 rfl (lv_at hl 3 rfl) ?_
        refine lv_iload_n hx hb d_Law_law_300 rfl (lv_at hl 0 rfl) ?_
        refine lv_iconst (v := nI 2) hx hb d_Law_law_301 (by decide) ?_
        refine x_iadd hx hb d_Law_law_302 ?_
        refine y_sld hx hb hX hbl hbA hS (by omega) hsl d_Law_law_303 ?_
        refine vp_callSi (va_Run.run (run_V S v_Law_39 (c_Mo_at la G mo mc_ mv_ mk_ mx_ v.1 v.2.1.1 v.2.2.1.1 v.2.2.1.2.1 v.2.2.1.2.2.1 v.2.2.1.2.2.2 v.2.1.2.1 v.2.1.2.2 v.2.2.2.1 v.2.2.2.2 (xs (5 * k + 1)) (xs (5 * k + 2)) hM) ⟨rfl, rfl⟩ ⟨Nat.le_of_ble_eq_true rfl, Nat.le_of_ble_eq_true rfl⟩ (preR_V hP hk (hs.kept (fun a h1 h2 => hS.2.1 a h1 h2)) [10, 11, 12, 13, 14] rfl 10 rfl rfl) (rest := [.int r1]) rfl hl.1 rfl (Nat.le_of_ble_eq_true rfl) d_Law_law_304 ⟨(by omega : 15 + k + 0 ≤ 600000), (by omega : 12218 + 6 * k + 0 ≤ 7302250)⟩)) (fun r2 hu2 => ?_)
        rw [← hlv] at hu2
        have heq : r1 = r2 := atS_u hL15 hsm hu1 hu2
        refine lv_icmp_eq hx hb d_Law_law_307 (tgt := 536) (by decide) (fun _ => ?_) (fun h => absurd heq h)
        refine lv_iinc (v := nI ((5 * k) + 5)) hx hb d_Law_law_536 hl (k := 0) rfl (ii_p _ 5) (by decide) rfl (fun ls hl => ?_)
        have hl : lv_has ls 4 [(3, .int (nI ((5 * k) + 5))), (2, .ref mo), (1, .ref o), (0, .ref b)] := hl
        refine lv_goto hx hb d_Law_law_539 (tgt := 18) (by decide) ?_
        have hl := lv_sub hl [0, 1, 2, 3] rfl
        rw [show 5 * k + 5 = 5 * (k + 1) by omega] at hl
        refine W.widen (k := 15 + (k + 1)) (n := 12218 + 6 * (k + 1)) (by omega) (by omega) ?_
        exact ih (k + 1) fr u v _ _ _ (by omega) (by omega) hl (hP.sub [0, 1, 2, 3, 4, 5, 6, 7, 8, 9, 10, 11, 12, 13, 14] rfl) (hD.sub [0, 1, 2, 3, 4, 5, 6, 7, 8, 9, 10, 11, 12, 13, 14] (by decide) rfl) hS hlk
      · refine lv_tableIn hx hb d_Law_law_32 (off := 280) (tgt := 312) (by decide) (by decide) (by decide) (by decide) ?_
        refine lv_aload_n hx hb d_Law_law_312 rfl (lv_at hl 2 rfl) ?_
        refine vp_callSi (va_Run.run (run_V S v_Law_40 (c_CI_many la G o rw kw_ cw_ vw_ rt kt_ ct_ vt_ fr u.1 u.2.1.1 u.2.2.1.1 u.2.2.2.1 u.2.2.2.2.1 u.2.2.2.2.2.1 u.2.2.2.2.2.2 u.2.1.2.1 u.2.1.2.2.1 u.2.1.2.2.2 u.2.2.1.2.1 u.2.2.1.2.2.1 u.2.2.1.2.2.2  hC) ⟨rfl, rfl⟩ ⟨Nat.le_of_ble_eq_true rfl, Nat.le_of_ble_eq_true rfl⟩ (preR_V hP hk (hs.kept (fun a h1 h2 => hS.2.1 a h1 h2)) [0, 1, 2, 3, 4, 5, 6, 7, 8, 9] rfl 0 rfl rfl) (rest := []) rfl hl.1 rfl (Nat.le_of_ble_eq_true rfl) d_Law_law_313 ⟨(by omega : 15 + k + 0 ≤ 600000), (by omega : 12218 + 6 * k + 0 ≤ 7302250)⟩)) (fun r1 hu1 => ?_)
        refine lv_aload_n hx hb d_Law_law_316 rfl (lv_at hl 1 rfl) ?_
        refine vp_callSi (va_Run.run (run_V S v_Law_44 (c_Mo_many la G mo mc_ mv_ mk_ mx_ v.1 v.2.1.1 v.2.2.1.1 v.2.2.1.2.1 v.2.2.1.2.2.1 v.2.2.1.2.2.2 v.2.1.2.1 v.2.1.2.2 v.2.2.2.1 v.2.2.2.2  hM) ⟨rfl, rfl⟩ ⟨Nat.le_of_ble_eq_true rfl, Nat.le_of_ble_eq_true rfl⟩ (preR_V hP hk (hs.kept (fun a h1 h2 => hS.2.1 a h1 h2)) [10, 11, 12, 13, 14] rfl 10 rfl rfl) (rest := [.int r1]) rfl hl.1 rfl (Nat.le_of_ble_eq_true rfl) d_Law_law_317 ⟨(by omega : 15 + k + 0 ≤ 600000), (by omega : 12218 + 6 * k + 0 ≤ 7302250)⟩)) (fun r2 hu2 => ?_)
        have heq : r1 = r2 := by rw [hu1, hu2, hsm.many]
        refine lv_icmp_eq hx hb d_Law_law_320 (tgt := 536) (by decide) (fun _ => ?_) (fun h => absurd heq h)
        refine lv_iinc (v := nI ((5 * k) + 5)) hx hb d_Law_law_536 hl (k := 0) rfl (ii_p _ 5) (by decide) rfl (fun ls hl => ?_)
        have hl : lv_has ls 4 [(3, .int (nI ((5 * k) + 5))), (2, .ref mo), (1, .ref o), (0, .ref b)] := hl
        refine lv_goto hx hb d_Law_law_539 (tgt := 18) (by decide) ?_
        have hl := lv_sub hl [0, 1, 2, 3] rfl
        rw [show 5 * k + 5 = 5 * (k + 1) by omega] at hl
        refine W.widen (k := 15 + (k + 1)) (n := 12218 + 6 * (k + 1)) (by omega) (by omega) ?_
        exact ih (k + 1) fr u v _ _ _ (by omega) (by omega) hl (hP.sub [0, 1, 2, 3, 4, 5, 6, 7, 8, 9, 10, 11, 12, 13, 14] rfl) (hD.sub [0, 1, 2, 3, 4, 5, 6, 7, 8, 9, 10, 11, 12, 13, 14] (by decide) rfl) hS hlk
      · refine lv_tableIn hx hb d_Law_law_32 (off := 293) (tgt := 325) (by decide) (by decide) (by decide) (by decide) ?_
        refine lv_aload_n hx hb d_Law_law_325 rfl (lv_at hl 2 rfl) ?_
        refine lv_aload_n hx hb d_Law_law_326 rfl (lv_at hl 3 rfl) ?_
        refine lv_iload_n hx hb d_Law_law_327 rfl (lv_at hl 0 rfl) ?_
        refine lv_iconst (v := nI 1) hx hb d_Law_law_328 (by decide) ?_
        refine x_iadd hx hb d_Law_law_329 ?_
        refine y_sld hx hb hX hbl hbA hS (by omega) hsl d_Law_law_330 ?_
        refine lv_aload_n hx hb d_Law_law_331 rfl (lv_at hl 3 rfl) ?_
        refine lv_iload_n hx hb d_Law_law_332 rfl (lv_at hl 0 rfl) ?_
        refine lv_iconst (v := nI 2) hx hb d_Law_law_333 (by decide) ?_
        refine x_iadd hx hb d_Law_law_334 ?_
        refine y_sld hx hb hX hbl hbA hS (by omega) hsl d_Law_law_335 ?_
        refine lv_aload_n hx hb d_Law_law_336 rfl (lv_at hl 3 rfl) ?_
        refine lv_iload_n hx hb d_Law_law_337 rfl (lv_at hl 0 rfl) ?_
        refine lv_iconst (v := nI 3) hx hb d_Law_law_338 (by decide) ?_
        refine x_iadd hx hb d_Law_law_339 ?_
        refine y_sld hx hb hX hbl hbA hS (by omega) hsl d_Law_law_340 ?_
        refine lv_aload_n hx hb d_Law_law_341 rfl (lv_at hl 3 rfl) ?_
        refine lv_iload_n hx hb d_Law_law_342 rfl (lv_at hl 0 rfl) ?_
        refine lv_iconst (v := nI 4) hx hb d_Law_law_343 (by decide) ?_
        refine x_iadd hx hb d_Law_law_344 ?_
        refine y_sld hx hb hX hbl hbA hS (by omega) hsl d_Law_law_345 ?_
        refine eff_W (wr := [(mo, .inr (4, [.int (nI v.1), .int (nI v.2.1.1), .ref mc_, .ref mv_, .int (nI v.2.2.1.1), .int (nI v.2.2.1.2.1), .int (nI v.2.2.1.2.2.1), .int (nI v.2.2.1.2.2.2), .ref mk_, .ref mx_])), (mc_, .inl (G.2.1, 500, .inl (fun zz => nI (v.2.1.2.1 zz)))), (mv_, .inl (G.2.1, 500, .inl (fun zz => nI (v.2.1.2.2 zz)))), (mk_, .inl (G.2.1, 4096, .inl (fun zz => nI (v.2.2.2.1 zz)))), (mx_, .inl (G.2.1, 4096, .inl (fun zz => nI (v.2.2.2.2 zz))))]) (run_V S v_Law_45 (c_CI_window la G o rw kw_ cw_ vw_ rt kt_ ct_ vt_ fr u.1 u.2.1.1 u.2.2.1.1 u.2.2.2.1 u.2.2.2.2.1 u.2.2.2.2.2.1 u.2.2.2.2.2.2 u.2.1.2.1 u.2.1.2.2.1 u.2.1.2.2.2 u.2.2.1.2.1 u.2.2.1.2.2.1 u.2.2.1.2.2.2 (xs (5 * k + 1)) (xs (5 * k + 2)) (xs (5 * k + 3)) (xs (5 * k + 4)) hC _) ⟨rfl, rfl⟩ ⟨Nat.le_of_ble_eq_true rfl, Nat.le_of_ble_eq_true rfl⟩ (preW_V hP hD hA hS hk hs [0, 1, 2, 3, 4, 5, 6, 7, 8, 9] (by decide) rfl 0 rfl rfl) (rest := []) rfl hl.1 rfl (Nat.le_of_ble_eq_true rfl) d_Law_law_346 ⟨(by omega : 15 + k + 1 ≤ 600000), (by omega : 12218 + 6 * k + 4 ≤ 7302250)⟩) hP hD hA hS [0, 1, 2, 3, 4, 5, 6, 7, 8, 9] [10, 11, 12, 13, 14] rfl rfl (by decide) (by decide) (fun r1 u1 H locs hu1 hP hD hS => ?_)
        have hP : va_P G.1 cls [(mo, .inr (4, [.int (nI v.1), .int (nI v.2.1.1), .ref mc_, .ref mv_, .int (nI v.2.2.1.1), .int (nI v.2.2.1.2.1), .int (nI v.2.2.1.2.2.1), .int (nI v.2.2.1.2.2.2), .ref mk_, .ref mx_])), (mc_, .inl (G.2.1, 500, .inl (fun zz => nI (v.2.1.2.1 zz)))), (mv_, .inl (G.2.1, 500, .inl (fun zz => nI (v.2.1.2.2 zz)))), (mk_, .inl (G.2.1, 4096, .inl (fun zz => nI (v.2.2.2.1 zz)))), (mx_, .inl (G.2.1, 4096, .inl (fun zz => nI (v.2.2.2.2 zz)))), (o, .inr (0, [.ref rw, .ref rt, .int (nI u1.1.1), .ref u1.2])), (rw, .inr (1, [.ref kw_, .ref cw_, .ref vw_, .int (nI u1.1.2.1.1)])), (kw_, .inl (G.2.1, 500, .inl (fun zz => nI (u1.1.2.1.2.1 zz)))), (cw_, .inl (G.2.1, 500, .inl (fun zz => nI (u1.1.2.1.2.2.1 zz)))), (vw_, .inl (G.2.1, 500, .inl (fun zz => nI (u1.1.2.1.2.2.2 zz)))), (rt, .inr (1, [.ref kt_, .ref ct_, .ref vt_, .int (nI u1.1.2.2.1.1)])), (kt_, .inl (G.2.1, 500, .inl (fun zz => nI (u1.1.2.2.1.2.1 zz)))), (ct_, .inl (G.2.1, 500, .inl (fun zz => nI (u1.1.2.2.1.2.2.1 zz)))), (vt_, .inl (G.2.1, 500, .inl (fun zz => nI (u1.1.2.2.1.2.2.2 zz)))), (u1.2, .inr (2, [.int (nI u1.1.2.2.2.1), .int (nI u1.1.2.2.2.2.1), .int (nI u1.1.2.2.2.2.2.1), .int (nI u1.1.2.2.2.2.2.2)]))] H := hP
        have hD : va_D A [(mo, .inr (4, [.int (nI v.1), .int (nI v.2.1.1), .ref mc_, .ref mv_, .int (nI v.2.2.1.1), .int (nI v.2.2.1.2.1), .int (nI v.2.2.1.2.2.1), .int (nI v.2.2.1.2.2.2), .ref mk_, .ref mx_])), (mc_, .inl (G.2.1, 500, .inl (fun zz => nI (v.2.1.2.1 zz)))), (mv_, .inl (G.2.1, 500, .inl (fun zz => nI (v.2.1.2.2 zz)))), (mk_, .inl (G.2.1, 4096, .inl (fun zz => nI (v.2.2.2.1 zz)))), (mx_, .inl (G.2.1, 4096, .inl (fun zz => nI (v.2.2.2.2 zz)))), (o, .inr (0, [.ref rw, .ref rt, .int (nI u1.1.1), .ref u1.2])), (rw, .inr (1, [.ref kw_, .ref cw_, .ref vw_, .int (nI u1.1.2.1.1)])), (kw_, .inl (G.2.1, 500, .inl (fun zz => nI (u1.1.2.1.2.1 zz)))), (cw_, .inl (G.2.1, 500, .inl (fun zz => nI (u1.1.2.1.2.2.1 zz)))), (vw_, .inl (G.2.1, 500, .inl (fun zz => nI (u1.1.2.1.2.2.2 zz)))), (rt, .inr (1, [.ref kt_, .ref ct_, .ref vt_, .int (nI u1.1.2.2.1.1)])), (kt_, .inl (G.2.1, 500, .inl (fun zz => nI (u1.1.2.2.1.2.1 zz)))), (ct_, .inl (G.2.1, 500, .inl (fun zz => nI (u1.1.2.2.1.2.2.1 zz)))), (vt_, .inl (G.2.1, 500, .inl (fun zz => nI (u1.1.2.2.1.2.2.2 zz)))), (u1.2, .inr (2, [.int (nI u1.1.2.2.2.1), .int (nI u1.1.2.2.2.2.1), .int (nI u1.1.2.2.2.2.2.1), .int (nI u1.1.2.2.2.2.2.2)]))] := hD
        refine lv_aload_n hx hb d_Law_law_349 rfl (lv_at hl 1 rfl) ?_
        refine lv_aload_n hx hb d_Law_law_350 rfl (lv_at hl 3 rfl) ?_
        refine lv_iload_n hx hb d_Law_law_351 rfl (lv_at hl 0 rfl) ?_
        refine lv_iconst (v := nI 1) hx hb d_Law_law_352 (by decide) ?_
        refine x_iadd hx hb d_Law_law_353 ?_
        refine y_sld hx hb hX hbl hbA hS (by omega) hsl d_Law_law_354 ?_
        refine lv_aload_n hx hb d_Law_law_355 rfl (lv_at hl 3 rfl) ?_
        refine lv_iload_n hx hb d_Law_law_356 rfl (lv_at hl 0 rfl) ?_
        refine lv_iconst (v := nI 2) hx hb d_Law_law_357 (by decide) ?_
        refine x_iadd hx hb d_Law_law_358 ?_
        refine y_sld hx hb hX hbl hbA hS (by omega) hsl d_Law_law_359 ?_
        refine lv_aload_n hx hb d_Law_law_360 rfl (lv_at hl 3 rfl) ?_
        refine lv_iload_n hx hb d_Law_law_361 rfl (lv_at hl 0 rfl) ?_
        refine lv_iconst (v := nI 3) hx hb d_Law_law_362 (by decide) ?_
        refine x_iadd hx hb d_Law_law_363 ?_
        refine y_sld hx hb hX hbl hbA hS (by omega) hsl d_Law_law_364 ?_
        refine lv_aload_n hx hb d_Law_law_365 rfl (lv_at hl 3 rfl) ?_
        refine lv_iload_n hx hb d_Law_law_366 rfl (lv_at hl 0 rfl) ?_
        refine lv_iconst (v := nI 4) hx hb d_Law_law_367 (by decide) ?_
        refine x_iadd hx hb d_Law_law_368 ?_
        refine y_sld hx hb hX hbl hbA hS (by omega) hsl d_Law_law_369 ?_
        refine eff_W (wr := [(o, .inr (0, [.ref rw, .ref rt, .int (nI u1.1.1), .ref u1.2])), (rw, .inr (1, [.ref kw_, .ref cw_, .ref vw_, .int (nI u1.1.2.1.1)])), (kw_, .inl (G.2.1, 500, .inl (fun zz => nI (u1.1.2.1.2.1 zz)))), (cw_, .inl (G.2.1, 500, .inl (fun zz => nI (u1.1.2.1.2.2.1 zz)))), (vw_, .inl (G.2.1, 500, .inl (fun zz => nI (u1.1.2.1.2.2.2 zz)))), (rt, .inr (1, [.ref kt_, .ref ct_, .ref vt_, .int (nI u1.1.2.2.1.1)])), (kt_, .inl (G.2.1, 500, .inl (fun zz => nI (u1.1.2.2.1.2.1 zz)))), (ct_, .inl (G.2.1, 500, .inl (fun zz => nI (u1.1.2.2.1.2.2.1 zz)))), (vt_, .inl (G.2.1, 500, .inl (fun zz => nI (u1.1.2.2.1.2.2.2 zz)))), (u1.2, .inr (2, [.int (nI u1.1.2.2.2.1), .int (nI u1.1.2.2.2.2.1), .int (nI u1.1.2.2.2.2.2.1), .int (nI u1.1.2.2.2.2.2.2)]))]) (run_V S v_Law_49 (c_Mo_window la G mo mc_ mv_ mk_ mx_ v.1 v.2.1.1 v.2.2.1.1 v.2.2.1.2.1 v.2.2.1.2.2.1 v.2.2.1.2.2.2 v.2.1.2.1 v.2.1.2.2 v.2.2.2.1 v.2.2.2.2 (xs (5 * k + 1)) (xs (5 * k + 2)) (xs (5 * k + 3)) (xs (5 * k + 4)) hM _) ⟨rfl, rfl⟩ ⟨Nat.le_of_ble_eq_true rfl, Nat.le_of_ble_eq_true rfl⟩ (preW_V hP hD hA hS hk hs [0, 1, 2, 3, 4] (by decide) rfl 0 rfl rfl) (rest := [.int r1]) rfl hl.1 rfl (Nat.le_of_ble_eq_true rfl) d_Law_law_370 ⟨(by omega : 15 + k + 1 + 0 ≤ 600000), (by omega : 12218 + 6 * k + 4 + 0 ≤ 7302250)⟩) hP hD hA hS [0, 1, 2, 3, 4] [5, 6, 7, 8, 9, 10, 11, 12, 13, 14] rfl rfl (by decide) (by decide) (fun r2 v1 H locs hu2 hP hD hS => ?_)
        have hP : va_P G.1 cls [(o, .inr (0, [.ref rw, .ref rt, .int (nI u1.1.1), .ref u1.2])), (rw, .inr (1, [.ref kw_, .ref cw_, .ref vw_, .int (nI u1.1.2.1.1)])), (kw_, .inl (G.2.1, 500, .inl (fun zz => nI (u1.1.2.1.2.1 zz)))), (cw_, .inl (G.2.1, 500, .inl (fun zz => nI (u1.1.2.1.2.2.1 zz)))), (vw_, .inl (G.2.1, 500, .inl (fun zz => nI (u1.1.2.1.2.2.2 zz)))), (rt, .inr (1, [.ref kt_, .ref ct_, .ref vt_, .int (nI u1.1.2.2.1.1)])), (kt_, .inl (G.2.1, 500, .inl (fun zz => nI (u1.1.2.2.1.2.1 zz)))), (ct_, .inl (G.2.1, 500, .inl (fun zz => nI (u1.1.2.2.1.2.2.1 zz)))), (vt_, .inl (G.2.1, 500, .inl (fun zz => nI (u1.1.2.2.1.2.2.2 zz)))), (u1.2, .inr (2, [.int (nI u1.1.2.2.2.1), .int (nI u1.1.2.2.2.2.1), .int (nI u1.1.2.2.2.2.2.1), .int (nI u1.1.2.2.2.2.2.2)])), (mo, .inr (4, [.int (nI v1.1), .int (nI v1.2.1.1), .ref mc_, .ref mv_, .int (nI v1.2.2.1.1), .int (nI v1.2.2.1.2.1), .int (nI v1.2.2.1.2.2.1), .int (nI v1.2.2.1.2.2.2), .ref mk_, .ref mx_])), (mc_, .inl (G.2.1, 500, .inl (fun zz => nI (v1.2.1.2.1 zz)))), (mv_, .inl (G.2.1, 500, .inl (fun zz => nI (v1.2.1.2.2 zz)))), (mk_, .inl (G.2.1, 4096, .inl (fun zz => nI (v1.2.2.2.1 zz)))), (mx_, .inl (G.2.1, 4096, .inl (fun zz => nI (v1.2.2.2.2 zz))))] H := hP
        have hD : va_D A [(o, .inr (0, [.ref rw, .ref rt, .int (nI u1.1.1), .ref u1.2])), (rw, .inr (1, [.ref kw_, .ref cw_, .ref vw_, .int (nI u1.1.2.1.1)])), (kw_, .inl (G.2.1, 500, .inl (fun zz => nI (u1.1.2.1.2.1 zz)))), (cw_, .inl (G.2.1, 500, .inl (fun zz => nI (u1.1.2.1.2.2.1 zz)))), (vw_, .inl (G.2.1, 500, .inl (fun zz => nI (u1.1.2.1.2.2.2 zz)))), (rt, .inr (1, [.ref kt_, .ref ct_, .ref vt_, .int (nI u1.1.2.2.1.1)])), (kt_, .inl (G.2.1, 500, .inl (fun zz => nI (u1.1.2.2.1.2.1 zz)))), (ct_, .inl (G.2.1, 500, .inl (fun zz => nI (u1.1.2.2.1.2.2.1 zz)))), (vt_, .inl (G.2.1, 500, .inl (fun zz => nI (u1.1.2.2.1.2.2.2 zz)))), (u1.2, .inr (2, [.int (nI u1.1.2.2.2.1), .int (nI u1.1.2.2.2.2.1), .int (nI u1.1.2.2.2.2.2.1), .int (nI u1.1.2.2.2.2.2.2)])), (mo, .inr (4, [.int (nI v1.1), .int (nI v1.2.1.1), .ref mc_, .ref mv_, .int (nI v1.2.2.1.1), .int (nI v1.2.2.1.2.1), .int (nI v1.2.2.1.2.2.1), .int (nI v1.2.2.1.2.2.2), .ref mk_, .ref mx_])), (mc_, .inl (G.2.1, 500, .inl (fun zz => nI (v1.2.1.2.1 zz)))), (mv_, .inl (G.2.1, 500, .inl (fun zz => nI (v1.2.1.2.2 zz)))), (mk_, .inl (G.2.1, 4096, .inl (fun zz => nI (v1.2.2.2.1 zz)))), (mx_, .inl (G.2.1, 4096, .inl (fun zz => nI (v1.2.2.2.2 zz))))] := hD
        obtain ⟨heq, hlk'⟩ := lk_window (fr := fr) hlk hu1 hu2
        clear hu1 hu2
        refine lv_icmp_eq hx hb d_Law_law_373 (tgt := 536) (by decide) (fun _ => ?_) (fun h => absurd heq h)
        refine lv_iinc (v := nI ((5 * k) + 5)) hx hb d_Law_law_536 hl (k := 0) rfl (ii_p _ 5) (by decide) rfl (fun ls hl => ?_)
        have hl : lv_has ls 4 [(3, .int (nI ((5 * k) + 5))), (2, .ref mo), (1, .ref o), (0, .ref b)] := hl
        refine lv_goto hx hb d_Law_law_539 (tgt := 18) (by decide) ?_
        have hl := lv_sub hl [0, 1, 2, 3] rfl
        rw [show 5 * k + 5 = 5 * (k + 1) by omega] at hl
        refine W.widen (k := 15 + (k + 1)) (n := 12218 + 6 * (k + 1)) (by omega) (by omega) ?_
        exact ih (k + 1) u1.2 u1.1 v1 _ _ _ (by omega) (by omega) hl (hP.sub [0, 1, 2, 3, 4, 5, 6, 7, 8, 9, 10, 11, 12, 13, 14] rfl) (hD.sub [0, 1, 2, 3, 4, 5, 6, 7, 8, 9, 10, 11, 12, 13, 14] (by decide) rfl) hS hlk'
      · refine lv_tableIn hx hb d_Law_law_32 (off := 346) (tgt := 378) (by decide) (by decide) (by decide) (by decide) ?_
        refine lv_aload_n hx hb d_Law_law_378 rfl (lv_at hl 2 rfl) ?_
        refine vp_callSi (va_Run.run (run_V S v_Law_50 (c_CI_inside la G o rw kw_ cw_ vw_ rt kt_ ct_ vt_ fr u.1 u.2.1.1 u.2.2.1.1 u.2.2.2.1 u.2.2.2.2.1 u.2.2.2.2.2.1 u.2.2.2.2.2.2 u.2.1.2.1 u.2.1.2.2.1 u.2.1.2.2.2 u.2.2.1.2.1 u.2.2.1.2.2.1 u.2.2.1.2.2.2  hC) ⟨rfl, rfl⟩ ⟨Nat.le_of_ble_eq_true rfl, Nat.le_of_ble_eq_true rfl⟩ (preR_V hP hk (hs.kept (fun a h1 h2 => hS.2.1 a h1 h2)) [0, 1, 2, 3, 4, 5, 6, 7, 8, 9] rfl 0 rfl rfl) (rest := []) rfl hl.1 rfl (Nat.le_of_ble_eq_true rfl) d_Law_law_379 ⟨(by omega : 15 + k + 0 ≤ 600000), (by omega : 12218 + 6 * k + 0 ≤ 7302250)⟩)) (fun r1 hu1 => ?_)
        refine lv_aload_n hx hb d_Law_law_382 rfl (lv_at hl 1 rfl) ?_
        refine vp_callSi (va_Run.run (run_V S v_Law_53 (c_Mo_inside la G mo mc_ mv_ mk_ mx_ v.1 v.2.1.1 v.2.2.1.1 v.2.2.1.2.1 v.2.2.1.2.2.1 v.2.2.1.2.2.2 v.2.1.2.1 v.2.1.2.2 v.2.2.2.1 v.2.2.2.2  hM) ⟨rfl, rfl⟩ ⟨Nat.le_of_ble_eq_true rfl, Nat.le_of_ble_eq_true rfl⟩ (preR_V hP hk (hs.kept (fun a h1 h2 => hS.2.1 a h1 h2)) [10, 11, 12, 13, 14] rfl 10 rfl rfl) (rest := [.int r1]) rfl hl.1 rfl (Nat.le_of_ble_eq_true rfl) d_Law_law_383 ⟨(by omega : 15 + k + 0 ≤ 600000), (by omega : 12218 + 6 * k + 0 ≤ 7302250)⟩)) (fun r2 hu2 => ?_)
        have hu2 : r2 = nI (ins v.1 v.2.2.1 v.2.1.1 v.2.1.2.1) := hu2
        have hu1 : r1 = nI (ins u.1 u.2.2.2 u.2.2.1.1 u.2.2.1.2.2.1) := hu1
        have heq : r1 = r2 := by rw [hu1, hu2, ← hlv, ← hfv, hsm.ins]
        refine lv_icmp_eq hx hb d_Law_law_386 (tgt := 536) (by decide) (fun _ => ?_) (fun h => absurd heq h)
        refine lv_iinc (v := nI ((5 * k) + 5)) hx hb d_Law_law_536 hl (k := 0) rfl (ii_p _ 5) (by decide) rfl (fun ls hl => ?_)
        have hl : lv_has ls 4 [(3, .int (nI ((5 * k) + 5))), (2, .ref mo), (1, .ref o), (0, .ref b)] := hl
        refine lv_goto hx hb d_Law_law_539 (tgt := 18) (by decide) ?_
        have hl := lv_sub hl [0, 1, 2, 3] rfl
        rw [show 5 * k + 5 = 5 * (k + 1) by omega] at hl
        refine W.widen (k := 15 + (k + 1)) (n := 12218 + 6 * (k + 1)) (by omega) (by omega) ?_
        exact ih (k + 1) fr u v _ _ _ (by omega) (by omega) hl (hP.sub [0, 1, 2, 3, 4, 5, 6, 7, 8, 9, 10, 11, 12, 13, 14] rfl) (hD.sub [0, 1, 2, 3, 4, 5, 6, 7, 8, 9, 10, 11, 12, 13, 14] (by decide) rfl) hS hlk
      · refine lv_tableIn hx hb d_Law_law_32 (off := 359) (tgt := 391) (by decide) (by decide) (by decide) (by decide) ?_
        refine lv_aload_n hx hb d_Law_law_391 rfl (lv_at hl 2 rfl) ?_
        refine vp_callSi (va_Run.run (run_V S v_Law_54 (c_CI_sum la G o rw kw_ cw_ vw_ rt kt_ ct_ vt_ fr u.1 u.2.1.1 u.2.2.1.1 u.2.2.2.1 u.2.2.2.2.1 u.2.2.2.2.2.1 u.2.2.2.2.2.2 u.2.1.2.1 u.2.1.2.2.1 u.2.1.2.2.2 u.2.2.1.2.1 u.2.2.1.2.2.1 u.2.2.1.2.2.2  hC) ⟨rfl, rfl⟩ ⟨Nat.le_of_ble_eq_true rfl, Nat.le_of_ble_eq_true rfl⟩ (preR_V hP hk (hs.kept (fun a h1 h2 => hS.2.1 a h1 h2)) [0, 1, 2, 3, 4, 5, 6, 7, 8, 9] rfl 0 rfl rfl) (rest := []) rfl hl.1 rfl (Nat.le_of_ble_eq_true rfl) d_Law_law_392 ⟨(by omega : 15 + k + 0 ≤ 600000), (by omega : 12218 + 6 * k + 0 ≤ 7302250)⟩)) (fun r1 hu1 => ?_)
        refine lv_aload_n hx hb d_Law_law_395 rfl (lv_at hl 1 rfl) ?_
        refine vp_callSi (va_Run.run (run_V S v_Law_57 (c_Mo_sum la G mo mc_ mv_ mk_ mx_ v.1 v.2.1.1 v.2.2.1.1 v.2.2.1.2.1 v.2.2.1.2.2.1 v.2.2.1.2.2.2 v.2.1.2.1 v.2.1.2.2 v.2.2.2.1 v.2.2.2.2  hM) ⟨rfl, rfl⟩ ⟨Nat.le_of_ble_eq_true rfl, Nat.le_of_ble_eq_true rfl⟩ (preR_V hP hk (hs.kept (fun a h1 h2 => hS.2.1 a h1 h2)) [10, 11, 12, 13, 14] rfl 10 rfl rfl) (rest := [.int r1]) rfl hl.1 rfl (Nat.le_of_ble_eq_true rfl) d_Law_law_396 ⟨(by omega : 15 + k + 0 ≤ 600000), (by omega : 12218 + 6 * k + 0 ≤ 7302250)⟩)) (fun r2 hu2 => ?_)
        have hu2 : r2 = nI (sum v.1 v.2.2.1 v.2.1.1 v.2.1.2.1 v.2.1.2.2) := hu2
        have hu1 : r1 = nI (sum u.1 u.2.2.2 u.2.2.1.1 u.2.2.1.2.2.1 u.2.2.1.2.2.2) := hu1
        have heq : r1 = r2 := by rw [hu1, hu2, ← hlv, ← hfv, hsm.sum]
        refine lv_icmp_eq hx hb d_Law_law_399 (tgt := 536) (by decide) (fun _ => ?_) (fun h => absurd heq h)
        refine lv_iinc (v := nI ((5 * k) + 5)) hx hb d_Law_law_536 hl (k := 0) rfl (ii_p _ 5) (by decide) rfl (fun ls hl => ?_)
        have hl : lv_has ls 4 [(3, .int (nI ((5 * k) + 5))), (2, .ref mo), (1, .ref o), (0, .ref b)] := hl
        refine lv_goto hx hb d_Law_law_539 (tgt := 18) (by decide) ?_
        have hl := lv_sub hl [0, 1, 2, 3] rfl
        rw [show 5 * k + 5 = 5 * (k + 1) by omega] at hl
        refine W.widen (k := 15 + (k + 1)) (n := 12218 + 6 * (k + 1)) (by omega) (by omega) ?_
        exact ih (k + 1) fr u v _ _ _ (by omega) (by omega) hl (hP.sub [0, 1, 2, 3, 4, 5, 6, 7, 8, 9, 10, 11, 12, 13, 14] rfl) (hD.sub [0, 1, 2, 3, 4, 5, 6, 7, 8, 9, 10, 11, 12, 13, 14] (by decide) rfl) hS hlk
      · refine lv_tableIn hx hb d_Law_law_32 (off := 372) (tgt := 404) (by decide) (by decide) (by decide) (by decide) ?_
        refine lv_aload_n hx hb d_Law_law_404 rfl (lv_at hl 2 rfl) ?_
        refine lv_aload_n hx hb d_Law_law_405 rfl (lv_at hl 3 rfl) ?_
        refine lv_iload_n hx hb d_Law_law_406 rfl (lv_at hl 0 rfl) ?_
        refine lv_iconst (v := nI 1) hx hb d_Law_law_407 (by decide) ?_
        refine x_iadd hx hb d_Law_law_408 ?_
        refine y_sld hx hb hX hbl hbA hS (by omega) hsl d_Law_law_409 ?_
        refine lv_aload_n hx hb d_Law_law_410 rfl (lv_at hl 3 rfl) ?_
        refine lv_iload_n hx hb d_Law_law_411 rfl (lv_at hl 0 rfl) ?_
        refine lv_iconst (v := nI 2) hx hb d_Law_law_412 (by decide) ?_
        refine x_iadd hx hb d_Law_law_413 ?_
        refine y_sld hx hb hX hbl hbA hS (by omega) hsl d_Law_law_414 ?_
        refine vp_callSi (va_Run.run (run_V S v_Law_58 (c_CI_nth la G o rw kw_ cw_ vw_ rt kt_ ct_ vt_ fr u.1 u.2.1.1 u.2.2.1.1 u.2.2.2.1 u.2.2.2.2.1 u.2.2.2.2.2.1 u.2.2.2.2.2.2 u.2.1.2.1 u.2.1.2.2.1 u.2.1.2.2.2 u.2.2.1.2.1 u.2.2.1.2.2.1 u.2.2.1.2.2.2 (xs (5 * k + 1)) (xs (5 * k + 2)) hC) ⟨rfl, rfl⟩ ⟨Nat.le_of_ble_eq_true rfl, Nat.le_of_ble_eq_true rfl⟩ (preR_V hP hk (hs.kept (fun a h1 h2 => hS.2.1 a h1 h2)) [0, 1, 2, 3, 4, 5, 6, 7, 8, 9] rfl 0 rfl rfl) (rest := []) rfl hl.1 rfl (Nat.le_of_ble_eq_true rfl) d_Law_law_415 ⟨(by omega : 15 + k + 0 ≤ 600000), (by omega : 12218 + 6 * k + 0 ≤ 7302250)⟩)) (fun r1 hu1 => ?_)
        refine lv_aload_n hx hb d_Law_law_418 rfl (lv_at hl 1 rfl) ?_
        refine lv_aload_n hx hb d_Law_law_419 rfl (lv_at hl 3 rfl) ?_
        refine lv_iload_n hx hb d_Law_law_420 rfl (lv_at hl 0 rfl) ?_
        refine lv_iconst (v := nI 1) hx hb d_Law_law_421 (by decide) ?_
        refine x_iadd hx hb d_Law_law_422 ?_
        refine y_sld hx hb hX hbl hbA hS (by omega) hsl d_Law_law_423 ?_
        refine lv_aload_n hx hb d_Law_law_424 rfl (lv_at hl 3 rfl) ?_
        refine lv_iload_n hx hb d_Law_law_425 rfl (lv_at hl 0 rfl) ?_
        refine lv_iconst (v := nI 2) hx hb d_Law_law_426 (by decide) ?_
        refine x_iadd hx hb d_Law_law_427 ?_
        refine y_sld hx hb hX hbl hbA hS (by omega) hsl d_Law_law_428 ?_
        refine vp_callSi (va_Run.run (run_V S v_Law_61 (c_Mo_nth la G mo mc_ mv_ mk_ mx_ v.1 v.2.1.1 v.2.2.1.1 v.2.2.1.2.1 v.2.2.1.2.2.1 v.2.2.1.2.2.2 v.2.1.2.1 v.2.1.2.2 v.2.2.2.1 v.2.2.2.2 (xs (5 * k + 1)) (xs (5 * k + 2)) hM) ⟨rfl, rfl⟩ ⟨Nat.le_of_ble_eq_true rfl, Nat.le_of_ble_eq_true rfl⟩ (preR_V hP hk (hs.kept (fun a h1 h2 => hS.2.1 a h1 h2)) [10, 11, 12, 13, 14] rfl 10 rfl rfl) (rest := [.int r1]) rfl hl.1 rfl (Nat.le_of_ble_eq_true rfl) d_Law_law_429 ⟨(by omega : 15 + k + 0 ≤ 600000), (by omega : 12218 + 6 * k + 0 ≤ 7302250)⟩)) (fun r2 hu2 => ?_)
        have hu2 : nthQ v.1 v.2.2.1 v.2.1.1 v.2.1.2.1 v.2.1.1 v.2.1.2.1 _ _ r2 := hu2
        have hu1 : nthQ u.1 u.2.2.2 u.2.1.1 u.2.1.2.2.1 u.2.2.1.1 u.2.2.1.2.2.1 _ _ r1 := hu1
        rw [← hlv, ← hfv] at hu2
        have heq : r1 = r2 := nthQ_u (hC.2.2.2.2.2.2.tr hsm) hsm hM.2.1.1 (fun j hj => by rw [hlv]; exact (hM.2.1.2.1 j hj).1) hu1 hu2
        refine lv_icmp_eq hx hb d_Law_law_432 (tgt := 536) (by decide) (fun _ => ?_) (fun h => absurd heq h)
        refine lv_iinc (v := nI ((5 * k) + 5)) hx hb d_Law_law_536 hl (k := 0) rfl (ii_p _ 5) (by decide) rfl (fun ls hl => ?_)
        have hl : lv_has ls 4 [(3, .int (nI ((5 * k) + 5))), (2, .ref mo), (1, .ref o), (0, .ref b)] := hl
        refine lv_goto hx hb d_Law_law_539 (tgt := 18) (by decide) ?_
        have hl := lv_sub hl [0, 1, 2, 3] rfl
        rw [show 5 * k + 5 = 5 * (k + 1) by omega] at hl
        refine W.widen (k := 15 + (k + 1)) (n := 12218 + 6 * (k + 1)) (by omega) (by omega) ?_
        exact ih (k + 1) fr u v _ _ _ (by omega) (by omega) hl (hP.sub [0, 1, 2, 3, 4, 5, 6, 7, 8, 9, 10, 11, 12, 13, 14] rfl) (hD.sub [0, 1, 2, 3, 4, 5, 6, 7, 8, 9, 10, 11, 12, 13, 14] (by decide) rfl) hS hlk
      · refine lv_tableIn hx hb d_Law_law_32 (off := 405) (tgt := 437) (by decide) (by decide) (by decide) (by decide) ?_
        refine lv_aload_n hx hb d_Law_law_437 rfl (lv_at hl 2 rfl) ?_
        refine lv_aload_n hx hb d_Law_law_438 rfl (lv_at hl 3 rfl) ?_
        refine lv_iload_n hx hb d_Law_law_439 rfl (lv_at hl 0 rfl) ?_
        refine lv_iconst (v := nI 1) hx hb d_Law_law_440 (by decide) ?_
        refine x_iadd hx hb d_Law_law_441 ?_
        refine y_sld hx hb hX hbl hbA hS (by omega) hsl d_Law_law_442 ?_
        refine eff_W (wr := [(mo, .inr (4, [.int (nI v.1), .int (nI v.2.1.1), .ref mc_, .ref mv_, .int (nI v.2.2.1.1), .int (nI v.2.2.1.2.1), .int (nI v.2.2.1.2.2.1), .int (nI v.2.2.1.2.2.2), .ref mk_, .ref mx_])), (mc_, .inl (G.2.1, 500, .inl (fun zz => nI (v.2.1.2.1 zz)))), (mv_, .inl (G.2.1, 500, .inl (fun zz => nI (v.2.1.2.2 zz)))), (mk_, .inl (G.2.1, 4096, .inl (fun zz => nI (v.2.2.2.1 zz)))), (mx_, .inl (G.2.1, 4096, .inl (fun zz => nI (v.2.2.2.2 zz))))]) (run_V S v_Law_62 (c_CI_runs la G o rw kw_ cw_ vw_ rt kt_ ct_ vt_ fr u.1 u.2.1.1 u.2.2.1.1 u.2.2.2.1 u.2.2.2.2.1 u.2.2.2.2.2.1 u.2.2.2.2.2.2 u.2.1.2.1 u.2.1.2.2.1 u.2.1.2.2.2 u.2.2.1.2.1 u.2.2.1.2.2.1 u.2.2.1.2.2.2 (xs (5 * k + 1)) hC _) ⟨rfl, rfl⟩ ⟨Nat.le_of_ble_eq_true rfl, Nat.le_of_ble_eq_true rfl⟩ (preW_V hP hD hA hS hk hs [0, 1, 2, 3, 4, 5, 6, 7, 8, 9] (by decide) rfl 0 rfl rfl) (rest := []) rfl hl.1 rfl (Nat.le_of_ble_eq_true rfl) d_Law_law_443 ⟨(by omega : 15 + k + 1 ≤ 600000), (by omega : 12218 + 6 * k + 6 ≤ 7302250)⟩) hP hD hA hS [0, 1, 2, 3, 4, 5, 6, 7, 8, 9] [10, 11, 12, 13, 14] rfl rfl (by decide) (by decide) (fun r1 u1 H locs hu1 hP hD hS => ?_)
        obtain ⟨hu1, rfl⟩ := hu1
        have hP : va_P G.1 cls [(mo, .inr (4, [.int (nI v.1), .int (nI v.2.1.1), .ref mc_, .ref mv_, .int (nI v.2.2.1.1), .int (nI v.2.2.1.2.1), .int (nI v.2.2.1.2.2.1), .int (nI v.2.2.1.2.2.2), .ref mk_, .ref mx_])), (mc_, .inl (G.2.1, 500, .inl (fun zz => nI (v.2.1.2.1 zz)))), (mv_, .inl (G.2.1, 500, .inl (fun zz => nI (v.2.1.2.2 zz)))), (mk_, .inl (G.2.1, 4096, .inl (fun zz => nI (v.2.2.2.1 zz)))), (mx_, .inl (G.2.1, 4096, .inl (fun zz => nI (v.2.2.2.2 zz)))), (o, .inr (0, [.ref rw, .ref rt, .int (nI u.1), .ref fr])), (rw, .inr (1, [.ref kw_, .ref cw_, .ref vw_, .int (nI u.2.1.1)])), (kw_, .inl (G.2.1, 500, .inl (fun zz => nI (u.2.1.2.1 zz)))), (cw_, .inl (G.2.1, 500, .inl (fun zz => nI (u.2.1.2.2.1 zz)))), (vw_, .inl (G.2.1, 500, .inl (fun zz => nI (u.2.1.2.2.2 zz)))), (rt, .inr (1, [.ref kt_, .ref ct_, .ref vt_, .int (nI u.2.2.1.1)])), (kt_, .inl (G.2.1, 500, .inl (fun zz => nI (u.2.2.1.2.1 zz)))), (ct_, .inl (G.2.1, 500, .inl (fun zz => nI (u.2.2.1.2.2.1 zz)))), (vt_, .inl (G.2.1, 500, .inl (fun zz => nI (u.2.2.1.2.2.2 zz)))), (fr, .inr (2, [.int (nI u.2.2.2.1), .int (nI u.2.2.2.2.1), .int (nI u.2.2.2.2.2.1), .int (nI u.2.2.2.2.2.2)]))] H := hP
        have hD : va_D A [(mo, .inr (4, [.int (nI v.1), .int (nI v.2.1.1), .ref mc_, .ref mv_, .int (nI v.2.2.1.1), .int (nI v.2.2.1.2.1), .int (nI v.2.2.1.2.2.1), .int (nI v.2.2.1.2.2.2), .ref mk_, .ref mx_])), (mc_, .inl (G.2.1, 500, .inl (fun zz => nI (v.2.1.2.1 zz)))), (mv_, .inl (G.2.1, 500, .inl (fun zz => nI (v.2.1.2.2 zz)))), (mk_, .inl (G.2.1, 4096, .inl (fun zz => nI (v.2.2.2.1 zz)))), (mx_, .inl (G.2.1, 4096, .inl (fun zz => nI (v.2.2.2.2 zz)))), (o, .inr (0, [.ref rw, .ref rt, .int (nI u.1), .ref fr])), (rw, .inr (1, [.ref kw_, .ref cw_, .ref vw_, .int (nI u.2.1.1)])), (kw_, .inl (G.2.1, 500, .inl (fun zz => nI (u.2.1.2.1 zz)))), (cw_, .inl (G.2.1, 500, .inl (fun zz => nI (u.2.1.2.2.1 zz)))), (vw_, .inl (G.2.1, 500, .inl (fun zz => nI (u.2.1.2.2.2 zz)))), (rt, .inr (1, [.ref kt_, .ref ct_, .ref vt_, .int (nI u.2.2.1.1)])), (kt_, .inl (G.2.1, 500, .inl (fun zz => nI (u.2.2.1.2.1 zz)))), (ct_, .inl (G.2.1, 500, .inl (fun zz => nI (u.2.2.1.2.2.1 zz)))), (vt_, .inl (G.2.1, 500, .inl (fun zz => nI (u.2.2.1.2.2.2 zz)))), (fr, .inr (2, [.int (nI u.2.2.2.1), .int (nI u.2.2.2.2.1), .int (nI u.2.2.2.2.2.1), .int (nI u.2.2.2.2.2.2)]))] := hD
        refine lv_aload_n hx hb d_Law_law_446 rfl (lv_at hl 1 rfl) ?_
        refine lv_aload_n hx hb d_Law_law_447 rfl (lv_at hl 3 rfl) ?_
        refine lv_iload_n hx hb d_Law_law_448 rfl (lv_at hl 0 rfl) ?_
        refine lv_iconst (v := nI 1) hx hb d_Law_law_449 (by decide) ?_
        refine x_iadd hx hb d_Law_law_450 ?_
        refine y_sld hx hb hX hbl hbA hS (by omega) hsl d_Law_law_451 ?_
        refine eff_W (wr := [(o, .inr (0, [.ref rw, .ref rt, .int (nI u.1), .ref fr])), (rw, .inr (1, [.ref kw_, .ref cw_, .ref vw_, .int (nI u.2.1.1)])), (kw_, .inl (G.2.1, 500, .inl (fun zz => nI (u.2.1.2.1 zz)))), (cw_, .inl (G.2.1, 500, .inl (fun zz => nI (u.2.1.2.2.1 zz)))), (vw_, .inl (G.2.1, 500, .inl (fun zz => nI (u.2.1.2.2.2 zz)))), (rt, .inr (1, [.ref kt_, .ref ct_, .ref vt_, .int (nI u.2.2.1.1)])), (kt_, .inl (G.2.1, 500, .inl (fun zz => nI (u.2.2.1.2.1 zz)))), (ct_, .inl (G.2.1, 500, .inl (fun zz => nI (u.2.2.1.2.2.1 zz)))), (vt_, .inl (G.2.1, 500, .inl (fun zz => nI (u.2.2.1.2.2.2 zz)))), (fr, .inr (2, [.int (nI u.2.2.2.1), .int (nI u.2.2.2.2.1), .int (nI u.2.2.2.2.2.1), .int (nI u.2.2.2.2.2.2)]))]) (run_V S v_Law_66 (c_Mo_runs la G mo mc_ mv_ mk_ mx_ v.1 v.2.1.1 v.2.2.1.1 v.2.2.1.2.1 v.2.2.1.2.2.1 v.2.2.1.2.2.2 v.2.1.2.1 v.2.1.2.2 v.2.2.2.1 v.2.2.2.2 (xs (5 * k + 1)) hM _) ⟨rfl, rfl⟩ ⟨Nat.le_of_ble_eq_true rfl, Nat.le_of_ble_eq_true rfl⟩ (preW_V hP hD hA hS hk hs [0, 1, 2, 3, 4] (by decide) rfl 0 rfl rfl) (rest := [.int r1]) rfl hl.1 rfl (Nat.le_of_ble_eq_true rfl) d_Law_law_452 ⟨(by omega : 15 + k + 1 + 0 ≤ 600000), (by omega : 12218 + 6 * k + 6 + 0 ≤ 7302250)⟩) hP hD hA hS [0, 1, 2, 3, 4] [5, 6, 7, 8, 9, 10, 11, 12, 13, 14] rfl rfl (by decide) (by decide) (fun r2 v1 H locs hu2 hP hD hS => ?_)
        have hP : va_P G.1 cls [(o, .inr (0, [.ref rw, .ref rt, .int (nI u.1), .ref fr])), (rw, .inr (1, [.ref kw_, .ref cw_, .ref vw_, .int (nI u.2.1.1)])), (kw_, .inl (G.2.1, 500, .inl (fun zz => nI (u.2.1.2.1 zz)))), (cw_, .inl (G.2.1, 500, .inl (fun zz => nI (u.2.1.2.2.1 zz)))), (vw_, .inl (G.2.1, 500, .inl (fun zz => nI (u.2.1.2.2.2 zz)))), (rt, .inr (1, [.ref kt_, .ref ct_, .ref vt_, .int (nI u.2.2.1.1)])), (kt_, .inl (G.2.1, 500, .inl (fun zz => nI (u.2.2.1.2.1 zz)))), (ct_, .inl (G.2.1, 500, .inl (fun zz => nI (u.2.2.1.2.2.1 zz)))), (vt_, .inl (G.2.1, 500, .inl (fun zz => nI (u.2.2.1.2.2.2 zz)))), (fr, .inr (2, [.int (nI u.2.2.2.1), .int (nI u.2.2.2.2.1), .int (nI u.2.2.2.2.2.1), .int (nI u.2.2.2.2.2.2)])), (mo, .inr (4, [.int (nI v.1), .int (nI v.2.1.1), .ref mc_, .ref mv_, .int (nI v.2.2.1.1), .int (nI v.2.2.1.2.1), .int (nI v.2.2.1.2.2.1), .int (nI v.2.2.1.2.2.2), .ref mk_, .ref mx_])), (mc_, .inl (G.2.1, 500, .inl (fun zz => nI (v.2.1.2.1 zz)))), (mv_, .inl (G.2.1, 500, .inl (fun zz => nI (v.2.1.2.2 zz)))), (mk_, .inl (G.2.1, 4096, .inl (fun zz => nI (v1.1 zz)))), (mx_, .inl (G.2.1, 4096, .inl (fun zz => nI (v1.2 zz))))] H := hP
        have hD : va_D A [(o, .inr (0, [.ref rw, .ref rt, .int (nI u.1), .ref fr])), (rw, .inr (1, [.ref kw_, .ref cw_, .ref vw_, .int (nI u.2.1.1)])), (kw_, .inl (G.2.1, 500, .inl (fun zz => nI (u.2.1.2.1 zz)))), (cw_, .inl (G.2.1, 500, .inl (fun zz => nI (u.2.1.2.2.1 zz)))), (vw_, .inl (G.2.1, 500, .inl (fun zz => nI (u.2.1.2.2.2 zz)))), (rt, .inr (1, [.ref kt_, .ref ct_, .ref vt_, .int (nI u.2.2.1.1)])), (kt_, .inl (G.2.1, 500, .inl (fun zz => nI (u.2.2.1.2.1 zz)))), (ct_, .inl (G.2.1, 500, .inl (fun zz => nI (u.2.2.1.2.2.1 zz)))), (vt_, .inl (G.2.1, 500, .inl (fun zz => nI (u.2.2.1.2.2.2 zz)))), (fr, .inr (2, [.int (nI u.2.2.2.1), .int (nI u.2.2.2.2.1), .int (nI u.2.2.2.2.2.1), .int (nI u.2.2.2.2.2.2)])), (mo, .inr (4, [.int (nI v.1), .int (nI v.2.1.1), .ref mc_, .ref mv_, .int (nI v.2.2.1.1), .int (nI v.2.2.1.2.1), .int (nI v.2.2.1.2.2.1), .int (nI v.2.2.1.2.2.2), .ref mk_, .ref mx_])), (mc_, .inl (G.2.1, 500, .inl (fun zz => nI (v.2.1.2.1 zz)))), (mv_, .inl (G.2.1, 500, .inl (fun zz => nI (v.2.1.2.2 zz)))), (mk_, .inl (G.2.1, 4096, .inl (fun zz => nI (v1.1 zz)))), (mx_, .inl (G.2.1, 4096, .inl (fun zz => nI (v1.2 zz))))] := hD
        have hu2' : runsS v.1 v.2.2.1 _ r2 := hu2.1
        have hu1 : runsS u.1 u.2.2.2 _ r1 := hu1
        rw [← hlv, ← hfv] at hu2'
        have heq : r1 = r2 := runsS_u hu1 hu2'
        have hlk' := lk_sort hlk hu2.2.1 hu2.2.2
        refine lv_icmp_eq hx hb d_Law_law_455 (tgt := 536) (by decide) (fun _ => ?_) (fun h => absurd heq h)
        refine lv_iinc (v := nI ((5 * k) + 5)) hx hb d_Law_law_536 hl (k := 0) rfl (ii_p _ 5) (by decide) rfl (fun ls hl => ?_)
        have hl : lv_has ls 4 [(3, .int (nI ((5 * k) + 5))), (2, .ref mo), (1, .ref o), (0, .ref b)] := hl
        refine lv_goto hx hb d_Law_law_539 (tgt := 18) (by decide) ?_
        have hl := lv_sub hl [0, 1, 2, 3] rfl
        rw [show 5 * k + 5 = 5 * (k + 1) by omega] at hl
        refine W.widen (k := 15 + (k + 1)) (n := 12218 + 6 * (k + 1)) (by omega) (by omega) ?_
        exact ih (k + 1) fr u (v.1, v.2.1, v.2.2.1, (v1.1, v1.2)) _ _ _ (by omega) (by omega) hl (hP.sub [0, 1, 2, 3, 4, 5, 6, 7, 8, 9, 10, 11, 12, 13, 14] rfl) (hD.sub [0, 1, 2, 3, 4, 5, 6, 7, 8, 9, 10, 11, 12, 13, 14] (by decide) rfl) hS hlk'
      · refine lv_tableIn hx hb d_Law_law_32 (off := 428) (tgt := 460) (by decide) (by decide) (by decide) (by decide) ?_
        refine lv_aload_n hx hb d_Law_law_460 rfl (lv_at hl 2 rfl) ?_
        refine lv_aload_n hx hb d_Law_law_461 rfl (lv_at hl 3 rfl) ?_
        refine lv_iload_n hx hb d_Law_law_462 rfl (lv_at hl 0 rfl) ?_
        refine lv_iconst (v := nI 1) hx hb d_Law_law_463 (by decide) ?_
        refine x_iadd hx hb d_Law_law_464 ?_
        refine y_sld hx hb hX hbl hbA hS (by omega) hsl d_Law_law_465 ?_
        refine lv_aload_n hx hb d_Law_law_466 rfl (lv_at hl 3 rfl) ?_
        refine lv_iload_n hx hb d_Law_law_467 rfl (lv_at hl 0 rfl) ?_
        refine lv_iconst (v := nI 2) hx hb d_Law_law_468 (by decide) ?_
        refine x_iadd hx hb d_Law_law_469 ?_
        refine y_sld hx hb hX hbl hbA hS (by omega) hsl d_Law_law_470 ?_
        refine lv_aload_n hx hb d_Law_law_471 rfl (lv_at hl 3 rfl) ?_
        refine lv_iload_n hx hb d_Law_law_472 rfl (lv_at hl 0 rfl) ?_
        refine lv_iconst (v := nI 3) hx hb d_Law_law_473 (by decide) ?_
        refine x_iadd hx hb d_Law_law_474 ?_
        refine y_sld hx hb hX hbl hbA hS (by omega) hsl d_Law_law_475 ?_
        refine eff_W (wr := [(mo, .inr (4, [.int (nI v.1), .int (nI v.2.1.1), .ref mc_, .ref mv_, .int (nI v.2.2.1.1), .int (nI v.2.2.1.2.1), .int (nI v.2.2.1.2.2.1), .int (nI v.2.2.1.2.2.2), .ref mk_, .ref mx_])), (mc_, .inl (G.2.1, 500, .inl (fun zz => nI (v.2.1.2.1 zz)))), (mv_, .inl (G.2.1, 500, .inl (fun zz => nI (v.2.1.2.2 zz)))), (mk_, .inl (G.2.1, 4096, .inl (fun zz => nI (v.2.2.2.1 zz)))), (mx_, .inl (G.2.1, 4096, .inl (fun zz => nI (v.2.2.2.2 zz))))]) (run_V S v_Law_67 (c_CI_run la G o rw kw_ cw_ vw_ rt kt_ ct_ vt_ fr u.1 u.2.1.1 u.2.2.1.1 u.2.2.2.1 u.2.2.2.2.1 u.2.2.2.2.2.1 u.2.2.2.2.2.2 u.2.1.2.1 u.2.1.2.2.1 u.2.1.2.2.2 u.2.2.1.2.1 u.2.2.1.2.2.1 u.2.2.1.2.2.2 (xs (5 * k + 1)) (xs (5 * k + 2)) (xs (5 * k + 3)) hC _) ⟨rfl, rfl⟩ ⟨Nat.le_of_ble_eq_true rfl, Nat.le_of_ble_eq_true rfl⟩ (preW_V hP hD hA hS hk hs [0, 1, 2, 3, 4, 5, 6, 7, 8, 9] (by decide) rfl 0 rfl rfl) (rest := []) rfl hl.1 rfl (Nat.le_of_ble_eq_true rfl) d_Law_law_476 ⟨(by omega : 15 + k + 1 ≤ 600000), (by omega : 12218 + 6 * k + 6 ≤ 7302250)⟩) hP hD hA hS [0, 1, 2, 3, 4, 5, 6, 7, 8, 9] [10, 11, 12, 13, 14] rfl rfl (by decide) (by decide) (fun r1 u1 H locs hu1 hP hD hS => ?_)
        obtain ⟨hu1, rfl⟩ := hu1
        have hP : va_P G.1 cls [(mo, .inr (4, [.int (nI v.1), .int (nI v.2.1.1), .ref mc_, .ref mv_, .int (nI v.2.2.1.1), .int (nI v.2.2.1.2.1), .int (nI v.2.2.1.2.2.1), .int (nI v.2.2.1.2.2.2), .ref mk_, .ref mx_])), (mc_, .inl (G.2.1, 500, .inl (fun zz => nI (v.2.1.2.1 zz)))), (mv_, .inl (G.2.1, 500, .inl (fun zz => nI (v.2.1.2.2 zz)))), (mk_, .inl (G.2.1, 4096, .inl (fun zz => nI (v.2.2.2.1 zz)))), (mx_, .inl (G.2.1, 4096, .inl (fun zz => nI (v.2.2.2.2 zz)))), (o, .inr (0, [.ref rw, .ref rt, .int (nI u.1), .ref fr])), (rw, .inr (1, [.ref kw_, .ref cw_, .ref vw_, .int (nI u.2.1.1)])), (kw_, .inl (G.2.1, 500, .inl (fun zz => nI (u.2.1.2.1 zz)))), (cw_, .inl (G.2.1, 500, .inl (fun zz => nI (u.2.1.2.2.1 zz)))), (vw_, .inl (G.2.1, 500, .inl (fun zz => nI (u.2.1.2.2.2 zz)))), (rt, .inr (1, [.ref kt_, .ref ct_, .ref vt_, .int (nI u.2.2.1.1)])), (kt_, .inl (G.2.1, 500, .inl (fun zz => nI (u.2.2.1.2.1 zz)))), (ct_, .inl (G.2.1, 500, .inl (fun zz => nI (u.2.2.1.2.2.1 zz)))), (vt_, .inl (G.2.1, 500, .inl (fun zz => nI (u.2.2.1.2.2.2 zz)))), (fr, .inr (2, [.int (nI u.2.2.2.1), .int (nI u.2.2.2.2.1), .int (nI u.2.2.2.2.2.1), .int (nI u.2.2.2.2.2.2)]))] H := hP
        have hD : va_D A [(mo, .inr (4, [.int (nI v.1), .int (nI v.2.1.1), .ref mc_, .ref mv_, .int (nI v.2.2.1.1), .int (nI v.2.2.1.2.1), .int (nI v.2.2.1.2.2.1), .int (nI v.2.2.1.2.2.2), .ref mk_, .ref mx_])), (mc_, .inl (G.2.1, 500, .inl (fun zz => nI (v.2.1.2.1 zz)))), (mv_, .inl (G.2.1, 500, .inl (fun zz => nI (v.2.1.2.2 zz)))), (mk_, .inl (G.2.1, 4096, .inl (fun zz => nI (v.2.2.2.1 zz)))), (mx_, .inl (G.2.1, 4096, .inl (fun zz => nI (v.2.2.2.2 zz)))), (o, .inr (0, [.ref rw, .ref rt, .int (nI u.1), .ref fr])), (rw, .inr (1, [.ref kw_, .ref cw_, .ref vw_, .int (nI u.2.1.1)])), (kw_, .inl (G.2.1, 500, .inl (fun zz => nI (u.2.1.2.1 zz)))), (cw_, .inl (G.2.1, 500, .inl (fun zz => nI (u.2.1.2.2.1 zz)))), (vw_, .inl (G.2.1, 500, .inl (fun zz => nI (u.2.1.2.2.2 zz)))), (rt, .inr (1, [.ref kt_, .ref ct_, .ref vt_, .int (nI u.2.2.1.1)])), (kt_, .inl (G.2.1, 500, .inl (fun zz => nI (u.2.2.1.2.1 zz)))), (ct_, .inl (G.2.1, 500, .inl (fun zz => nI (u.2.2.1.2.2.1 zz)))), (vt_, .inl (G.2.1, 500, .inl (fun zz => nI (u.2.2.1.2.2.2 zz)))), (fr, .inr (2, [.int (nI u.2.2.2.1), .int (nI u.2.2.2.2.1), .int (nI u.2.2.2.2.2.1), .int (nI u.2.2.2.2.2.2)]))] := hD
        refine lv_aload_n hx hb d_Law_law_479 rfl (lv_at hl 1 rfl) ?_
        refine lv_aload_n hx hb d_Law_law_480 rfl (lv_at hl 3 rfl) ?_
        refine lv_iload_n hx hb d_Law_law_481 rfl (lv_at hl 0 rfl) ?_
        refine lv_iconst (v := nI 1) hx hb d_Law_law_482 (by decide) ?_
        refine x_iadd hx hb d_Law_law_483 ?_
        refine y_sld hx hb hX hbl hbA hS (by omega) hsl d_Law_law_484 ?_
        refine lv_aload_n hx hb d_Law_law_485 rfl (lv_at hl 3 rfl) ?_
        refine lv_iload_n hx hb d_Law_law_486 rfl (lv_at hl 0 rfl) ?_
        refine lv_iconst (v := nI 2) hx hb d_Law_law_487 (by decide) ?_
        refine x_iadd hx hb d_Law_law_488 ?_
        refine y_sld hx hb hX hbl hbA hS (by omega) hsl d_Law_law_489 ?_
        refine lv_aload_n hx hb d_Law_law_490 rfl (lv_at hl 3 rfl) ?_
        refine lv_iload_n hx hb d_Law_law_491 rfl (lv_at hl 0 rfl) ?_
        refine lv_iconst (v := nI 3) hx hb d_Law_law_492 (by decide) ?_
        refine x_iadd hx hb d_Law_law_493 ?_
        refine y_sld hx hb hX hbl hbA hS (by omega) hsl d_Law_law_494 ?_
        refine eff_W (wr := [(o, .inr (0, [.ref rw, .ref rt, .int (nI u.1), .ref fr])), (rw, .inr (1, [.ref kw_, .ref cw_, .ref vw_, .int (nI u.2.1.1)])), (kw_, .inl (G.2.1, 500, .inl (fun zz => nI (u.2.1.2.1 zz)))), (cw_, .inl (G.2.1, 500, .inl (fun zz => nI (u.2.1.2.2.1 zz)))), (vw_, .inl (G.2.1, 500, .inl (fun zz => nI (u.2.1.2.2.2 zz)))), (rt, .inr (1, [.ref kt_, .ref ct_, .ref vt_, .int (nI u.2.2.1.1)])), (kt_, .inl (G.2.1, 500, .inl (fun zz => nI (u.2.2.1.2.1 zz)))), (ct_, .inl (G.2.1, 500, .inl (fun zz => nI (u.2.2.1.2.2.1 zz)))), (vt_, .inl (G.2.1, 500, .inl (fun zz => nI (u.2.2.1.2.2.2 zz)))), (fr, .inr (2, [.int (nI u.2.2.2.1), .int (nI u.2.2.2.2.1), .int (nI u.2.2.2.2.2.1), .int (nI u.2.2.2.2.2.2)]))]) (run_V S v_Law_70 (c_Mo_run la G mo mc_ mv_ mk_ mx_ v.1 v.2.1.1 v.2.2.1.1 v.2.2.1.2.1 v.2.2.1.2.2.1 v.2.2.1.2.2.2 v.2.1.2.1 v.2.1.2.2 v.2.2.2.1 v.2.2.2.2 (xs (5 * k + 1)) (xs (5 * k + 2)) (xs (5 * k + 3)) hM _) ⟨rfl, rfl⟩ ⟨Nat.le_of_ble_eq_true rfl, Nat.le_of_ble_eq_true rfl⟩ (preW_V hP hD hA hS hk hs [0, 1, 2, 3, 4] (by decide) rfl 0 rfl rfl) (rest := [.int r1]) rfl hl.1 rfl (Nat.le_of_ble_eq_true rfl) d_Law_law_495 ⟨(by omega : 15 + k + 1 + 0 ≤ 600000), (by omega : 12218 + 6 * k + 6 + 0 ≤ 7302250)⟩) hP hD hA hS [0, 1, 2, 3, 4] [5, 6, 7, 8, 9, 10, 11, 12, 13, 14] rfl rfl (by decide) (by decide) (fun r2 v1 H locs hu2 hP hD hS => ?_)
        have hP : va_P G.1 cls [(o, .inr (0, [.ref rw, .ref rt, .int (nI u.1), .ref fr])), (rw, .inr (1, [.ref kw_, .ref cw_, .ref vw_, .int (nI u.2.1.1)])), (kw_, .inl (G.2.1, 500, .inl (fun zz => nI (u.2.1.2.1 zz)))), (cw_, .inl (G.2.1, 500, .inl (fun zz => nI (u.2.1.2.2.1 zz)))), (vw_, .inl (G.2.1, 500, .inl (fun zz => nI (u.2.1.2.2.2 zz)))), (rt, .inr (1, [.ref kt_, .ref ct_, .ref vt_, .int (nI u.2.2.1.1)])), (kt_, .inl (G.2.1, 500, .inl (fun zz => nI (u.2.2.1.2.1 zz)))), (ct_, .inl (G.2.1, 500, .inl (fun zz => nI (u.2.2.1.2.2.1 zz)))), (vt_, .inl (G.2.1, 500, .inl (fun zz => nI (u.2.2.1.2.2.2 zz)))), (fr, .inr (2, [.int (nI u.2.2.2.1), .int (nI u.2.2.2.2.1), .int (nI u.2.2.2.2.2.1), .int (nI u.2.2.2.2.2.2)])), (mo, .inr (4, [.int (nI v.1), .int (nI v.2.1.1), .ref mc_, .ref mv_, .int (nI v.2.2.1.1), .int (nI v.2.2.1.2.1), .int (nI v.2.2.1.2.2.1), .int (nI v.2.2.1.2.2.2), .ref mk_, .ref mx_])), (mc_, .inl (G.2.1, 500, .inl (fun zz => nI (v.2.1.2.1 zz)))), (mv_, .inl (G.2.1, 500, .inl (fun zz => nI (v.2.1.2.2 zz)))), (mk_, .inl (G.2.1, 4096, .inl (fun zz => nI (v1.1 zz)))), (mx_, .inl (G.2.1, 4096, .inl (fun zz => nI (v1.2 zz))))] H := hP
        have hD : va_D A [(o, .inr (0, [.ref rw, .ref rt, .int (nI u.1), .ref fr])), (rw, .inr (1, [.ref kw_, .ref cw_, .ref vw_, .int (nI u.2.1.1)])), (kw_, .inl (G.2.1, 500, .inl (fun zz => nI (u.2.1.2.1 zz)))), (cw_, .inl (G.2.1, 500, .inl (fun zz => nI (u.2.1.2.2.1 zz)))), (vw_, .inl (G.2.1, 500, .inl (fun zz => nI (u.2.1.2.2.2 zz)))), (rt, .inr (1, [.ref kt_, .ref ct_, .ref vt_, .int (nI u.2.2.1.1)])), (kt_, .inl (G.2.1, 500, .inl (fun zz => nI (u.2.2.1.2.1 zz)))), (ct_, .inl (G.2.1, 500, .inl (fun zz => nI (u.2.2.1.2.2.1 zz)))), (vt_, .inl (G.2.1, 500, .inl (fun zz => nI (u.2.2.1.2.2.2 zz)))), (fr, .inr (2, [.int (nI u.2.2.2.1), .int (nI u.2.2.2.2.1), .int (nI u.2.2.2.2.2.1), .int (nI u.2.2.2.2.2.2)])), (mo, .inr (4, [.int (nI v.1), .int (nI v.2.1.1), .ref mc_, .ref mv_, .int (nI v.2.2.1.1), .int (nI v.2.2.1.2.1), .int (nI v.2.2.1.2.2.1), .int (nI v.2.2.1.2.2.2), .ref mk_, .ref mx_])), (mc_, .inl (G.2.1, 500, .inl (fun zz => nI (v.2.1.2.1 zz)))), (mv_, .inl (G.2.1, 500, .inl (fun zz => nI (v.2.1.2.2 zz)))), (mk_, .inl (G.2.1, 4096, .inl (fun zz => nI (v1.1 zz)))), (mx_, .inl (G.2.1, 4096, .inl (fun zz => nI (v1.2 zz))))] := hD
        have hu2' : runS v.1 v.2.2.1 _ _ _ r2 := hu2.1
        have hu1 : runS u.1 u.2.2.2 _ _ _ r1 := hu1
        rw [← hlv, ← hfv] at hu2'
        have heq : r1 = r2 := runS_u hu1 hu2'
        have hlk' := lk_sort hlk hu2.2.1 hu2.2.2
        refine lv_icmp_eq hx hb d_Law_law_498 (tgt := 536) (by decide) (fun _ => ?_) (fun h => absurd heq h)
        refine lv_iinc (v := nI ((5 * k) + 5)) hx hb d_Law_law_536 hl (k := 0) rfl (ii_p _ 5) (by decide) rfl (fun ls hl => ?_)
        have hl : lv_has ls 4 [(3, .int (nI ((5 * k) + 5))), (2, .ref mo), (1, .ref o), (0, .ref b)] := hl
        refine lv_goto hx hb d_Law_law_539 (tgt := 18) (by decide) ?_
        have hl := lv_sub hl [0, 1, 2, 3] rfl
        rw [show 5 * k + 5 = 5 * (k + 1) by omega] at hl
        refine W.widen (k := 15 + (k + 1)) (n := 12218 + 6 * (k + 1)) (by omega) (by omega) ?_
        exact ih (k + 1) fr u (v.1, v.2.1, v.2.2.1, (v1.1, v1.2)) _ _ _ (by omega) (by omega) hl (hP.sub [0, 1, 2, 3, 4, 5, 6, 7, 8, 9, 10, 11, 12, 13, 14] rfl) (hD.sub [0, 1, 2, 3, 4, 5, 6, 7, 8, 9, 10, 11, 12, 13, 14] (by decide) rfl) hS hlk'
      · refine lv_tableIn hx hb d_Law_law_32 (off := 471) (tgt := 503) (by decide) (by decide) (by decide) (by decide) ?_
        refine lv_aload_n hx hb d_Law_law_503 rfl (lv_at hl 2 rfl) ?_
        refine lv_aload_n hx hb d_Law_law_504 rfl (lv_at hl 3 rfl) ?_
        refine lv_iload_n hx hb d_Law_law_505 rfl (lv_at hl 0 rfl) ?_
        refine lv_iconst (v := nI 1) hx hb d_Law_law_506 (by decide) ?_
        refine x_iadd hx hb d_Law_law_507 ?_
        refine y_sld hx hb hX hbl hbA hS (by omega) hsl d_Law_law_508 ?_
        refine lv_aload_n hx hb d_Law_law_509 rfl (lv_at hl 3 rfl) ?_
        refine lv_iload_n hx hb d_Law_law_510 rfl (lv_at hl 0 rfl) ?_
        refine lv_iconst (v := nI 2) hx hb d_Law_law_511 (by decide) ?_
        refine x_iadd hx hb d_Law_law_512 ?_
        refine y_sld hx hb hX hbl hbA hS (by omega) hsl d_Law_law_513 ?_
        refine vp_callSi (va_Run.run (run_V S v_Law_71 (c_CI_nearest la G o rw kw_ cw_ vw_ rt kt_ ct_ vt_ fr u.1 u.2.1.1 u.2.2.1.1 u.2.2.2.1 u.2.2.2.2.1 u.2.2.2.2.2.1 u.2.2.2.2.2.2 u.2.1.2.1 u.2.1.2.2.1 u.2.1.2.2.2 u.2.2.1.2.1 u.2.2.1.2.2.1 u.2.2.1.2.2.2 (xs (5 * k + 1)) (xs (5 * k + 2)) hC) ⟨rfl, rfl⟩ ⟨Nat.le_of_ble_eq_true rfl, Nat.le_of_ble_eq_true rfl⟩ (preR_V hP hk (hs.kept (fun a h1 h2 => hS.2.1 a h1 h2)) [0, 1, 2, 3, 4, 5, 6, 7, 8, 9] rfl 0 rfl rfl) (rest := []) rfl hl.1 rfl (Nat.le_of_ble_eq_true rfl) d_Law_law_514 ⟨(by omega : 15 + k + 0 ≤ 600000), (by omega : 12218 + 6 * k + 0 ≤ 7302250)⟩)) (fun r1 hu1 => ?_)
        refine lv_aload_n hx hb d_Law_law_517 rfl (lv_at hl 1 rfl) ?_
        refine lv_aload_n hx hb d_Law_law_518 rfl (lv_at hl 3 rfl) ?_
        refine lv_iload_n hx hb d_Law_law_519 rfl (lv_at hl 0 rfl) ?_
        refine lv_iconst (v := nI 1) hx hb d_Law_law_520 (by decide) ?_
        refine x_iadd hx hb d_Law_law_521 ?_
        refine y_sld hx hb hX hbl hbA hS (by omega) hsl d_Law_law_522 ?_
        refine lv_aload_n hx hb d_Law_law_523 rfl (lv_at hl 3 rfl) ?_
        refine lv_iload_n hx hb d_Law_law_524 rfl (lv_at hl 0 rfl) ?_
        refine lv_iconst (v := nI 2) hx hb d_Law_law_525 (by decide) ?_
        refine x_iadd hx hb d_Law_law_526 ?_
        refine y_sld hx hb hX hbl hbA hS (by omega) hsl d_Law_law_527 ?_
        refine vp_callSi (va_Run.run (run_V S v_Law_74 (c_Mo_nearest la G mo mc_ mv_ mk_ mx_ v.1 v.2.1.1 v.2.2.1.1 v.2.2.1.2.1 v.2.2.1.2.2.1 v.2.2.1.2.2.2 v.2.1.2.1 v.2.1.2.2 v.2.2.2.1 v.2.2.2.2 (xs (5 * k + 1)) (xs (5 * k + 2)) hM) ⟨rfl, rfl⟩ ⟨Nat.le_of_ble_eq_true rfl, Nat.le_of_ble_eq_true rfl⟩ (preR_V hP hk (hs.kept (fun a h1 h2 => hS.2.1 a h1 h2)) [10, 11, 12, 13, 14] rfl 10 rfl rfl) (rest := [.int r1]) rfl hl.1 rfl (Nat.le_of_ble_eq_true rfl) d_Law_law_528 ⟨(by omega : 15 + k + 0 ≤ 600000), (by omega : 12218 + 6 * k + 0 ≤ 7302250)⟩)) (fun r2 hu2 => ?_)
        rw [← hlv] at hu2
        have heq : r1 = r2 := nearQ_u hL15 hsm (fun j hj => (hC.2.2.1.2.1 j hj).1) hu1 hu2
        refine lv_icmp_eq hx hb d_Law_law_531 (tgt := 536) (by decide) (fun _ => ?_) (fun h => absurd heq h)
        refine lv_iinc (v := nI ((5 * k) + 5)) hx hb d_Law_law_536 hl (k := 0) rfl (ii_p _ 5) (by decide) rfl (fun ls hl => ?_)
        have hl : lv_has ls 4 [(3, .int (nI ((5 * k) + 5))), (2, .ref mo), (1, .ref o), (0, .ref b)] := hl
        refine lv_goto hx hb d_Law_law_539 (tgt := 18) (by decide) ?_
        have hl := lv_sub hl [0, 1, 2, 3] rfl
        rw [show 5 * k + 5 = 5 * (k + 1) by omega] at hl
        refine W.widen (k := 15 + (k + 1)) (n := 12218 + 6 * (k + 1)) (by omega) (by omega) ?_
        exact ih (k + 1) fr u v _ _ _ (by omega) (by omega) hl (hP.sub [0, 1, 2, 3, 4, 5, 6, 7, 8, 9, 10, 11, 12, 13, 14] rfl) (hD.sub [0, 1, 2, 3, 4, 5, 6, 7, 8, 9, 10, 11, 12, 13, 14] (by decide) rfl) hS hlk
      · refine lv_tableOut hx hb d_Law_law_32 (tgt := 536) (Or.inr (by decide)) (by decide) ?_
        refine lv_iinc (v := nI ((5 * k) + 5)) hx hb d_Law_law_536 hl (k := 0) rfl (ii_p _ 5) (by decide) rfl (fun ls hl => ?_)
        have hl : lv_has ls 4 [(3, .int (nI ((5 * k) + 5))), (2, .ref mo), (1, .ref o), (0, .ref b)] := hl
        refine lv_goto hx hb d_Law_law_539 (tgt := 18) (by decide) ?_
        have hl := lv_sub hl [0, 1, 2, 3] rfl
        rw [show 5 * k + 5 = 5 * (k + 1) by omega] at hl
        refine W.widen (k := 15 + (k + 1)) (n := 12218 + 6 * (k + 1)) (by omega) (by omega) ?_
        exact ih (k + 1) fr u v _ _ _ (by omega) (by omega) hl (hP.sub [0, 1, 2, 3, 4, 5, 6, 7, 8, 9, 10, 11, 12, 13, 14] rfl) (hD.sub [0, 1, 2, 3, 4, 5, 6, 7, 8, 9, 10, 11, 12, 13, 14] (by decide) rfl) hS hlk
      · refine lv_tableOut hx hb d_Law_law_32 (tgt := 536) (Or.inr (by decide)) (by decide) ?_
        refine lv_iinc (v := nI ((5 * k) + 5)) hx hb d_Law_law_536 hl (k := 0) rfl (ii_p _ 5) (by decide) rfl (fun ls hl => ?_)
        have hl : lv_has ls 4 [(3, .int (nI ((5 * k) + 5))), (2, .ref mo), (1, .ref o), (0, .ref b)] := hl
        refine lv_goto hx hb d_Law_law_539 (tgt := 18) (by decide) ?_
        have hl := lv_sub hl [0, 1, 2, 3] rfl
        rw [show 5 * k + 5 = 5 * (k + 1) by omega] at hl
        refine W.widen (k := 15 + (k + 1)) (n := 12218 + 6 * (k + 1)) (by omega) (by omega) ?_
        exact ih (k + 1) fr u v _ _ _ (by omega) (by omega) hl (hP.sub [0, 1, 2, 3, 4, 5, 6, 7, 8, 9, 10, 11, 12, 13, 14] rfl) (hD.sub [0, 1, 2, 3, 4, 5, 6, 7, 8, 9, 10, 11, 12, 13, 14] (by decide) rfl) hS hlk
