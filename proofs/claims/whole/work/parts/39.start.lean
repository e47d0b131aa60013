/-! the law from its entry; the tables at the start; the claim (laid by gen/m11.py) -/
set_option maxHeartbeats 8000000 in
set_option maxRecDepth 100000 in
theorem law_body {p : Program} {e : Env} {s : State} {m : MethodId} {below : List Frame} {meth : Method} {c : Code} (la : Launch) {b sl : Nat} {xs : Nat → Int32} {Q : State → Prop} {A : Nat → Prop} (G : gG) (hsl : sl ≤ 2560) (S : CallFix p m c code 4 s #[Value.ref b] (Cond.initialized R_CI :: wg) R_Law) (hk : kx G s) (hA : ∀ q, s.heap.size ≤ q → A q) (hs : sx G A s s.heap) (hX : va_X b sl xs s s.heap) (hbl : b < s.heap.size) (hbA : ¬ A b) (hend : ∀ (pc : Nat) (ls : Array Slot) (H : Heap) (locs : List Loc) (cells slots : Nat), cells ≤ 600000 → slots ≤ 7302250 → va_S A s.heap H locs → decode code pc = .ok (.ireturn, 1) → W p la e room_1 s m #[Value.ref b] below meth c H locs cells slots Q (F0 m pc ls [.int (nI 1)])) {ls : Array Slot} (hl : lv_has ls 4 [(0, .ref b)]) : W p la e room_1 s m #[Value.ref b] below meth c s.heap [] 0 0 Q (F0 m 0 ls []) := by
  have hx := S.1
  have hb := S.2.1
  have hP : va_P G.1 cls [] s.heap := fun k q h => by simp at h
  have hD : va_D A [] := ⟨fun i j p q h => by simp at h, fun k q h => by simp at h⟩
  have hS : va_S A s.heap s.heap [] := va_S.rf
  refine y_new S hk hP hD hA hS (ci := 0) rfl in_CI T_0 (wq 39 (by decide +kernel)) (wq 40 (by decide +kernel)) (wq 33 (by decide +kernel)) (fs := [.null, .null, .int (nI 0), .null]) (fun j hj => by rcases (show j = 0 ∨ j = 1 ∨ j = 2 ∨ j = 3 by omega) with rfl | rfl | rfl | rfl <;> rfl) (Nat.le_of_ble_eq_true rfl) (Nat.le_of_ble_eq_true rfl) d_Law_law_0 (fun q0 H hP hD hS => ?_)
  have hP : va_P G.1 cls [(q0, .inr (0, [.null, .null, .int (nI 0), .null]))] H := hP
  have hD : va_D A [(q0, .inr (0, [.null, .null, .int (nI 0), .null]))] := hD
  refine lv_dup hx hb d_Law_law_3 rfl ?_
  refine eff_V (wr := []) (run_I S v_Law_9 (c_CI_init la G q0 _) ⟨rfl, rfl⟩ ⟨Nat.le_of_ble_eq_true rfl, Nat.le_of_ble_eq_true rfl⟩ (preW_S hP hD hA hS hk hs [0] (by decide) rfl) (rest := [.ref q0]) rfl hl.1 rfl (Nat.le_of_ble_eq_true rfl) d_Law_law_4 ⟨Nat.le_of_ble_eq_true rfl, Nat.le_of_ble_eq_true rfl⟩) hP hD hA hS [0] [] rfl rfl (by decide) (by decide) (fun u1 H locs hu1 hP hD hS => ?_)
  have hP : va_P G.1 cls [(q0, .inr (0, [.ref u1.1, .ref u1.2.2.2.2.1, .int (nI 1), .ref u1.2.2.2.2.2.2.2.2])), (u1.1, .inr (1, [.ref u1.2.1, .ref u1.2.2.1, .ref u1.2.2.2.1, .int (nI 0)])), (u1.2.1, .inl (G.2.1, 500, .inl (fun zz => nI (zf zz)))), (u1.2.2.1, .inl (G.2.1, 500, .inl (fun zz => nI (zf zz)))), (u1.2.2.2.1, .inl (G.2.1, 500, .inl (fun zz => nI (zf zz)))), (u1.2.2.2.2.1, .inr (1, [.ref u1.2.2.2.2.2.1, .ref u1.2.2.2.2.2.2.1, .ref u1.2.2.2.2.2.2.2.1, .int (nI 0)])), (u1.2.2.2.2.2.1, .inl (G.2.1, 500, .inl (fun zz => nI (zf zz)))), (u1.2.2.2.2.2.2.1, .inl (G.2.1, 500, .inl (fun zz => nI (zf zz)))), (u1.2.2.2.2.2.2.2.1, .inl (G.2.1, 500, .inl (fun zz => nI (zf zz)))), (u1.2.2.2.2.2.2.2.2, .inr (2, [.int (nI 0), .int (nI 0), .int (nI 0), .int (nI 0)]))] H := hP
  have hD : va_D A [(q0, .inr (0, [.ref u1.1, .ref u1.2.2.2.2.1, .int (nI 1), .ref u1.2.2.2.2.2.2.2.2])), (u1.1, .inr (1, [.ref u1.2.1, .ref u1.2.2.1, .ref u1.2.2.2.1, .int (nI 0)])), (u1.2.1, .inl (G.2.1, 500, .inl (fun zz => nI (zf zz)))), (u1.2.2.1, .inl (G.2.1, 500, .inl (fun zz => nI (zf zz)))), (u1.2.2.2.1, .inl (G.2.1, 500, .inl (fun zz => nI (zf zz)))), (u1.2.2.2.2.1, .inr (1, [.ref u1.2.2.2.2.2.1, .ref u1.2.2.2.2.2.2.1, .ref u1.2.2.2.2.2.2.2.1, .int (nI 0)])), (u1.2.2.2.2.2.1, .inl (G.2.1, 500, .inl (fun zz => nI (zf zz)))), (u1.2.2.2.2.2.2.1, .inl (G.2.1, 500, .inl (fun zz => nI (zf zz)))), (u1.2.2.2.2.2.2.2.1, .inl (G.2.1, 500, .inl (fun zz => nI (zf zz)))), (u1.2.2.2.2.2.2.2.2, .inr (2, [.int (nI 0), .int (nI 0), .int (nI 0), .int (nI 0)]))] := hD
  refine lv_astore_n hx hb d_Law_law_7 rfl hl (by decide) rfl (fun ls hl => ?_)
  have hl : lv_has ls 4 [(1, .ref q0), (0, .ref b)] := hl
  refine y_new S hk hP hD hA hS (ci := 4) rfl in_Mo T_4 (wq 235 (by decide +kernel)) (wq 236 (by decide +kernel)) (wq 36 (by decide +kernel)) (fs := [.int (nI 0), .int (nI 0), .null, .null, .int (nI 0), .int (nI 0), .int (nI 0), .int (nI 0), .null, .null]) (fun j hj => by rcases (show j = 0 ∨ j = 1 ∨ j = 2 ∨ j = 3 ∨ j = 4 ∨ j = 5 ∨ j = 6 ∨ j = 7 ∨ j = 8 ∨ j = 9 by omega) with rfl | rfl | rfl | rfl | rfl | rfl | rfl | rfl | rfl | rfl <;> rfl) (Nat.le_of_ble_eq_true rfl) (Nat.le_of_ble_eq_true rfl) d_Law_law_8 (fun q8 H hP hD hS => ?_)
  have hP : va_P G.1 cls [(q0, .inr (0, [.ref u1.1, .ref u1.2.2.2.2.1, .int (nI 1), .ref u1.2.2.2.2.2.2.2.2])), (u1.1, .inr (1, [.ref u1.2.1, .ref u1.2.2.1, .ref u1.2.2.2.1, .int (nI 0)])), (u1.2.1, .inl (G.2.1, 500, .inl (fun zz => nI (zf zz)))), (u1.2.2.1, .inl (G.2.1, 500, .inl (fun zz => nI (zf zz)))), (u1.2.2.2.1, .inl (G.2.1, 500, .inl (fun zz => nI (zf zz)))), (u1.2.2.2.2.1, .inr (1, [.ref u1.2.2.2.2.2.1, .ref u1.2.2.2.2.2.2.1, .ref u1.2.2.2.2.2.2.2.1, .int (nI 0)])), (u1.2.2.2.2.2.1, .inl (G.2.1, 500, .inl (fun zz => nI (zf zz)))), (u1.2.2.2.2.2.2.1, .inl (G.2.1, 500, .inl (fun zz => nI (zf zz)))), (u1.2.2.2.2.2.2.2.1, .inl (G.2.1, 500, .inl (fun zz => nI (zf zz)))), (u1.2.2.2.2.2.2.2.2, .inr (2, [.int (nI 0), .int (nI 0), .int (nI 0), .int (nI 0)])), (q8, .inr (4, [.int (nI 0), .int (nI 0), .null, .null, .int (nI 0), .int (nI 0), .int (nI 0), .int (nI 0), .null, .null]))] H := hP
  have hD : va_D A [(q0, .inr (0, [.ref u1.1, .ref u1.2.2.2.2.1, .int (nI 1), .ref u1.2.2.2.2.2.2.2.2])), (u1.1, .inr (1, [.ref u1.2.1, .ref u1.2.2.1, .ref u1.2.2.2.1, .int (nI 0)])), (u1.2.1, .inl (G.2.1, 500, .inl (fun zz => nI (zf zz)))), (u1.2.2.1, .inl (G.2.1, 500, .inl (fun zz => nI (zf zz)))), (u1.2.2.2.1, .inl (G.2.1, 500, .inl (fun zz => nI (zf zz)))), (u1.2.2.2.2.1, .inr (1, [.ref u1.2.2.2.2.2.1, .ref u1.2.2.2.2.2.2.1, .ref u1.2.2.2.2.2.2.2.1, .int (nI 0)])), (u1.2.2.2.2.2.1, .inl (G.2.1, 500, .inl (fun zz => nI (zf zz)))), (u1.2.2.2.2.2.2.1, .inl (G.2.1, 500, .inl (fun zz => nI (zf zz)))), (u1.2.2.2.2.2.2.2.1, .inl (G.2.1, 500, .inl (fun zz => nI (zf zz)))), (u1.2.2.2.2.2.2.2.2, .inr (2, [.int (nI 0), .int (nI 0), .int (nI 0), .int (nI 0)])), (q8, .inr (4, [.int (nI 0), .int (nI 0), .null, .null, .int (nI 0), .int (nI 0), .int (nI 0), .int (nI 0), .null, .null]))] := hD
  refine lv_dup hx hb d_Law_law_11 rfl ?_
  refine eff_V (wr := [(q0, .inr (0, [.ref u1.1, .ref u1.2.2.2.2.1, .int (nI 1), .ref u1.2.2.2.2.2.2.2.2])), (u1.1, .inr (1, [.ref u1.2.1, .ref u1.2.2.1, .ref u1.2.2.2.1, .int (nI 0)])), (u1.2.1, .inl (G.2.1, 500, .inl (fun zz => nI (zf zz)))), (u1.2.2.1, .inl (G.2.1, 500, .inl (fun zz => nI (zf zz)))), (u1.2.2.2.1, .inl (G.2.1, 500, .inl (fun zz => nI (zf zz)))), (u1.2.2.2.2.1, .inr (1, [.ref u1.2.2.2.2.2.1, .ref u1.2.2.2.2.2.2.1, .ref u1.2.2.2.2.2.2.2.1, .int (nI 0)])), (u1.2.2.2.2.2.1, .inl (G.2.1, 500, .inl (fun zz => nI (zf zz)))), (u1.2.2.2.2.2.2.1, .inl (G.2.1, 500, .inl (fun zz => nI (zf zz)))), (u1.2.2.2.2.2.2.2.1, .inl (G.2.1, 500, .inl (fun zz => nI (zf zz)))), (u1.2.2.2.2.2.2.2.2, .inr (2, [.int (nI 0), .int (nI 0), .int (nI 0), .int (nI 0)]))]) (run_I S v_Law_12 (c_Mo_init la G q8 _) ⟨rfl, rfl⟩ ⟨Nat.le_of_ble_eq_true rfl, Nat.le_of_ble_eq_true rfl⟩ (preW_S hP hD hA hS hk hs [10] (by decide) rfl) (rest := [.ref q8]) rfl hl.1 rfl (Nat.le_of_ble_eq_true rfl) d_Law_law_12 ⟨Nat.le_of_ble_eq_true rfl, Nat.le_of_ble_eq_true rfl⟩) hP hD hA hS [10] [0, 1, 2, 3, 4, 5, 6, 7, 8, 9] rfl rfl (by decide) (by decide) (fun u2 H locs hu2 hP hD hS => ?_)
  have hP : va_P G.1 cls [(q0, .inr (0, [.ref u1.1, .ref u1.2.2.2.2.1, .int (nI 1), .ref u1.2.2.2.2.2.2.2.2])), (u1.1, .inr (1, [.ref u1.2.1, .ref u1.2.2.1, .ref u1.2.2.2.1, .int (nI 0)])), (u1.2.1, .inl (G.2.1, 500, .inl (fun zz => nI (zf zz)))), (u1.2.2.1, .inl (G.2.1, 500, .inl (fun zz => nI (zf zz)))), (u1.2.2.2.1, .inl (G.2.1, 500, .inl (fun zz => nI (zf zz)))), (u1.2.2.2.2.1, .inr (1, [.ref u1.2.2.2.2.2.1, .ref u1.2.2.2.2.2.2.1, .ref u1.2.2.2.2.2.2.2.1, .int (nI 0)])), (u1.2.2.2.2.2.1, .inl (G.2.1, 500, .inl (fun zz => nI (zf zz)))), (u1.2.2.2.2.2.2.1, .inl (G.2.1, 500, .inl (fun zz => nI (zf zz)))), (u1.2.2.2.2.2.2.2.1, .inl (G.2.1, 500, .inl (fun zz => nI (zf zz)))), (u1.2.2.2.2.2.2.2.2, .inr (2, [.int (nI 0), .int (nI 0), .int (nI 0), .int (nI 0)])), (q8, .inr (4, [.int (nI 1), .int (nI 0), .ref u2.1, .ref u2.2.1, .int (nI 0), .int (nI 0), .int (nI 0), .int (nI 0), .ref u2.2.2.1, .ref u2.2.2.2])), (u2.1, .inl (G.2.1, 500, .inl (fun zz => nI (zf zz)))), (u2.2.1, .inl (G.2.1, 500, .inl (fun zz => nI (zf zz)))), (u2.2.2.1, .inl (G.2.1, 4096, .inl (fun zz => nI (zf zz)))), (u2.2.2.2, .inl (G.2.1, 4096, .inl (fun zz => nI (zf zz))))] H := hP
  have hD : va_D A [(q0, .inr (0, [.ref u1.1, .ref u1.2.2.2.2.1, .int (nI 1), .ref u1.2.2.2.2.2.2.2.2])), (u1.1, .inr (1, [.ref u1.2.1, .ref u1.2.2.1, .ref u1.2.2.2.1, .int (nI 0)])), (u1.2.1, .inl (G.2.1, 500, .inl (fun zz => nI (zf zz)))), (u1.2.2.1, .inl (G.2.1, 500, .inl (fun zz => nI (zf zz)))), (u1.2.2.2.1, .inl (G.2.1, 500, .inl (fun zz => nI (zf zz)))), (u1.2.2.2.2.1, .inr (1, [.ref u1.2.2.2.2.2.1, .ref u1.2.2.2.2.2.2.1, .ref u1.2.2.2.2.2.2.2.1, .int (nI 0)])), (u1.2.2.2.2.2.1, .inl (G.2.1, 500, .inl (fun zz => nI (zf zz)))), (u1.2.2.2.2.2.2.1, .inl (G.2.1, 500, .inl (fun zz => nI (zf zz)))), (u1.2.2.2.2.2.2.2.1, .inl (G.2.1, 500, .inl (fun zz => nI (zf zz)))), (u1.2.2.2.2.2.2.2.2, .inr (2, [.int (nI 0), .int (nI 0), .int (nI 0), .int (nI 0)])), (q8, .inr (4, [.int (nI 1), .int (nI 0), .ref u2.1, .ref u2.2.1, .int (nI 0), .int (nI 0), .int (nI 0), .int (nI 0), .ref u2.2.2.1, .ref u2.2.2.2])), (u2.1, .inl (G.2.1, 500, .inl (fun zz => nI (zf zz)))), (u2.2.1, .inl (G.2.1, 500, .inl (fun zz => nI (zf zz)))), (u2.2.2.1, .inl (G.2.1, 4096, .inl (fun zz => nI (zf zz)))), (u2.2.2.2, .inl (G.2.1, 4096, .inl (fun zz => nI (zf zz))))] := hD
  refine lv_astore_n hx hb d_Law_law_15 rfl hl (by decide) rfl (fun ls hl => ?_)
  have hl : lv_has ls 4 [(2, .ref q8), (1, .ref q0), (0, .ref b)] := hl
  refine lv_iconst (v := nI 0) hx hb d_Law_law_16 (by decide) ?_
  refine lv_istore_n hx hb d_Law_law_17 rfl hl (by decide) rfl (fun ls hl => ?_)
  have hl : lv_has ls 4 [(3, .int (nI 0)), (2, .ref q8), (1, .ref q0), (0, .ref b)] := hl
  have hl := lv_sub hl [0, 1, 2, 3] rfl
  refine W.widen (k := 15 + 0) (n := 12218 + 6 * 0) (Nat.le_of_ble_eq_true rfl) (Nat.le_of_ble_eq_true rfl) ?_
  exact law_loop la G hsl S hk hA hs hX hbl hbA hend q0 u1.1 u1.2.1 u1.2.2.1 u1.2.2.2.1 u1.2.2.2.2.1 u1.2.2.2.2.2.1 u1.2.2.2.2.2.2.1 u1.2.2.2.2.2.2.2.1 q8 u2.1 u2.2.1 u2.2.2.1 u2.2.2.2 601 0 u1.2.2.2.2.2.2.2.2 (1, (0, zf, zf, zf), (0, zf, zf, zf), (0, 0, 0, 0)) (1, (0, zf, zf), (0, 0, 0, 0), (zf, zf)) _ _ _ (by omega) (by omega) hl (hP.sub [0, 1, 2, 3, 4, 5, 6, 7, 8, 9, 10, 11, 12, 13, 14] rfl) (hD.sub [0, 1, 2, 3, 4, 5, 6, 7, 8, 9, 10, 11, 12, 13, 14] (by decide) rfl) hS lk_0
set_option maxRecDepth 100000 in
theorem tab_tSQ {args : Array Value} {s : State} (hts : ∀ w ∈ lw_tbl, w.before args s = true) (hg : (Jvm.Cond.and given_1 narrow_1).before args s = true) : ∃ t : Nat, sx1 "STEP_OF_QUARTER" t tSQ (fun q => s.heap.size ≤ q) s s.heap := by
  have hs := flat_of_before _ hg
  have hA : ∀ a : Nat, a < s.heap.size → ¬ s.heap.size ≤ a := fun a h => Nat.not_le.mpr h
  have hel : ∀ j : Nat, j < 20 → (Term.elem (.static "CurveIndex" "STEP_OF_QUARTER" "[I") (.int (Int32.ofNat j))).eval args s none [] s = some (Value.int (nI (tSQ j))) := by
    intro j hj
    rcases (show j = 0 ∨ j = 1 ∨ j = 2 ∨ j = 3 ∨ j = 4 ∨ j = 5 ∨ j = 6 ∨ j = 7 ∨ j = 8 ∨ j = 9 ∨ j = 10 ∨ j = 11 ∨ j = 12 ∨ j = 13 ∨ j = 14 ∨ j = 15 ∨ j = 16 ∨ j = 17 ∨ j = 18 ∨ j = 19 by omega) with rfl | rfl | rfl | rfl | rfl | rfl | rfl | rfl | rfl | rfl | rfl | rfl | rfl | rfl | rfl | rfl | rfl | rfl | rfl | rfl
    · exact va_eqt (z := 0) (hs (.eq (.elem (.static "CurveIndex" "STEP_OF_QUARTER" "[I") (.int 0)) (.int 0)) (by decide +kernel))
    · exact va_eqt (z := 1) (hs (.eq (.elem (.static "CurveIndex" "STEP_OF_QUARTER" "[I") (.int 1)) (.int 1)) (by decide +kernel))
    · exact va_eqt (z := 3) (hs (.eq (.elem (.static "CurveIndex" "STEP_OF_QUARTER" "[I") (.int 2)) (.int 3)) (by decide +kernel))
    · exact va_eqt (z := 2) (hs (.eq (.elem (.static "CurveIndex" "STEP_OF_QUARTER" "[I") (.int 3)) (.int 2)) (by decide +kernel))
    · exact va_eqt (z := 0) (hs (.eq (.elem (.static "CurveIndex" "STEP_OF_QUARTER" "[I") (.int 4)) (.int 0)) (by decide +kernel))
    · exact va_eqt (z := 3) (hs (.eq (.elem (.static "CurveIndex" "STEP_OF_QUARTER" "[I") (.int 5)) (.int 3)) (by decide +kernel))
    · exact va_eqt (z := 1) (hs (.eq (.elem (.static "CurveIndex" "STEP_OF_QUARTER" "[I") (.int 6)) (.int 1)) (by decide +kernel))
    · exact va_eqt (z := 2) (hs (.eq (.elem (.static "CurveIndex" "STEP_OF_QUARTER" "[I") (.int 7)) (.int 2)) (by decide +kernel))
    · exact va_eqt (z := 2) (hs (.eq (.elem (.static "CurveIndex" "STEP_OF_QUARTER" "[I") (.int 8)) (.int 2)) (by decide +kernel))
    · exact va_eqt (z := 3) (hs (.eq (.elem (.static "CurveIndex" "STEP_OF_QUARTER" "[I") (.int 9)) (.int 3)) (by decide +kernel))
    · exact va_eqt (z := 1) (hs (.eq (.elem (.static "CurveIndex" "STEP_OF_QUARTER" "[I") (.int 10)) (.int 1)) (by decide +kernel))
    · exact va_eqt (z := 0) (hs (.eq (.elem (.static "CurveIndex" "STEP_OF_QUARTER" "[I") (.int 11)) (.int 0)) (by decide +kernel))
    · exact va_eqt (z := 2) (hs (.eq (.elem (.static "CurveIndex" "STEP_OF_QUARTER" "[I") (.int 12)) (.int 2)) (by decide +kernel))
    · exact va_eqt (z := 1) (hs (.eq (.elem (.static "CurveIndex" "STEP_OF_QUARTER" "[I") (.int 13)) (.int 1)) (by decide +kernel))
    · exact va_eqt (z := 3) (hs (.eq (.elem (.static "CurveIndex" "STEP_OF_QUARTER" "[I") (.int 14)) (.int 3)) (by decide +kernel))
    · exact va_eqt (z := 0) (hs (.eq (.elem (.static "CurveIndex" "STEP_OF_QUARTER" "[I") (.int 15)) (.int 0)) (by decide +kernel))
    · exact va_eqt (z := 0) (hs (.eq (.elem (.static "CurveIndex" "STEP_OF_QUARTER" "[I") (.int 16)) (.int 0)) (by decide +kernel))
    · exact va_eqt (z := 2) (hs (.eq (.elem (.static "CurveIndex" "STEP_OF_QUARTER" "[I") (.int 17)) (.int 2)) (by decide +kernel))
    · exact va_eqt (z := 1) (hs (.eq (.elem (.static "CurveIndex" "STEP_OF_QUARTER" "[I") (.int 18)) (.int 1)) (by decide +kernel))
    · exact va_eqt (z := 3) (hs (.eq (.elem (.static "CurveIndex" "STEP_OF_QUARTER" "[I") (.int 19)) (.int 3)) (by decide +kernel))
  obtain ⟨t, h1, h2⟩ := va_Tof (tm := (.static "CurveIndex" "STEP_OF_QUARTER" "[I")) (ty := .int) (N := 20) (f := fun j => .int (nI (tSQ j))) (by decide) (hs (.arrayOf (.static "CurveIndex" "STEP_OF_QUARTER" "[I") .int) (by decide +kernel)) (va_eqt (z := 20) (hs (.eq (.length (.static "CurveIndex" "STEP_OF_QUARTER" "[I")) (.int 20)) (by decide +kernel))) hel hA
  exact ⟨t, va_Zof (hts (.laysStatic "CurveIndex" "STEP_OF_QUARTER" "[I") (by decide +kernel)) (hts (.initialized "CurveIndex") (by decide +kernel)) h1 hA, h2⟩
set_option maxRecDepth 100000 in
theorem tab_tQS {args : Array Value} {s : State} (hts : ∀ w ∈ lw_tbl, w.before args s = true) (hg : (Jvm.Cond.and given_1 narrow_1).before args s = true) : ∃ t : Nat, sx1 "QUARTER_OF_STEP" t tQS (fun q => s.heap.size ≤ q) s s.heap := by
  have hs := flat_of_before _ hg
  have hA : ∀ a : Nat, a < s.heap.size → ¬ s.heap.size ≤ a := fun a h => Nat.not_le.mpr h
  have hel : ∀ j : Nat, j < 20 → (Term.elem (.static "CurveIndex" "QUARTER_OF_STEP" "[I") (.int (Int32.ofNat j))).eval args s none [] s = some (Value.int (nI (tQS j))) := by
    intro j hj
    rcases (show j = 0 ∨ j = 1 ∨ j = 2 ∨ j = 3 ∨ j = 4 ∨ j = 5 ∨ j = 6 ∨ j = 7 ∨ j = 8 ∨ j = 9 ∨ j = 10 ∨ j = 11 ∨ j = 12 ∨ j = 13 ∨ j = 14 ∨ j = 15 ∨ j = 16 ∨ j = 17 ∨ j = 18 ∨ j = 19 by omega) with rfl | rfl | rfl | rfl | rfl | rfl | rfl | rfl | rfl | rfl | rfl | rfl | rfl | rfl | rfl | rfl | rfl | rfl | rfl | rfl
    · exact va_eqt (z := 0) (hs (.eq (.elem (.static "CurveIndex" "QUARTER_OF_STEP" "[I") (.int 0)) (.int 0)) (by decide +kernel))
    · exact va_eqt (z := 1) (hs (.eq (.elem (.static "CurveIndex" "QUARTER_OF_STEP" "[I") (.int 1)) (.int 1)) (by decide +kernel))
    · exact va_eqt (z := 3) (hs (.eq (.elem (.static "CurveIndex" "QUARTER_OF_STEP" "[I") (.int 2)) (.int 3)) (by decide +kernel))
    · exact va_eqt (z := 2) (hs (.eq (.elem (.static "CurveIndex" "QUARTER_OF_STEP" "[I") (.int 3)) (.int 2)) (by decide +kernel))
    · exact va_eqt (z := 0) (hs (.eq (.elem (.static "CurveIndex" "QUARTER_OF_STEP" "[I") (.int 4)) (.int 0)) (by decide +kernel))
    · exact va_eqt (z := 2) (hs (.eq (.elem (.static "CurveIndex" "QUARTER_OF_STEP" "[I") (.int 5)) (.int 2)) (by decide +kernel))
    · exact va_eqt (z := 3) (hs (.eq (.elem (.static "CurveIndex" "QUARTER_OF_STEP" "[I") (.int 6)) (.int 3)) (by decide +kernel))
    · exact va_eqt (z := 1) (hs (.eq (.elem (.static "CurveIndex" "QUARTER_OF_STEP" "[I") (.int 7)) (.int 1)) (by decide +kernel))
    · exact va_eqt (z := 3) (hs (.eq (.elem (.static "CurveIndex" "QUARTER_OF_STEP" "[I") (.int 8)) (.int 3)) (by decide +kernel))
    · exact va_eqt (z := 2) (hs (.eq (.elem (.static "CurveIndex" "QUARTER_OF_STEP" "[I") (.int 9)) (.int 2)) (by decide +kernel))
    · exact va_eqt (z := 0) (hs (.eq (.elem (.static "CurveIndex" "QUARTER_OF_STEP" "[I") (.int 10)) (.int 0)) (by decide +kernel))
    · exact va_eqt (z := 1) (hs (.eq (.elem (.static "CurveIndex" "QUARTER_OF_STEP" "[I") (.int 11)) (.int 1)) (by decide +kernel))
    · exact va_eqt (z := 3) (hs (.eq (.elem (.static "CurveIndex" "QUARTER_OF_STEP" "[I") (.int 12)) (.int 3)) (by decide +kernel))
    · exact va_eqt (z := 1) (hs (.eq (.elem (.static "CurveIndex" "QUARTER_OF_STEP" "[I") (.int 13)) (.int 1)) (by decide +kernel))
    · exact va_eqt (z := 0) (hs (.eq (.elem (.static "CurveIndex" "QUARTER_OF_STEP" "[I") (.int 14)) (.int 0)) (by decide +kernel))
    · exact va_eqt (z := 2) (hs (.eq (.elem (.static "CurveIndex" "QUARTER_OF_STEP" "[I") (.int 15)) (.int 2)) (by decide +kernel))
    · exact va_eqt (z := 0) (hs (.eq (.elem (.static "CurveIndex" "QUARTER_OF_STEP" "[I") (.int 16)) (.int 0)) (by decide +kernel))
    · exact va_eqt (z := 2) (hs (.eq (.elem (.static "CurveIndex" "QUARTER_OF_STEP" "[I") (.int 17)) (.int 2)) (by decide +kernel))
    · exact va_eqt (z := 1) (hs (.eq (.elem (.static "CurveIndex" "QUARTER_OF_STEP" "[I") (.int 18)) (.int 1)) (by decide +kernel))
    · exact va_eqt (z := 3) (hs (.eq (.elem (.static "CurveIndex" "QUARTER_OF_STEP" "[I") (.int 19)) (.int 3)) (by decide +kernel))
  obtain ⟨t, h1, h2⟩ := va_Tof (tm := (.static "CurveIndex" "QUARTER_OF_STEP" "[I")) (ty := .int) (N := 20) (f := fun j => .int (nI (tQS j))) (by decide) (hs (.arrayOf (.static "CurveIndex" "QUARTER_OF_STEP" "[I") .int) (by decide +kernel)) (va_eqt (z := 20) (hs (.eq (.length (.static "CurveIndex" "QUARTER_OF_STEP" "[I")) (.int 20)) (by decide +kernel))) hel hA
  exact ⟨t, va_Zof (hts (.laysStatic "CurveIndex" "QUARTER_OF_STEP" "[I") (by decide +kernel)) (hts (.initialized "CurveIndex") (by decide +kernel)) h1 hA, h2⟩
set_option maxRecDepth 100000 in
theorem tab_tSS {args : Array Value} {s : State} (hts : ∀ w ∈ lw_tbl, w.before args s = true) (hg : (Jvm.Cond.and given_1 narrow_1).before args s = true) : ∃ t : Nat, sx1 "STATE_AFTER_STEP" t tSS (fun q => s.heap.size ≤ q) s s.heap := by
  have hs := flat_of_before _ hg
  have hA : ∀ a : Nat, a < s.heap.size → ¬ s.heap.size ≤ a := fun a h => Nat.not_le.mpr h
  have hel : ∀ j : Nat, j < 20 → (Term.elem (.static "CurveIndex" "STATE_AFTER_STEP" "[I") (.int (Int32.ofNat j))).eval args s none [] s = some (Value.int (nI (tSS j))) := by
    intro j hj
    rcases (show j = 0 ∨ j = 1 ∨ j = 2 ∨ j = 3 ∨ j = 4 ∨ j = 5 ∨ j = 6 ∨ j = 7 ∨ j = 8 ∨ j = 9 ∨ j = 10 ∨ j = 11 ∨ j = 12 ∨ j = 13 ∨ j = 14 ∨ j = 15 ∨ j = 16 ∨ j = 17 ∨ j = 18 ∨ j = 19 by omega) with rfl | rfl | rfl | rfl | rfl | rfl | rfl | rfl | rfl | rfl | rfl | rfl | rfl | rfl | rfl | rfl | rfl | rfl | rfl | rfl
    · exact va_eqt (z := 1) (hs (.eq (.elem (.static "CurveIndex" "STATE_AFTER_STEP" "[I") (.int 0)) (.int 1)) (by decide +kernel))
    · exact va_eqt (z := 0) (hs (.eq (.elem (.static "CurveIndex" "STATE_AFTER_STEP" "[I") (.int 1)) (.int 0)) (by decide +kernel))
    · exact va_eqt (z := 0) (hs (.eq (.elem (.static "CurveIndex" "STATE_AFTER_STEP" "[I") (.int 2)) (.int 0)) (by decide +kernel))
    · exact va_eqt (z := 3) (hs (.eq (.elem (.static "CurveIndex" "STATE_AFTER_STEP" "[I") (.int 3)) (.int 3)) (by decide +kernel))
    · exact va_eqt (z := 0) (hs (.eq (.elem (.static "CurveIndex" "STATE_AFTER_STEP" "[I") (.int 4)) (.int 0)) (by decide +kernel))
    · exact va_eqt (z := 1) (hs (.eq (.elem (.static "CurveIndex" "STATE_AFTER_STEP" "[I") (.int 5)) (.int 1)) (by decide +kernel))
    · exact va_eqt (z := 1) (hs (.eq (.elem (.static "CurveIndex" "STATE_AFTER_STEP" "[I") (.int 6)) (.int 1)) (by decide +kernel))
    · exact va_eqt (z := 2) (hs (.eq (.elem (.static "CurveIndex" "STATE_AFTER_STEP" "[I") (.int 7)) (.int 2)) (by decide +kernel))
    · exact va_eqt (z := 3) (hs (.eq (.elem (.static "CurveIndex" "STATE_AFTER_STEP" "[I") (.int 8)) (.int 3)) (by decide +kernel))
    · exact va_eqt (z := 2) (hs (.eq (.elem (.static "CurveIndex" "STATE_AFTER_STEP" "[I") (.int 9)) (.int 2)) (by decide +kernel))
    · exact va_eqt (z := 2) (hs (.eq (.elem (.static "CurveIndex" "STATE_AFTER_STEP" "[I") (.int 10)) (.int 2)) (by decide +kernel))
    · exact va_eqt (z := 1) (hs (.eq (.elem (.static "CurveIndex" "STATE_AFTER_STEP" "[I") (.int 11)) (.int 1)) (by decide +kernel))
    · exact va_eqt (z := 2) (hs (.eq (.elem (.static "CurveIndex" "STATE_AFTER_STEP" "[I") (.int 12)) (.int 2)) (by decide +kernel))
    · exact va_eqt (z := 3) (hs (.eq (.elem (.static "CurveIndex" "STATE_AFTER_STEP" "[I") (.int 13)) (.int 3)) (by decide +kernel))
    · exact va_eqt (z := 3) (hs (.eq (.elem (.static "CurveIndex" "STATE_AFTER_STEP" "[I") (.int 14)) (.int 3)) (by decide +kernel))
    · exact va_eqt (z := 0) (hs (.eq (.elem (.static "CurveIndex" "STATE_AFTER_STEP" "[I") (.int 15)) (.int 0)) (by decide +kernel))
    · exact va_eqt (z := 4) (hs (.eq (.elem (.static "CurveIndex" "STATE_AFTER_STEP" "[I") (.int 16)) (.int 4)) (by decide +kernel))
    · exact va_eqt (z := 4) (hs (.eq (.elem (.static "CurveIndex" "STATE_AFTER_STEP" "[I") (.int 17)) (.int 4)) (by decide +kernel))
    · exact va_eqt (z := 4) (hs (.eq (.elem (.static "CurveIndex" "STATE_AFTER_STEP" "[I") (.int 18)) (.int 4)) (by decide +kernel))
    · exact va_eqt (z := 4) (hs (.eq (.elem (.static "CurveIndex" "STATE_AFTER_STEP" "[I") (.int 19)) (.int 4)) (by decide +kernel))
  obtain ⟨t, h1, h2⟩ := va_Tof (tm := (.static "CurveIndex" "STATE_AFTER_STEP" "[I")) (ty := .int) (N := 20) (f := fun j => .int (nI (tSS j))) (by decide) (hs (.arrayOf (.static "CurveIndex" "STATE_AFTER_STEP" "[I") .int) (by decide +kernel)) (va_eqt (z := 20) (hs (.eq (.length (.static "CurveIndex" "STATE_AFTER_STEP" "[I")) (.int 20)) (by decide +kernel))) hel hA
  exact ⟨t, va_Zof (hts (.laysStatic "CurveIndex" "STATE_AFTER_STEP" "[I") (by decide +kernel)) (hts (.initialized "CurveIndex") (by decide +kernel)) h1 hA, h2⟩
set_option maxRecDepth 100000 in
theorem law_env {args : Array Value} {s : State} (hts : ∀ w ∈ lw_tbl, w.before args s = true) (hg : (Jvm.Cond.and given_1 narrow_1).before args s = true) : ∃ G : gG, kx G s ∧ sx G (fun q => s.heap.size ≤ q) s s.heap := by
  obtain ⟨c0, i0, k0⟩ := u_known (ws := lw_tbl) (C := R_CI) (T := F_CI) (N := 4) (n := 4) hts (fun w hw => wg_in w (in_CI w hw)) (hts _ (wg_in _ (wq 40 (by decide +kernel))))
  obtain ⟨c1, i1, k1⟩ := u_known (ws := lw_tbl) (C := R_Row) (T := F_Row) (N := 4) (n := 4) hts (fun w hw => wg_in w (in_Row w hw)) (hts _ (wg_in _ (wq 48 (by decide +kernel))))
  obtain ⟨c2, i2, k2⟩ := u_known (ws := lw_tbl) (C := R_Fr) (T := F_Fr) (N := 4) (n := 4) hts (fun w hw => wg_in w (in_Fr w hw)) (hts _ (wg_in _ (wq 62 (by decide +kernel))))
  obtain ⟨c3, i3, k3⟩ := u_known (ws := lw_tbl) (C := R_RW) (T := F_RW) (N := 6) (n := 6) hts (fun w hw => wg_in w (in_RW w hw)) (hts _ (wg_in _ (wq 197 (by decide +kernel))))
  obtain ⟨c4, i4, k4⟩ := u_known (ws := lw_tbl) (C := R_Mo) (T := F_Mo) (N := 10) (n := 10) hts (fun w hw => wg_in w (in_Mo w hw)) (hts _ (wg_in _ (wq 236 (by decide +kernel))))
  obtain ⟨cI, kA, comp, a1, a2, a3⟩ := Cond.arrayClass_spec (hts (.arrayClass .int) (wg_in _ (wq 60 (by decide +kernel))))
  obtain ⟨t0, s0⟩ := tab_tSQ hts hg
  obtain ⟨t1, s1⟩ := tab_tQS hts hg
  obtain ⟨t2, s2⟩ := tab_tSS hts hg
  refine ⟨((fun k => match k with | 0 => c0 | 1 => c1 | 2 => c2 | 3 => c3 | _ => c4, fun k => match k with | 0 => i0 | 1 => i1 | 2 => i2 | 3 => i3 | _ => i4), cI, t0, t1, t2), ⟨⟨fun c q hq => ?_, fun k q hk => ?_⟩, fun w hw => va_Nw.of (nws_tab w hw) (hts w (nws_in w hw))⟩, s0, s1, s2⟩
  · rcases c with _ | _ | _ | _ | _ | c
    · cases hq
      exact k0
    · cases hq
      exact k1
    · cases hq
      exact k2
    · cases hq
      exact k3
    · cases hq
      exact k4
    · simp [cls] at hq
  · rcases k with _ | k
    · cases hk
      exact ⟨fun n z => ⟨fun k h => (by cases h), kA, a2, comp, a3⟩, a1⟩
    · simp at hk
