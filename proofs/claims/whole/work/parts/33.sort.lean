/-! the reference's sort, runs, run (laid by gen/m8.py) -/
set_option maxHeartbeats 4000000 in
set_option maxRecDepth 100000 in
theorem c_Mo_sort (la : Launch) (G : gG) (mo mc_ mv_ mk_ mx_ L n x0 y0 x1 y1 : Nat) (C V K X : Nat → Nat) (x : Int32) (hM : okMo (L, (n, C, V), (x0, y0, x1, y1), (K, X))) : MetW la y_Mo_sort b_Mo_sort 13 .int 2 48 0 0 [.ref mo, .int x] G [(mo, .inr (4, [.int (nI L), .int (nI n), .ref mc_, .ref mv_, .int (nI x0), .int (nI y0), .int (nI x1), .int (nI y1), .ref mk_, .ref mx_])), (mc_, .inl (G.2.1, 500, .inl (fun zz => nI (C zz)))), (mv_, .inl (G.2.1, 500, .inl (fun zz => nI (V zz)))), (mk_, .inl (G.2.1, 4096, .inl (fun zz => nI (K zz)))), (mx_, .inl (G.2.1, 4096, .inl (fun zz => nI (X zz))))] (S := (Nat → Nat) × (Nat → Nat)) (fun r v => (∃ k, k < 2 ∧ x = nI k ∧ cellsF (x0, y0, x1, y1) ≤ 4096 ∧ r = nI (cellsF (x0, y0, x1, y1)) ∧ bd v.1 ∧ bd v.2 ∧ eqs (cellsF (x0, y0, x1, y1)) (wkey k L x0 y0 (y1 - y0 + 1)) v.1 ∧ ∀ p q, p < q → q < cellsF (x0, y0, x1, y1) → v.1 p ≤ v.1 q) ∨ (¬ (cuO x ∧ cellsF (x0, y0, x1, y1) ≤ 4096) ∧ r = -1 ∧ v = (K, X))) (fun v => [(mo, .inr (4, [.int (nI L), .int (nI n), .ref mc_, .ref mv_, .int (nI x0), .int (nI y0), .int (nI x1), .int (nI y1), .ref mk_, .ref mx_])), (mc_, .inl (G.2.1, 500, .inl (fun zz => nI (C zz)))), (mv_, .inl (G.2.1, 500, .inl (fun zz => nI (V zz)))), (mk_, .inl (G.2.1, 4096, .inl (fun zz => nI (v.1 zz)))), (mx_, .inl (G.2.1, 4096, .inl (fun zz => nI (v.2 zz))))]) := by
  refine MetW.mk (by decide +kernel) (Nat.le_of_ble_eq_true rfl) ?_
  intro p e s m below meth c Q A ls S hP hD hA hS hk hs hret hl
  have hx := S.1
  have hb := S.2.1
  have hP : va_P G.1 cls [(mo, .inr (4, [.int (nI L), .int (nI n), .ref mc_, .ref mv_, .int (nI x0), .int (nI y0), .int (nI x1), .int (nI y1), .ref mk_, .ref mx_])), (mc_, .inl (G.2.1, 500, .inl (fun zz => nI (C zz)))), (mv_, .inl (G.2.1, 500, .inl (fun zz => nI (V zz)))), (mk_, .inl (G.2.1, 4096, .inl (fun zz => nI (K zz)))), (mx_, .inl (G.2.1, 4096, .inl (fun zz => nI (X zz))))] s.heap := hP
  have hD : va_D A [(mo, .inr (4, [.int (nI L), .int (nI n), .ref mc_, .ref mv_, .int (nI x0), .int (nI y0), .int (nI x1), .int (nI y1), .ref mk_, .ref mx_])), (mc_, .inl (G.2.1, 500, .inl (fun zz => nI (C zz)))), (mv_, .inl (G.2.1, 500, .inl (fun zz => nI (V zz)))), (mk_, .inl (G.2.1, 4096, .inl (fun zz => nI (K zz)))), (mx_, .inl (G.2.1, 4096, .inl (fun zz => nI (X zz))))] := hD
  have hM' := hM
  obtain ⟨⟨hL1, hL⟩, hm, ⟨hC, hV⟩, hF, hK, hX⟩ := hM
  dsimp only at hL1 hL hm hC hV hF hK hX
  have hFb := hF.b hL
  obtain ⟨hf1, hf2, hf3, hf4⟩ := hF
  dsimp only at hf1 hf2 hf3 hf4 hFb
  have hp2 := p2_15 hL
  have hp4 := p4_15 hL
  have hpp := Nat.two_pow_pos L
  have hn5 := hm.1
  obtain ⟨ww, eww⟩ : ∃ z, z = x1 - x0 + 1 := ⟨_, rfl⟩
  obtain ⟨hh, ehh⟩ : ∃ z, z = y1 - y0 + 1 := ⟨_, rfl⟩
  obtain ⟨mm, emm⟩ : ∃ z, z = hh * ww := ⟨_, rfl⟩
  have ec : cellsF (x0, y0, x1, y1) = mm := by show (x1 - x0 + 1) * (y1 - y0 + 1) = mm; rw [emm, eww, ehh, Nat.mul_comm]
  have hl : lv_has ls 13 [(0, .ref mo), (1, .int x)] := hl
  refine lv_aload_n hx hb d_Mo_sort_0 rfl (lv_at hl 0 rfl) ?_
  refine y_get S hk hP 0 rfl f_Mo_39 rfl d_Mo_sort_1 ?_
  refine lv_aload_n hx hb d_Mo_sort_4 rfl (lv_at hl 0 rfl) ?_
  refine y_get S hk hP 0 rfl f_Mo_33 rfl d_Mo_sort_5 ?_
  refine x_isub hx hb d_Mo_sort_8 (by omega) ?_
  refine lv_iconst (v := nI 1) hx hb d_Mo_sort_9 (by decide) ?_
  refine x_iadd hx hb d_Mo_sort_10 ?_
  refine x_reN (b := ww) (by omega) ?_
  refine lv_i2l hx hb d_Mo_sort_11 rfl ?_
  refine lv_aload_n hx hb d_Mo_sort_12 rfl (lv_at hl 0 rfl) ?_
  refine y_get S hk hP 0 rfl f_Mo_42 rfl d_Mo_sort_13 ?_
  refine lv_aload_n hx hb d_Mo_sort_16 rfl (lv_at hl 0 rfl) ?_
  refine y_get S hk hP 0 rfl f_Mo_36 rfl d_Mo_sort_17 ?_
  refine x_isub hx hb d_Mo_sort_20 (by omega) ?_
  refine lv_iconst (v := nI 1) hx hb d_Mo_sort_21 (by decide) ?_
  refine x_iadd hx hb d_Mo_sort_22 ?_
  refine x_reN (b := hh) (by omega) ?_
  refine lv_i2l hx hb d_Mo_sort_23 rfl ?_
  refine lv_lmul hx hb d_Mo_sort_24 ?_
  refine x_reL (y := lN mm) (by rw [nI_l (by omega), nI_l (by omega), lN_mul, emm, Nat.mul_comm]) ?_
  refine lv_lstore_n hx hb d_Mo_sort_25 rfl hl (by decide) rfl (fun ls hl => ?_)
  have hl : lv_has ls 13 [(2, .long (lN mm)), (0, .ref mo), (1, .int x)] := hl
  refine lv_iload_n hx hb d_Mo_sort_26 rfl (lv_at hl 2 rfl) ?_
  refine vp_callSi (va_Run.run (run_S S v_Mo_45 (c_Mo_isCurve la G x) ⟨rfl, rfl⟩ ⟨Nat.le_of_ble_eq_true rfl, Nat.le_of_ble_eq_true rfl⟩ (preR_S hP hk (hs.kept (fun a h1 h2 => hS.2.1 a h1 h2)) [] rfl) (rest := []) rfl hl.1 rfl (Nat.le_of_ble_eq_true rfl) d_Mo_sort_27 ⟨Nat.le_of_ble_eq_true rfl, Nat.le_of_ble_eq_true rfl⟩)) (fun r1 hr1 => ?_)
  rcases hr1 with ⟨rfl, k, hk', rfl⟩ | ⟨rfl, q1⟩
  · have hl : lv_has ls 13 [(2, .long (lN mm)), (0, .ref mo), (1, .int (nI k))] := hl
    refine lv_if_eq hx hb d_Mo_sort_30 (tgt := 41) (by decide) (fun h => absurd h (by decide)) (fun _ => ?_)
    refine lv_lload_n hx hb d_Mo_sort_33 rfl (lv_at hl 0 rfl) ?_
    refine lv_ldc2 (own := R_Mo) (v := 4096) hx hb S.2.2.2.1 (S.2.2.2.2 _ (List.mem_cons_of_mem _ (wq 336 (by decide +kernel)))) d_Mo_sort_34 ?_
    refine x_reL (y := lN 4096) rfl ?_
    refine W.lcmp hx hb d_Mo_sort_37 ?_
    refine lv_if_le hx hb d_Mo_sort_38 (tgt := 43) (by decide) (fun h38 => ?_) (fun h38 => ?_)
    · have hmw : mm ≤ 32768 * 32768 := by rw [emm]; exact Nat.mul_le_mul (by omega) (by omega)
      rw [lg_cmp_le, pk_lLE (by omega) (by omega)] at h38
      refine lv_iconst (v := nI 0) hx hb d_Mo_sort_43 (by decide) ?_
      refine lv_istore hx hb d_Mo_sort_44 hl (by decide) rfl (fun ls hl => ?_)
      have hl : lv_has ls 13 [(4, .int (nI 0)), (2, .long (lN mm)), (0, .ref mo), (1, .int (nI k))] := hl
      refine lv_aload_n hx hb d_Mo_sort_46 rfl (lv_at hl 2 rfl) ?_
      refine y_get S hk hP 0 rfl f_Mo_33 rfl d_Mo_sort_47 ?_
      refine lv_istore hx hb d_Mo_sort_50 hl (by decide) rfl (fun ls hl => ?_)
      have hl : lv_has ls 13 [(5, .int (nI x0)), (4, .int (nI 0)), (2, .long (lN mm)), (0, .ref mo), (1, .int (nI k))] := hl
      have hl := lv_sub hl [0, 1, 3, 4] rfl
      refine (?_ : ∀ (d1 : Nat) (i : Nat) (K1 : Nat → Nat) (H : Heap) (locs : List Loc) (ls : Array Slot), ww - i < d1 → lv_has ls 13 [(5, .int (nI (x0 + i))), (4, .int (nI (hh * i))), (0, .ref mo), (1, .int (nI k))] → va_P G.1 cls [(mo, .inr (4, [.int (nI L), .int (nI n), .ref mc_, .ref mv_, .int (nI x0), .int (nI y0), .int (nI x1), .int (nI y1), .ref mk_, .ref mx_])), (mc_, .inl (G.2.1, 500, .inl (fun zz => nI (C zz)))), (mv_, .inl (G.2.1, 500, .inl (fun zz => nI (V zz)))), (mk_, .inl (G.2.1, 4096, .inl (fun zz => nI (K1 zz)))), (mx_, .inl (G.2.1, 4096, .inl (fun zz => nI (X zz))))] H → va_D A [(mo, .inr (4, [.int (nI L), .int (nI n), .ref mc_, .ref mv_, .int (nI x0), .int (nI y0), .int (nI x1), .int (nI y1), .ref mk_, .ref mx_])), (mc_, .inl (G.2.1, 500, .inl (fun zz => nI (C zz)))), (mv_, .inl (G.2.1, 500, .inl (fun zz => nI (V zz)))), (mk_, .inl (G.2.1, 4096, .inl (fun zz => nI (K1 zz)))), (mx_, .inl (G.2.1, 4096, .inl (fun zz => nI (X zz))))] → va_S A s.heap H locs → (i ≤ ww) → (bd K1) → (∀ t, t < hh * i → K1 t = wkey k L x0 y0 hh t) → W p la e _ s m _ below meth c H locs 0 0 Q (F0 m 52 ls [])) (ww - 0 + 1) 0 K _ _ ls (Nat.lt_succ_self _) hl hP hD hS (Nat.zero_le _) (hK) (fun t h => absurd h (Nat.not_lt_zero _))
      intro d1
      induction d1 with
      | zero => intro i K1 H locs ls hd; exact absurd hd (Nat.not_lt_zero _)
      | succ d1 ih1 =>
        intro i K1 H locs ls hd hl hP hD hS hi hbK hfl
        refine lv_iload hx hb d_Mo_sort_52 (lv_at hl 0 rfl) ?_
        refine lv_aload_n hx hb d_Mo_sort_54 rfl (lv_at hl 2 rfl) ?_
        refine y_get S hk hP 0 rfl f_Mo_39 rfl d_Mo_sort_55 ?_
        refine x_icmp_gt hx hb d_Mo_sort_58 (tgt := 107) (by decide) (by omega) (by omega) (fun h58 => ?_) (fun h58 => ?_)
        · refine lv_iconst (v := nI 1) hx hb d_Mo_sort_107 (by decide) ?_
          refine lv_istore hx hb d_Mo_sort_108 hl (by decide) rfl (fun ls hl => ?_)
          have hl : lv_has ls 13 [(5, .int (nI 1)), (4, .int (nI (hh * i))), (0, .ref mo), (1, .int (nI k))] := hl
          have hl := lv_sub hl [0, 1, 2, 3] rfl
          rw [show hh * i = mm by rw [emm, show i = ww by omega]] at hl hfl
          refine (?_ : ∀ (d3 : Nat) (wd : Nat) (K3 : Nat → Nat) (X3 : Nat → Nat) (H : Heap) (locs : List Loc) (ls : Array Slot), mm - wd < d3 → lv_has ls 13 [(5, .int (nI wd)), (4, .int (nI mm)), (0, .ref mo), (1, .int (nI k))] → va_P G.1 cls [(mo, .inr (4, [.int (nI L), .int (nI n), .ref mc_, .ref mv_, .int (nI x0), .int (nI y0), .int (nI x1), .int (nI y1), .ref mk_, .ref mx_])), (mc_, .inl (G.2.1, 500, .inl (fun zz => nI (C zz)))), (mv_, .inl (G.2.1, 500, .inl (fun zz => nI (V zz)))), (mk_, .inl (G.2.1, 4096, .inl (fun zz => nI (K3 zz)))), (mx_, .inl (G.2.1, 4096, .inl (fun zz => nI (X3 zz))))] H → va_D A [(mo, .inr (4, [.int (nI L), .int (nI n), .ref mc_, .ref mv_, .int (nI x0), .int (nI y0), .int (nI x1), .int (nI y1), .ref mk_, .ref mx_])), (mc_, .inl (G.2.1, 500, .inl (fun zz => nI (C zz)))), (mv_, .inl (G.2.1, 500, .inl (fun zz => nI (V zz)))), (mk_, .inl (G.2.1, 4096, .inl (fun zz => nI (K3 zz)))), (mx_, .inl (G.2.1, 4096, .inl (fun zz => nI (X3 zz))))] → va_S A s.heap H locs → (1 ≤ wd) → (wd ≤ 8192) → (bs wd mm K3) → (eqs mm (wkey k L x0 y0 hh) K3) → (bd K3) → (bd X3) → W p la e _ s m _ below meth c H locs 0 0 Q (F0 m 110 ls [])) (mm - 1 + 1) 1 K1 X _ _ ls (Nat.lt_succ_self _) hl hP hD hS (by omega) (by omega) (bs_1) (eqs_of hfl) (hbK) (hX)
          intro d3
          induction d3 with
          | zero => intro wd K3 X3 H locs ls hd; exact absurd hd (Nat.not_lt_zero _)
          | succ d3 ih3 =>
            intro wd K3 X3 H locs ls hd hl hP hD hS hw1 hw2 hbs heq hbK3 hbX3
            refine lv_iload hx hb d_Mo_sort_110 (lv_at hl 0 rfl) ?_
            refine lv_iload hx hb d_Mo_sort_112 (lv_at hl 1 rfl) ?_
            refine x_icmp_ge hx hb d_Mo_sort_114 (tgt := 350) (by decide) (by omega) (by omega) (fun h114 => ?_) (fun h114 => ?_)
            · refine lv_iload hx hb d_Mo_sort_350 (lv_at hl 1 rfl) ?_
              exact hret _ _ _ (K3, X3) _ _ rfl (Or.inl ⟨k, hk', rfl, by rw [ec]; exact h38, by rw [ec], hbK3, hbX3, by rw [ec, ← ehh]; exact heq, by rw [ec]; exact bs_all hbs (by omega)⟩) hP hD hS d_Mo_sort_352
            · refine lv_iconst (v := nI 0) hx hb d_Mo_sort_117 (by decide) ?_
              refine lv_istore hx hb d_Mo_sort_118 hl (by decide) rfl (fun ls hl => ?_)
              have hl : lv_has ls 13 [(6, .int (nI 0)), (5, .int (nI wd)), (4, .int (nI mm)), (0, .ref mo), (1, .int (nI k))] := hl
              have hl := lv_sub hl [0, 1, 2, 3, 4] rfl
              refine (?_ : ∀ (d4 : Nat) (j : Nat) (X4 : Nat → Nat) (H : Heap) (locs : List Loc) (ls : Array Slot), mm - 2 * wd * j < d4 → lv_has ls 13 [(6, .int (nI (2 * wd * j))), (5, .int (nI wd)), (4, .int (nI mm)), (0, .ref mo), (1, .int (nI k))] → va_P G.1 cls [(mo, .inr (4, [.int (nI L), .int (nI n), .ref mc_, .ref mv_, .int (nI x0), .int (nI y0), .int (nI x1), .int (nI y1), .ref mk_, .ref mx_])), (mc_, .inl (G.2.1, 500, .inl (fun zz => nI (C zz)))), (mv_, .inl (G.2.1, 500, .inl (fun zz => nI (V zz)))), (mk_, .inl (G.2.1, 4096, .inl (fun zz => nI (K3 zz)))), (mx_, .inl (G.2.1, 4096, .inl (fun zz => nI (X4 zz))))] H → va_D A [(mo, .inr (4, [.int (nI L), .int (nI n), .ref mc_, .ref mv_, .int (nI x0), .int (nI y0), .int (nI x1), .int (nI y1), .ref mk_, .ref mx_])), (mc_, .inl (G.2.1, 500, .inl (fun zz => nI (C zz)))), (mv_, .inl (G.2.1, 500, .inl (fun zz => nI (V zz)))), (mk_, .inl (G.2.1, 4096, .inl (fun zz => nI (K3 zz)))), (mx_, .inl (G.2.1, 4096, .inl (fun zz => nI (X4 zz))))] → va_S A s.heap H locs → (2 * wd * j ≤ mm + 2 * wd) → (bs (2 * wd) (min (2 * wd * j) mm) X4) → (eqs (min (2 * wd * j) mm) K3 X4) → (bd X4) → W p la e _ s m _ below meth c H locs 0 0 Q (F0 m 120 ls [])) (mm - 2 * wd * 0 + 1) 0 X3 _ _ ls (Nat.lt_succ_self _) hl hP hD hS (by rw [Nat.mul_zero]; omega) (by rw [Nat.mul_zero, Nat.zero_min]; exact fun p q h1 h2 => absurd h2 (Nat.not_lt_zero _)) (by rw [Nat.mul_zero, Nat.zero_min]; exact fun g => rfl) (hbX3)
              intro d4
              induction d4 with
              | zero => intro j X4 H locs ls hd; exact absurd hd (Nat.not_lt_zero _)
              | succ d4 ih4 =>
                intro j X4 H locs ls hd hl hP hD hS hj4 hb4 he4 hbX4
                refine lv_iload hx hb d_Mo_sort_120 (lv_at hl 0 rfl) ?_
                refine lv_iload hx hb d_Mo_sort_122 (lv_at hl 2 rfl) ?_
                refine x_icmp_ge hx hb d_Mo_sort_124 (tgt := 311) (by decide) (by omega) (by omega) (fun h124 => ?_) (fun h124 => ?_)
                · rw [Nat.min_eq_right (by omega)] at hb4 he4
                  refine lv_iconst (v := nI 0) hx hb d_Mo_sort_311 (by decide) ?_
                  refine lv_istore hx hb d_Mo_sort_312 hl (by decide) rfl (fun ls hl => ?_)
                  have hl : lv_has ls 13 [(6, .int (nI 0)), (5, .int (nI wd)), (4, .int (nI mm)), (0, .ref mo), (1, .int (nI k))] := hl
                  have hl := lv_sub hl [0, 1, 2, 3, 4] rfl
                  refine (?_ : ∀ (d6 : Nat) (t : Nat) (K6 : Nat → Nat) (H : Heap) (locs : List Loc) (ls : Array Slot), mm - t < d6 → lv_has ls 13 [(6, .int (nI t)), (5, .int (nI wd)), (4, .int (nI mm)), (0, .ref mo), (1, .int (nI k))] → va_P G.1 cls [(mo, .inr (4, [.int (nI L), .int (nI n), .ref mc_, .ref mv_, .int (nI x0), .int (nI y0), .int (nI x1), .int (nI y1), .ref mk_, .ref mx_])), (mc_, .inl (G.2.1, 500, .inl (fun zz => nI (C zz)))), (mv_, .inl (G.2.1, 500, .inl (fun zz => nI (V zz)))), (mk_, .inl (G.2.1, 4096, .inl (fun zz => nI (K6 zz)))), (mx_, .inl (G.2.1, 4096, .inl (fun zz => nI (X4 zz))))] H → va_D A [(mo, .inr (4, [.int (nI L), .int (nI n), .ref mc_, .ref mv_, .int (nI x0), .int (nI y0), .int (nI x1), .int (nI y1), .ref mk_, .ref mx_])), (mc_, .inl (G.2.1, 500, .inl (fun zz => nI (C zz)))), (mv_, .inl (G.2.1, 500, .inl (fun zz => nI (V zz)))), (mk_, .inl (G.2.1, 4096, .inl (fun zz => nI (K6 zz)))), (mx_, .inl (G.2.1, 4096, .inl (fun zz => nI (X4 zz))))] → va_S A s.heap H locs → (t ≤ mm) → (∀ i, i < t → K6 i = X4 i) → (bd K6) → W p la e _ s m _ below meth c H locs 0 0 Q (F0 m 314 ls [])) (mm - 0 + 1) 0 K3 _ _ ls (Nat.lt_succ_self _) hl hP hD hS (Nat.zero_le _) (fun i h => absurd h (Nat.not_lt_zero _)) (hbK3)
                  intro d6
                  induction d6 with
                  | zero => intro t K6 H locs ls hd; exact absurd hd (Nat.not_lt_zero _)
                  | succ d6 ih6 =>
                    intro t K6 H locs ls hd hl hP hD hS ht hcp hbK6
                    refine lv_iload hx hb d_Mo_sort_314 (lv_at hl 0 rfl) ?_
                    refine lv_iload hx hb d_Mo_sort_316 (lv_at hl 2 rfl) ?_
                    refine x_icmp_ge hx hb d_Mo_sort_318 (tgt := 341) (by decide) (by omega) (by omega) (fun h318 => ?_) (fun h318 => ?_)
                    · refine lv_iconst (v := nI 2) hx hb d_Mo_sort_341 (by decide) ?_
                      refine lv_iload hx hb d_Mo_sort_342 (lv_at hl 1 rfl) ?_
                      refine x_imul hx hb d_Mo_sort_344 ?_
                      refine lv_istore hx hb d_Mo_sort_345 hl (by decide) rfl (fun ls hl => ?_)
                      have hl : lv_has ls 13 [(5, .int (nI (2 * wd))), (6, .int (nI t)), (4, .int (nI mm)), (0, .ref mo), (1, .int (nI k))] := hl
                      refine lv_goto hx hb d_Mo_sort_347 (tgt := 110) (by decide) ?_
                      have hl := lv_sub hl [0, 2, 3, 4] rfl
                      exact ih3 (2 * wd) (K6) (X4) _ _ _ (by omega) hl hP hD hS (by omega) (by omega) (bs_cp hb4 (fun i hi => hcp i (by omega))) (eqs_cp heq he4 (fun i hi => hcp i (by omega))) (hbK6) (hbX4)
                    · refine lv_aload_n hx hb d_Mo_sort_321 rfl (lv_at hl 3 rfl) ?_
                      refine y_get S hk hP 0 rfl f_Mo_20 rfl d_Mo_sort_322 ?_
                      refine lv_iload hx hb d_Mo_sort_325 (lv_at hl 0 rfl) ?_
                      refine lv_aload_n hx hb d_Mo_sort_327 rfl (lv_at hl 3 rfl) ?_
                      refine y_get S hk hP 0 rfl f_Mo_23 rfl d_Mo_sort_328 ?_
                      refine lv_iload hx hb d_Mo_sort_331 (lv_at hl 0 rfl) ?_
                      refine y_ald hx hb hk hP 4 rfl (by omega) (by decide) d_Mo_sort_333 ?_
                      refine y_ast hx hb hk hP hD hS 3 rfl (by omega) (by decide) d_Mo_sort_334 (fun H locs hP hD hS => ?_)
                      have hP : va_P G.1 cls [(mo, .inr (4, [.int (nI L), .int (nI n), .ref mc_, .ref mv_, .int (nI x0), .int (nI y0), .int (nI x1), .int (nI y1), .ref mk_, .ref mx_])), (mc_, .inl (G.2.1, 500, .inl (fun zz => nI (C zz)))), (mv_, .inl (G.2.1, 500, .inl (fun zz => nI (V zz)))), (mk_, .inl (G.2.1, 4096, .inl (fun zz => nI ((va_up K6 t (X4 t)) zz)))), (mx_, .inl (G.2.1, 4096, .inl (fun zz => nI (X4 zz))))] H := hP
                      have hD : va_D A [(mo, .inr (4, [.int (nI L), .int (nI n), .ref mc_, .ref mv_, .int (nI x0), .int (nI y0), .int (nI x1), .int (nI y1), .ref mk_, .ref mx_])), (mc_, .inl (G.2.1, 500, .inl (fun zz => nI (C zz)))), (mv_, .inl (G.2.1, 500, .inl (fun zz => nI (V zz)))), (mk_, .inl (G.2.1, 4096, .inl (fun zz => nI ((va_up K6 t (X4 t)) zz)))), (mx_, .inl (G.2.1, 4096, .inl (fun zz => nI (X4 zz))))] := hD
                      refine lv_iinc (v := nI (t + 1)) hx hb d_Mo_sort_335 hl (k := 0) rfl (ii_p _ 1) (by decide) rfl (fun ls hl => ?_)
                      have hl : lv_has ls 13 [(6, .int (nI (t + 1))), (5, .int (nI wd)), (4, .int (nI mm)), (0, .ref mo), (1, .int (nI k))] := hl
                      refine lv_goto hx hb d_Mo_sort_338 (tgt := 314) (by decide) ?_
                      have hl := lv_sub hl [0, 1, 2, 3, 4] rfl
                      exact ih6 (t + 1) _ _ _ _ (by omega) hl hP hD hS (by omega) (fun i hi => by rcases Nat.lt_or_ge i t with z | z; rw [up_ne (by omega)]; exact hcp i z; obtain rfl : i = t := (by omega); rw [va_up_self]) (bd_up hbK6 (hbX4 _))
                · rw [Nat.min_eq_left (by omega)] at hb4 he4
                  refine lv_iload hx hb d_Mo_sort_127 (lv_at hl 0 rfl) ?_
                  refine lv_istore hx hb d_Mo_sort_129 hl (by decide) rfl (fun ls hl => ?_)
                  have hl : lv_has ls 13 [(7, .int (nI (2 * wd * j))), (6, .int (nI (2 * wd * j))), (5, .int (nI wd)), (4, .int (nI mm)), (0, .ref mo), (1, .int (nI k))] := hl
                  refine lv_iload hx hb d_Mo_sort_131 (lv_at hl 1 rfl) ?_
                  refine lv_iload hx hb d_Mo_sort_133 (lv_at hl 2 rfl) ?_
                  refine x_iadd hx hb d_Mo_sort_135 ?_
                  refine lv_iload hx hb d_Mo_sort_136 (lv_at hl 3 rfl) ?_
                  refine x_icmp_ge hx hb d_Mo_sort_138 (tgt := 149) (by decide) (by omega) (by omega) (fun h138 => ?_) (fun h138 => ?_)
                  · refine lv_iload hx hb d_Mo_sort_149 (lv_at hl 3 rfl) ?_
                    refine lv_istore hx hb d_Mo_sort_151 hl (by decide) rfl (fun ls hl => ?_)
                    have hl : lv_has ls 13 [(8, .int (nI mm)), (7, .int (nI (2 * wd * j))), (6, .int (nI (2 * wd * j))), (5, .int (nI wd)), (4, .int (nI mm)), (0, .ref mo), (1, .int (nI k))] := hl
                    refine lv_iload hx hb d_Mo_sort_153 (lv_at hl 0 rfl) ?_
                    refine lv_istore hx hb d_Mo_sort_155 hl (by decide) rfl (fun ls hl => ?_)
                    have hl : lv_has ls 13 [(9, .int (nI mm)), (8, .int (nI mm)), (7, .int (nI (2 * wd * j))), (6, .int (nI (2 * wd * j))), (5, .int (nI wd)), (4, .int (nI mm)), (0, .ref mo), (1, .int (nI k))] := hl
                    refine lv_iload hx hb d_Mo_sort_157 (lv_at hl 3 rfl) ?_
                    refine lv_iconst (v := nI 2) hx hb d_Mo_sort_159 (by decide) ?_
                    refine lv_iload hx hb d_Mo_sort_160 (lv_at hl 4 rfl) ?_
                    refine x_imul hx hb d_Mo_sort_162 ?_
                    refine x_iadd hx hb d_Mo_sort_163 ?_
                    refine lv_iload hx hb d_Mo_sort_164 (lv_at hl 5 rfl) ?_
                    refine x_icmp_ge hx hb d_Mo_sort_166 (tgt := 179) (by decide) (by omega) (by omega) (fun h166 => ?_) (fun h166 => ?_)
                    · refine lv_iload hx hb d_Mo_sort_179 (lv_at hl 5 rfl) ?_
                      refine lv_istore hx hb d_Mo_sort_181 hl (by decide) rfl (fun ls hl => ?_)
                      have hl : lv_has ls 13 [(10, .int (nI mm)), (9, .int (nI mm)), (8, .int (nI mm)), (7, .int (nI (2 * wd * j))), (6, .int (nI (2 * wd * j))), (5, .int (nI wd)), (4, .int (nI mm)), (0, .ref mo), (1, .int (nI k))] := hl
                      refine lv_iload hx hb d_Mo_sort_183 (lv_at hl 4 rfl) ?_
                      refine lv_istore hx hb d_Mo_sort_185 hl (by decide) rfl (fun ls hl => ?_)
                      have hl : lv_has ls 13 [(11, .int (nI (2 * wd * j))), (10, .int (nI mm)), (9, .int (nI mm)), (8, .int (nI mm)), (7, .int (nI (2 * wd * j))), (6, .int (nI (2 * wd * j))), (5, .int (nI wd)), (4, .int (nI mm)), (0, .ref mo), (1, .int (nI k))] := hl
                      have hl := lv_sub hl [0, 1, 2, 3, 4, 5, 6, 7, 8, 9] rfl
                      have hs1 := bs_lo hbs (by omega) (j := j) (mid := mm) (by omega) (by omega)
                      have hs2 : ∀ p q, mm ≤ p → p < q → q < mm → K3 p ≤ K3 q := fun p q g1 g2 g3 => absurd g3 (by omega)
                      have eE : mm = min (2 * wd * j + 2 * wd) mm := by omega
                      refine (?_ : ∀ (d5 : Nat) (a : Nat) (b : Nat) (t : Nat) (X5 : Nat → Nat) (H : Heap) (locs : List Loc) (ls : Array Slot), mm - t < d5 → lv_has ls 13 [(11, .int (nI t)), (10, .int (nI mm)), (9, .int (nI b)), (8, .int (nI mm)), (7, .int (nI a)), (6, .int (nI (2 * wd * j))), (5, .int (nI wd)), (4, .int (nI mm)), (0, .ref mo), (1, .int (nI k))] → va_P G.1 cls [(mo, .inr (4, [.int (nI L), .int (nI n), .ref mc_, .ref mv_, .int (nI x0), .int (nI y0), .int (nI x1), .int (nI y1), .ref mk_, .ref mx_])), (mc_, .inl (G.2.1, 500, .inl (fun zz => nI (C zz)))), (mv_, .inl (G.2.1, 500, .inl (fun zz => nI (V zz)))), (mk_, .inl (G.2.1, 4096, .inl (fun zz => nI (K3 zz)))), (mx_, .inl (G.2.1, 4096, .inl (fun zz => nI (X5 zz))))] H → va_D A [(mo, .inr (4, [.int (nI L), .int (nI n), .ref mc_, .ref mv_, .int (nI x0), .int (nI y0), .int (nI x1), .int (nI y1), .ref mk_, .ref mx_])), (mc_, .inl (G.2.1, 500, .inl (fun zz => nI (C zz)))), (mv_, .inl (G.2.1, 500, .inl (fun zz => nI (V zz)))), (mk_, .inl (G.2.1, 4096, .inl (fun zz => nI (K3 zz)))), (mx_, .inl (G.2.1, 4096, .inl (fun zz => nI (X5 zz))))] → va_S A s.heap H locs → (mg K3 X5 (2 * wd * j) (mm) (mm) a b t) → (∀ i, i < 2 * wd * j → X5 i = X4 i) → (bd X5) → W p la e _ s m _ below meth c H locs 0 0 Q (F0 m 187 ls [])) (mm - 2 * wd * j + 1) (2 * wd * j) (mm) (2 * wd * j) X4 _ _ ls (Nat.lt_succ_self _) hl hP hD hS (mg_0 (by omega) (by omega)) (fun i _ => rfl) (hbX4)
                      intro d5
                      induction d5 with
                      | zero => intro a b t X5 H locs ls hd; exact absurd hd (Nat.not_lt_zero _)
                      | succ d5 ih5 =>
                        intro a b t X5 H locs ls hd hl hP hD hS hmg hfr hbX5
                        obtain ⟨i1, i2, i3, i4, i5⟩ := hmg.1
                        refine lv_iload hx hb d_Mo_sort_187 (lv_at hl 0 rfl) ?_
                        refine lv_iload hx hb d_Mo_sort_189 (lv_at hl 1 rfl) ?_
                        refine x_icmp_ge hx hb d_Mo_sort_191 (tgt := 299) (by decide) (by omega) (by omega) (fun h191 => ?_) (fun h191 => ?_)
                        · have ea : a = mm := by omega
                          have eb : b = mm := by omega
                          have et : t = mm := by omega
                          rw [ea, eb, et] at hmg
                          obtain ⟨g1, g2⟩ := mg_end (by omega) (by omega) eE hfr hmg hb4 he4
                          refine lv_iload hx hb d_Mo_sort_299 (lv_at hl 5 rfl) ?_
                          refine lv_iconst (v := nI 2) hx hb d_Mo_sort_301 (by decide) ?_
                          refine lv_iload hx hb d_Mo_sort_302 (lv_at hl 6 rfl) ?_
                          refine x_imul hx hb d_Mo_sort_304 ?_
                          refine x_iadd hx hb d_Mo_sort_305 ?_
                          refine lv_istore hx hb d_Mo_sort_306 hl (by decide) rfl (fun ls hl => ?_)
                          have hl : lv_has ls 13 [(6, .int (nI ((2 * wd * j) + (2 * wd)))), (11, .int (nI t)), (10, .int (nI mm)), (9, .int (nI b)), (8, .int (nI mm)), (7, .int (nI a)), (5, .int (nI wd)), (4, .int (nI mm)), (0, .ref mo), (1, .int (nI k))] := hl
                          refine lv_goto hx hb d_Mo_sort_308 (tgt := 120) (by decide) ?_
                          have hl := lv_sub hl [0, 6, 7, 8, 9] rfl
                          have em : 2 * wd * (j + 1) = 2 * wd * j + 2 * wd := Nat.mul_succ _ _
                          rw [← em] at hl
                          exact ih4 (j + 1) (X5) _ _ _ (by omega) hl hP hD hS (by omega) (by rw [em, ← eE]; exact g1) (by rw [em, ← eE]; exact g2) (hbX5)
                        · refine lv_iload hx hb d_Mo_sort_194 (lv_at hl 4 rfl) ?_
                          refine lv_iload hx hb d_Mo_sort_196 (lv_at hl 3 rfl) ?_
                          refine x_icmp_ge hx hb d_Mo_sort_198 (tgt := 229) (by decide) (by omega) (by omega) (fun h198 => ?_) (fun h198 => ?_)
                          · refine lv_iconst (v := nI 0) hx hb d_Mo_sort_229 (by decide) ?_
                            refine lv_istore hx hb d_Mo_sort_230 hl (by decide) rfl (fun ls hl => ?_)
                            have hl : lv_has ls 13 [(12, .int (nI 0)), (11, .int (nI t)), (10, .int (nI mm)), (9, .int (nI b)), (8, .int (nI mm)), (7, .int (nI a)), (6, .int (nI (2 * wd * j))), (5, .int (nI wd)), (4, .int (nI mm)), (0, .ref mo), (1, .int (nI k))] := hl
                            refine lv_aload_n hx hb d_Mo_sort_232 rfl (lv_at hl 9 rfl) ?_
                            refine y_get S hk hP 0 rfl f_Mo_23 rfl d_Mo_sort_233 ?_
                            refine lv_iload hx hb d_Mo_sort_236 (lv_at hl 1 rfl) ?_
                            refine lv_iload hx hb d_Mo_sort_238 (lv_at hl 0 rfl) ?_
                            refine lv_if_eq hx hb d_Mo_sort_240 (tgt := 253) (by decide) (fun _ => ?_) (fun h => absurd (by decide) h)
                            refine lv_aload_n hx hb d_Mo_sort_253 rfl (lv_at hl 9 rfl) ?_
                            refine y_get S hk hP 0 rfl f_Mo_20 rfl d_Mo_sort_254 ?_
                            refine lv_iload hx hb d_Mo_sort_257 (lv_at hl 3 rfl) ?_
                            refine y_ald hx hb hk hP 3 rfl (by omega) (by decide) d_Mo_sort_259 ?_
                            refine y_ast hx hb hk hP hD hS 4 rfl (by omega) (by decide) d_Mo_sort_260 (fun H locs hP hD hS => ?_)
                            have hP : va_P G.1 cls [(mo, .inr (4, [.int (nI L), .int (nI n), .ref mc_, .ref mv_, .int (nI x0), .int (nI y0), .int (nI x1), .int (nI y1), .ref mk_, .ref mx_])), (mc_, .inl (G.2.1, 500, .inl (fun zz => nI (C zz)))), (mv_, .inl (G.2.1, 500, .inl (fun zz => nI (V zz)))), (mk_, .inl (G.2.1, 4096, .inl (fun zz => nI (K3 zz)))), (mx_, .inl (G.2.1, 4096, .inl (fun zz => nI ((va_up X5 t (K3 b)) zz))))] H := hP
                            have hD : va_D A [(mo, .inr (4, [.int (nI L), .int (nI n), .ref mc_, .ref mv_, .int (nI x0), .int (nI y0), .int (nI x1), .int (nI y1), .ref mk_, .ref mx_])), (mc_, .inl (G.2.1, 500, .inl (fun zz => nI (C zz)))), (mv_, .inl (G.2.1, 500, .inl (fun zz => nI (V zz)))), (mk_, .inl (G.2.1, 4096, .inl (fun zz => nI (K3 zz)))), (mx_, .inl (G.2.1, 4096, .inl (fun zz => nI ((va_up X5 t (K3 b)) zz))))] := hD
                            refine lv_iload hx hb d_Mo_sort_261 (lv_at hl 0 rfl) ?_
                            refine lv_if_eq hx hb d_Mo_sort_263 (tgt := 273) (by decide) (fun _ => ?_) (fun h => absurd (by decide) h)
                            refine lv_iload hx hb d_Mo_sort_273 (lv_at hl 5 rfl) ?_
                            refine lv_istore hx hb d_Mo_sort_275 hl (by decide) rfl (fun ls hl => ?_)
                            have hl : lv_has ls 13 [(7, .int (nI a)), (12, .int (nI 0)), (11, .int (nI t)), (10, .int (nI mm)), (9, .int (nI b)), (8, .int (nI mm)), (6, .int (nI (2 * wd * j))), (5, .int (nI wd)), (4, .int (nI mm)), (0, .ref mo), (1, .int (nI k))] := hl
                            refine lv_iload hx hb d_Mo_sort_277 (lv_at hl 1 rfl) ?_
                            refine lv_if_eq hx hb d_Mo_sort_279 (tgt := 287) (by decide) (fun _ => ?_) (fun h => absurd (by decide) h)
                            refine lv_iload hx hb d_Mo_sort_287 (lv_at hl 4 rfl) ?_
                            refine lv_iconst (v := nI 1) hx hb d_Mo_sort_289 (by decide) ?_
                            refine x_iadd hx hb d_Mo_sort_290 ?_
                            refine lv_istore hx hb d_Mo_sort_291 hl (by decide) rfl (fun ls hl => ?_)
                            have hl : lv_has ls 13 [(9, .int (nI (b + 1))), (7, .int (nI a)), (12, .int (nI 0)), (11, .int (nI t)), (10, .int (nI mm)), (8, .int (nI mm)), (6, .int (nI (2 * wd * j))), (5, .int (nI wd)), (4, .int (nI mm)), (0, .ref mo), (1, .int (nI k))] := hl
                            refine lv_iinc (v := nI (t + 1)) hx hb d_Mo_sort_293 hl (k := 3) rfl (ii_p _ 1) (by decide) rfl (fun ls hl => ?_)
                            have hl : lv_has ls 13 [(11, .int (nI (t + 1))), (9, .int (nI (b + 1))), (7, .int (nI a)), (12, .int (nI 0)), (10, .int (nI mm)), (8, .int (nI mm)), (6, .int (nI (2 * wd * j))), (5, .int (nI wd)), (4, .int (nI mm)), (0, .ref mo), (1, .int (nI k))] := hl
                            refine lv_goto hx hb d_Mo_sort_296 (tgt := 187) (by decide) ?_
                            have hl := lv_sub hl [0, 4, 1, 5, 2, 6, 7, 8, 9, 10] rfl
                            exact ih5 (a) (b + 1) (t + 1) _ _ _ _ (by omega) hl hP hD hS (mg_b hmg hs1 hs2 (by omega) (Or.inl (by omega))) (fun i hi => by rw [up_ne (by omega)]; exact hfr i hi) (bd_up hbX5 (hbK3 _))
                          · refine lv_iload hx hb d_Mo_sort_201 (lv_at hl 2 rfl) ?_
                            refine lv_iload hx hb d_Mo_sort_203 (lv_at hl 1 rfl) ?_
                            refine x_icmp_eq hx hb d_Mo_sort_205 (tgt := 225) (by decide) (by omega) (by omega) (fun h205 => ?_) (fun h205 => ?_)
                            · refine lv_iconst (v := nI 1) hx hb d_Mo_sort_225 (by decide) ?_
                              refine lv_goto hx hb d_Mo_sort_226 (tgt := 230) (by decide) ?_
                              refine lv_istore hx hb d_Mo_sort_230 hl (by decide) rfl (fun ls hl => ?_)
                              have hl : lv_has ls 13 [(12, .int (nI 1)), (11, .int (nI t)), (10, .int (nI mm)), (9, .int (nI b)), (8, .int (nI mm)), (7, .int (nI a)), (6, .int (nI (2 * wd * j))), (5, .int (nI wd)), (4, .int (nI mm)), (0, .ref mo), (1, .int (nI k))] := hl
                              refine lv_aload_n hx hb d_Mo_sort_232 rfl (lv_at hl 9 rfl) ?_
                              refine y_get S hk hP 0 rfl f_Mo_23 rfl d_Mo_sort_233 ?_
                              refine lv_iload hx hb d_Mo_sort_236 (lv_at hl 1 rfl) ?_
                              refine lv_iload hx hb d_Mo_sort_238 (lv_at hl 0 rfl) ?_
                              refine lv_if_eq hx hb d_Mo_sort_240 (tgt := 253) (by decide) (fun h => absurd h (by decide)) (fun _ => ?_)
                              refine lv_aload_n hx hb d_Mo_sort_243 rfl (lv_at hl 9 rfl) ?_
                              refine y_get S hk hP 0 rfl f_Mo_20 rfl d_Mo_sort_244 ?_
                              refine lv_iload hx hb d_Mo_sort_247 (lv_at hl 5 rfl) ?_
                              refine y_ald hx hb hk hP 3 rfl (by omega) (by decide) d_Mo_sort_249 ?_
                              refine lv_goto hx hb d_Mo_sort_250 (tgt := 260) (by decide) ?_
                              refine y_ast hx hb hk hP hD hS 4 rfl (by omega) (by decide) d_Mo_sort_260 (fun H locs hP hD hS => ?_)
                              have hP : va_P G.1 cls [(mo, .inr (4, [.int (nI L), .int (nI n), .ref mc_, .ref mv_, .int (nI x0), .int (nI y0), .int (nI x1), .int (nI y1), .ref mk_, .ref mx_])), (mc_, .inl (G.2.1, 500, .inl (fun zz => nI (C zz)))), (mv_, .inl (G.2.1, 500, .inl (fun zz => nI (V zz)))), (mk_, .inl (G.2.1, 4096, .inl (fun zz => nI (K3 zz)))), (mx_, .inl (G.2.1, 4096, .inl (fun zz => nI ((va_up X5 t (K3 a)) zz))))] H := hP
                              have hD : va_D A [(mo, .inr (4, [.int (nI L), .int (nI n), .ref mc_, .ref mv_, .int (nI x0), .int (nI y0), .int (nI x1), .int (nI y1), .ref mk_, .ref mx_])), (mc_, .inl (G.2.1, 500, .inl (fun zz => nI (C zz)))), (mv_, .inl (G.2.1, 500, .inl (fun zz => nI (V zz)))), (mk_, .inl (G.2.1, 4096, .inl (fun zz => nI (K3 zz)))), (mx_, .inl (G.2.1, 4096, .inl (fun zz => nI ((va_up X5 t (K3 a)) zz))))] := hD
                              refine lv_iload hx hb d_Mo_sort_261 (lv_at hl 0 rfl) ?_
                              refine lv_if_eq hx hb d_Mo_sort_263 (tgt := 273) (by decide) (fun h => absurd h (by decide)) (fun _ => ?_)
                              refine lv_iload hx hb d_Mo_sort_266 (lv_at hl 5 rfl) ?_
                              refine lv_iconst (v := nI 1) hx hb d_Mo_sort_268 (by decide) ?_
                              refine x_iadd hx hb d_Mo_sort_269 ?_
                              refine lv_goto hx hb d_Mo_sort_270 (tgt := 275) (by decide) ?_
                              refine lv_istore hx hb d_Mo_sort_275 hl (by decide) rfl (fun ls hl => ?_)
                              have hl : lv_has ls 13 [(7, .int (nI (a + 1))), (12, .int (nI 1)), (11, .int (nI t)), (10, .int (nI mm)), (9, .int (nI b)), (8, .int (nI mm)), (6, .int (nI (2 * wd * j))), (5, .int (nI wd)), (4, .int (nI mm)), (0, .ref mo), (1, .int (nI k))] := hl
                              refine lv_iload hx hb d_Mo_sort_277 (lv_at hl 1 rfl) ?_
                              refine lv_if_eq hx hb d_Mo_sort_279 (tgt := 287) (by decide) (fun h => absurd h (by decide)) (fun _ => ?_)
                              refine lv_iload hx hb d_Mo_sort_282 (lv_at hl 4 rfl) ?_
                              refine lv_goto hx hb d_Mo_sort_284 (tgt := 291) (by decide) ?_
                              refine lv_istore hx hb d_Mo_sort_291 hl (by decide) rfl (fun ls hl => ?_)
                              have hl : lv_has ls 13 [(9, .int (nI b)), (7, .int (nI (a + 1))), (12, .int (nI 1)), (11, .int (nI t)), (10, .int (nI mm)), (8, .int (nI mm)), (6, .int (nI (2 * wd * j))), (5, .int (nI wd)), (4, .int (nI mm)), (0, .ref mo), (1, .int (nI k))] := hl
                              refine lv_iinc (v := nI (t + 1)) hx hb d_Mo_sort_293 hl (k := 3) rfl (ii_p _ 1) (by decide) rfl (fun ls hl => ?_)
                              have hl : lv_has ls 13 [(11, .int (nI (t + 1))), (9, .int (nI b)), (7, .int (nI (a + 1))), (12, .int (nI 1)), (10, .int (nI mm)), (8, .int (nI mm)), (6, .int (nI (2 * wd * j))), (5, .int (nI wd)), (4, .int (nI mm)), (0, .ref mo), (1, .int (nI k))] := hl
                              refine lv_goto hx hb d_Mo_sort_296 (tgt := 187) (by decide) ?_
                              have hl := lv_sub hl [0, 4, 1, 5, 2, 6, 7, 8, 9, 10] rfl
                              exact ih5 (a + 1) (b) (t + 1) _ _ _ _ (by omega) hl hP hD hS (mg_a hmg hs1 hs2 (by omega) (Or.inl h205)) (fun i hi => by rw [up_ne (by omega)]; exact hfr i hi) (bd_up hbX5 (hbK3 _))
                            · refine lv_aload_n hx hb d_Mo_sort_208 rfl (lv_at hl 8 rfl) ?_
                              refine y_get S hk hP 0 rfl f_Mo_20 rfl d_Mo_sort_209 ?_
                              refine lv_iload hx hb d_Mo_sort_212 (lv_at hl 4 rfl) ?_
                              refine y_ald hx hb hk hP 3 rfl (by omega) (by decide) d_Mo_sort_214 ?_
                              refine lv_aload_n hx hb d_Mo_sort_215 rfl (lv_at hl 8 rfl) ?_
                              refine y_get S hk hP 0 rfl f_Mo_20 rfl d_Mo_sort_216 ?_
                              refine lv_iload hx hb d_Mo_sort_219 (lv_at hl 2 rfl) ?_
                              refine y_ald hx hb hk hP 3 rfl (by omega) (by decide) d_Mo_sort_221 ?_
                              refine x_icmp_ge hx hb d_Mo_sort_222 (tgt := 229) (by decide) (hbK3 _) (hbK3 _) (fun h222 => ?_) (fun h222 => ?_)
                              · refine lv_iconst (v := nI 0) hx hb d_Mo_sort_229 (by decide) ?_
                                refine lv_istore hx hb d_Mo_sort_230 hl (by decide) rfl (fun ls hl => ?_)
                                have hl : lv_has ls 13 [(12, .int (nI 0)), (11, .int (nI t)), (10, .int (nI mm)), (9, .int (nI b)), (8, .int (nI mm)), (7, .int (nI a)), (6, .int (nI (2 * wd * j))), (5, .int (nI wd)), (4, .int (nI mm)), (0, .ref mo), (1, .int (nI k))] := hl
                                refine lv_aload_n hx hb d_Mo_sort_232 rfl (lv_at hl 9 rfl) ?_
                                refine y_get S hk hP 0 rfl f_Mo_23 rfl d_Mo_sort_233 ?_
                                refine lv_iload hx hb d_Mo_sort_236 (lv_at hl 1 rfl) ?_
                                refine lv_iload hx hb d_Mo_sort_238 (lv_at hl 0 rfl) ?_
                                refine lv_if_eq hx hb d_Mo_sort_240 (tgt := 253) (by decide) (fun _ => ?_) (fun h => absurd (by decide) h)
                                refine lv_aload_n hx hb d_Mo_sort_253 rfl (lv_at hl 9 rfl) ?_
                                refine y_get S hk hP 0 rfl f_Mo_20 rfl d_Mo_sort_254 ?_
                                refine lv_iload hx hb d_Mo_sort_257 (lv_at hl 3 rfl) ?_
                                refine y_ald hx hb hk hP 3 rfl (by omega) (by decide) d_Mo_sort_259 ?_
                                refine y_ast hx hb hk hP hD hS 4 rfl (by omega) (by decide) d_Mo_sort_260 (fun H locs hP hD hS => ?_)
                                have hP : va_P G.1 cls [(mo, .inr (4, [.int (nI L), .int (nI n), .ref mc_, .ref mv_, .int (nI x0), .int (nI y0), .int (nI x1), .int (nI y1), .ref mk_, .ref mx_])), (mc_, .inl (G.2.1, 500, .inl (fun zz => nI (C zz)))), (mv_, .inl (G.2.1, 500, .inl (fun zz => nI (V zz)))), (mk_, .inl (G.2.1, 4096, .inl (fun zz => nI (K3 zz)))), (mx_, .inl (G.2.1, 4096, .inl (fun zz => nI ((va_up X5 t (K3 b)) zz))))] H := hP
                                have hD : va_D A [(mo, .inr (4, [.int (nI L), .int (nI n), .ref mc_, .ref mv_, .int (nI x0), .int (nI y0), .int (nI x1), .int (nI y1), .ref mk_, .ref mx_])), (mc_, .inl (G.2.1, 500, .inl (fun zz => nI (C zz)))), (mv_, .inl (G.2.1, 500, .inl (fun zz => nI (V zz)))), (mk_, .inl (G.2.1, 4096, .inl (fun zz => nI (K3 zz)))), (mx_, .inl (G.2.1, 4096, .inl (fun zz => nI ((va_up X5 t (K3 b)) zz))))] := hD
                                refine lv_iload hx hb d_Mo_sort_261 (lv_at hl 0 rfl) ?_
                                refine lv_if_eq hx hb d_Mo_sort_263 (tgt := 273) (by decide) (fun _ => ?_) (fun h => absurd (by decide) h)
                                refine lv_iload hx hb d_Mo_sort_273 (lv_at hl 5 rfl) ?_
                                refine lv_istore hx hb d_Mo_sort_275 hl (by decide) rfl (fun ls hl => ?_)
                                have hl : lv_has ls 13 [(7, .int (nI a)), (12, .int (nI 0)), (11, .int (nI t)), (10, .int (nI mm)), (9, .int (nI b)), (8, .int (nI mm)), (6, .int (nI (2 * wd * j))), (5, .int (nI wd)), (4, .int (nI mm)), (0, .ref mo), (1, .int (nI k))] := hl
                                refine lv_iload hx hb d_Mo_sort_277 (lv_at hl 1 rfl) ?_
                                refine lv_if_eq hx hb d_Mo_sort_279 (tgt := 287) (by decide) (fun _ => ?_) (fun h => absurd (by decide) h)
                                refine lv_iload hx hb d_Mo_sort_287 (lv_at hl 4 rfl) ?_
                                refine lv_iconst (v := nI 1) hx hb d_Mo_sort_289 (by decide) ?_
                                refine x_iadd hx hb d_Mo_sort_290 ?_
                                refine lv_istore hx hb d_Mo_sort_291 hl (by decide) rfl (fun ls hl => ?_)
                                have hl : lv_has ls 13 [(9, .int (nI (b + 1))), (7, .int (nI a)), (12, .int (nI 0)), (11, .int (nI t)), (10, .int (nI mm)), (8, .int (nI mm)), (6, .int (nI (2 * wd * j))), (5, .int (nI wd)), (4, .int (nI mm)), (0, .ref mo), (1, .int (nI k))] := hl
                                refine lv_iinc (v := nI (t + 1)) hx hb d_Mo_sort_293 hl (k := 3) rfl (ii_p _ 1) (by decide) rfl (fun ls hl => ?_)
                                have hl : lv_has ls 13 [(11, .int (nI (t + 1))), (9, .int (nI (b + 1))), (7, .int (nI a)), (12, .int (nI 0)), (10, .int (nI mm)), (8, .int (nI mm)), (6, .int (nI (2 * wd * j))), (5, .int (nI wd)), (4, .int (nI mm)), (0, .ref mo), (1, .int (nI k))] := hl
                                refine lv_goto hx hb d_Mo_sort_296 (tgt := 187) (by decide) ?_
                                have hl := lv_sub hl [0, 4, 1, 5, 2, 6, 7, 8, 9, 10] rfl
                                exact ih5 (a) (b + 1) (t + 1) _ _ _ _ (by omega) hl hP hD hS (mg_b hmg hs1 hs2 (by omega) (Or.inr h222)) (fun i hi => by rw [up_ne (by omega)]; exact hfr i hi) (bd_up hbX5 (hbK3 _))
                              · refine lv_iconst (v := nI 1) hx hb d_Mo_sort_225 (by decide) ?_
                                refine lv_goto hx hb d_Mo_sort_226 (tgt := 230) (by decide) ?_
                                refine lv_istore hx hb d_Mo_sort_230 hl (by decide) rfl (fun ls hl => ?_)
                                have hl : lv_has ls 13 [(12, .int (nI 1)), (11, .int (nI t)), (10, .int (nI mm)), (9, .int (nI b)), (8, .int (nI mm)), (7, .int (nI a)), (6, .int (nI (2 * wd * j))), (5, .int (nI wd)), (4, .int (nI mm)), (0, .ref mo), (1, .int (nI k))] := hl
                                refine lv_aload_n hx hb d_Mo_sort_232 rfl (lv_at hl 9 rfl) ?_
                                refine y_get S hk hP 0 rfl f_Mo_23 rfl d_Mo_sort_233 ?_
                                refine lv_iload hx hb d_Mo_sort_236 (lv_at hl 1 rfl) ?_
                                refine lv_iload hx hb d_Mo_sort_238 (lv_at hl 0 rfl) ?_
                                refine lv_if_eq hx hb d_Mo_sort_240 (tgt := 253) (by decide) (fun h => absurd h (by decide)) (fun _ => ?_)
                                refine lv_aload_n hx hb d_Mo_sort_243 rfl (lv_at hl 9 rfl) ?_
                                refine y_get S hk hP 0 rfl f_Mo_20 rfl d_Mo_sort_244 ?_
                                refine lv_iload hx hb d_Mo_sort_247 (lv_at hl 5 rfl) ?_
                                refine y_ald hx hb hk hP 3 rfl (by omega) (by decide) d_Mo_sort_249 ?_
                                refine lv_goto hx hb d_Mo_sort_250 (tgt := 260) (by decide) ?_
                                refine y_ast hx hb hk hP hD hS 4 rfl (by omega) (by decide) d_Mo_sort_260 (fun H locs hP hD hS => ?_)
                                have hP : va_P G.1 cls [(mo, .inr (4, [.int (nI L), .int (nI n), .ref mc_, .ref mv_, .int (nI x0), .int (nI y0), .int (nI x1), .int (nI y1), .ref mk_, .ref mx_])), (mc_, .inl (G.2.1, 500, .inl (fun zz => nI (C zz)))), (mv_, .inl (G.2.1, 500, .inl (fun zz => nI (V zz)))), (mk_, .inl (G.2.1, 4096, .inl (fun zz => nI (K3 zz)))), (mx_, .inl (G.2.1, 4096, .inl (fun zz => nI ((va_up X5 t (K3 a)) zz))))] H := hP
                                have hD : va_D A [(mo, .inr (4, [.int (nI L), .int (nI n), .ref mc_, .ref mv_, .int (nI x0), .int (nI y0), .int (nI x1), .int (nI y1), .ref mk_, .ref mx_])), (mc_, .inl (G.2.1, 500, .inl (fun zz => nI (C zz)))), (mv_, .inl (G.2.1, 500, .inl (fun zz => nI (V zz)))), (mk_, .inl (G.2.1, 4096, .inl (fun zz => nI (K3 zz)))), (mx_, .inl (G.2.1, 4096, .inl (fun zz => nI ((va_up X5 t (K3 a)) zz))))] := hD
                                refine lv_iload hx hb d_Mo_sort_261 (lv_at hl 0 rfl) ?_
                                refine lv_if_eq hx hb d_Mo_sort_263 (tgt := 273) (by decide) (fun h => absurd h (by decide)) (fun _ => ?_)
                                refine lv_iload hx hb d_Mo_sort_266 (lv_at hl 5 rfl) ?_
                                refine lv_iconst (v := nI 1) hx hb d_Mo_sort_268 (by decide) ?_
                                refine x_iadd hx hb d_Mo_sort_269 ?_
                                refine lv_goto hx hb d_Mo_sort_270 (tgt := 275) (by decide) ?_
                                refine lv_istore hx hb d_Mo_sort_275 hl (by decide) rfl (fun ls hl => ?_)
                                have hl : lv_has ls 13 [(7, .int (nI (a + 1))), (12, .int (nI 1)), (11, .int (nI t)), (10, .int (nI mm)), (9, .int (nI b)), (8, .int (nI mm)), (6, .int (nI (2 * wd * j))), (5, .int (nI wd)), (4, .int (nI mm)), (0, .ref mo), (1, .int (nI k))] := hl
                                refine lv_iload hx hb d_Mo_sort_277 (lv_at hl 1 rfl) ?_
                                refine lv_if_eq hx hb d_Mo_sort_279 (tgt := 287) (by decide) (fun h => absurd h (by decide)) (fun _ => ?_)
                                refine lv_iload hx hb d_Mo_sort_282 (lv_at hl 4 rfl) ?_
                                refine lv_goto hx hb d_Mo_sort_284 (tgt := 291) (by decide) ?_
                                refine lv_istore hx hb d_Mo_sort_291 hl (by decide) rfl (fun ls hl => ?_)
                                have hl : lv_has ls 13 [(9, .int (nI b)), (7, .int (nI (a + 1))), (12, .int (nI 1)), (11, .int (nI t)), (10, .int (nI mm)), (8, .int (nI mm)), (6, .int (nI (2 * wd * j))), (5, .int (nI wd)), (4, .int (nI mm)), (0, .ref mo), (1, .int (nI k))] := hl
                                refine lv_iinc (v := nI (t + 1)) hx hb d_Mo_sort_293 hl (k := 3) rfl (ii_p _ 1) (by decide) rfl (fun ls hl => ?_)
                                have hl : lv_has ls 13 [(11, .int (nI (t + 1))), (9, .int (nI b)), (7, .int (nI (a + 1))), (12, .int (nI 1)), (10, .int (nI mm)), (8, .int (nI mm)), (6, .int (nI (2 * wd * j))), (5, .int (nI wd)), (4, .int (nI mm)), (0, .ref mo), (1, .int (nI k))] := hl
                                refine lv_goto hx hb d_Mo_sort_296 (tgt := 187) (by decide) ?_
                                have hl := lv_sub hl [0, 4, 1, 5, 2, 6, 7, 8, 9, 10] rfl
                                exact ih5 (a + 1) (b) (t + 1) _ _ _ _ (by omega) hl hP hD hS (mg_a hmg hs1 hs2 (by omega) (Or.inr (Nat.le_of_lt h222))) (fun i hi => by rw [up_ne (by omega)]; exact hfr i hi) (bd_up hbX5 (hbK3 _))
                    · exact absurd h166 (by omega)
                  · refine lv_iload hx hb d_Mo_sort_141 (lv_at hl 1 rfl) ?_
                    refine lv_iload hx hb d_Mo_sort_143 (lv_at hl 2 rfl) ?_
                    refine x_iadd hx hb d_Mo_sort_145 ?_
                    refine lv_goto hx hb d_Mo_sort_146 (tgt := 151) (by decide) ?_
                    refine lv_istore hx hb d_Mo_sort_151 hl (by decide) rfl (fun ls hl => ?_)
                    have hl : lv_has ls 13 [(8, .int (nI ((2 * wd * j) + wd))), (7, .int (nI (2 * wd * j))), (6, .int (nI (2 * wd * j))), (5, .int (nI wd)), (4, .int (nI mm)), (0, .ref mo), (1, .int (nI k))] := hl
                    refine lv_iload hx hb d_Mo_sort_153 (lv_at hl 0 rfl) ?_
                    refine lv_istore hx hb d_Mo_sort_155 hl (by decide) rfl (fun ls hl => ?_)
                    have hl : lv_has ls 13 [(9, .int (nI ((2 * wd * j) + wd))), (8, .int (nI ((2 * wd * j) + wd))), (7, .int (nI (2 * wd * j))), (6, .int (nI (2 * wd * j))), (5, .int (nI wd)), (4, .int (nI mm)), (0, .ref mo), (1, .int (nI k))] := hl
                    refine lv_iload hx hb d_Mo_sort_157 (lv_at hl 3 rfl) ?_
                    refine lv_iconst (v := nI 2) hx hb d_Mo_sort_159 (by decide) ?_
                    refine lv_iload hx hb d_Mo_sort_160 (lv_at hl 4 rfl) ?_
                    refine x_imul hx hb d_Mo_sort_162 ?_
                    refine x_iadd hx hb d_Mo_sort_163 ?_
                    refine lv_iload hx hb d_Mo_sort_164 (lv_at hl 5 rfl) ?_
                    refine x_icmp_ge hx hb d_Mo_sort_166 (tgt := 179) (by decide) (by omega) (by omega) (fun h166 => ?_) (fun h166 => ?_)
                    · refine lv_iload hx hb d_Mo_sort_179 (lv_at hl 5 rfl) ?_
                      refine lv_istore hx hb d_Mo_sort_181 hl (by decide) rfl (fun ls hl => ?_)
                      have hl : lv_has ls 13 [(10, .int (nI mm)), (9, .int (nI ((2 * wd * j) + wd))), (8, .int (nI ((2 * wd * j) + wd))), (7, .int (nI (2 * wd * j))), (6, .int (nI (2 * wd * j))), (5, .int (nI wd)), (4, .int (nI mm)), (0, .ref mo), (1, .int (nI k))] := hl
                      refine lv_iload hx hb d_Mo_sort_183 (lv_at hl 4 rfl) ?_
                      refine lv_istore hx hb d_Mo_sort_185 hl (by decide) rfl (fun ls hl => ?_)
                      have hl : lv_has ls 13 [(11, .int (nI (2 * wd * j))), (10, .int (nI mm)), (9, .int (nI ((2 * wd * j) + wd))), (8, .int (nI ((2 * wd * j) + wd))), (7, .int (nI (2 * wd * j))), (6, .int (nI (2 * wd * j))), (5, .int (nI wd)), (4, .int (nI mm)), (0, .ref mo), (1, .int (nI k))] := hl
                      have hl := lv_sub hl [0, 1, 2, 3, 4, 5, 6, 7, 8, 9] rfl
                      have hs1 := bs_lo hbs (by omega) (j := j) (mid := (2 * wd * j) + wd) (by omega) (by omega)
                      have hs2 : ∀ p q, (2 * wd * j) + wd ≤ p → p < q → q < mm → K3 p ≤ K3 q := bs_hi hbs (by omega) (j := j) (e := mm) (by omega) (by omega)
                      have eE : mm = min (2 * wd * j + 2 * wd) mm := by omega
                      refine (?_ : ∀ (d5 : Nat) (a : Nat) (b : Nat) (t : Nat) (X5 : Nat → Nat) (H : Heap) (locs : List Loc) (ls : Array Slot), mm - t < d5 → lv_has ls 13 [(11, .int (nI t)), (10, .int (nI mm)), (9, .int (nI b)), (8, .int (nI ((2 * wd * j) + wd))), (7, .int (nI a)), (6, .int (nI (2 * wd * j))), (5, .int (nI wd)), (4, .int (nI mm)), (0, .ref mo), (1, .int (nI k))] → va_P G.1 cls [(mo, .inr (4, [.int (nI L), .int (nI n), .ref mc_, .ref mv_, .int (nI x0), .int (nI y0), .int (nI x1), .int (nI y1), .ref mk_, .ref mx_])), (mc_, .inl (G.2.1, 500, .inl (fun zz => nI (C zz)))), (mv_, .inl (G.2.1, 500, .inl (fun zz => nI (V zz)))), (mk_, .inl (G.2.1, 4096, .inl (fun zz => nI (K3 zz)))), (mx_, .inl (G.2.1, 4096, .inl (fun zz => nI (X5 zz))))] H → va_D A [(mo, .inr (4, [.int (nI L), .int (nI n), .ref mc_, .ref mv_, .int (nI x0), .int (nI y0), .int (nI x1), .int (nI y1), .ref mk_, .ref mx_])), (mc_, .inl (G.2.1, 500, .inl (fun zz => nI (C zz)))), (mv_, .inl (G.2.1, 500, .inl (fun zz => nI (V zz)))), (mk_, .inl (G.2.1, 4096, .inl (fun zz => nI (K3 zz)))), (mx_, .inl (G.2.1, 4096, .inl (fun zz => nI (X5 zz))))] → va_S A s.heap H locs → (mg K3 X5 (2 * wd * j) ((2 * wd * j) + wd) (mm) a b t) → (∀ i, i < 2 * wd * j → X5 i = X4 i) → (bd X5) → W p la e _ s m _ below meth c H locs 0 0 Q (F0 m 187 ls [])) (mm - 2 * wd * j + 1) (2 * wd * j) ((2 * wd * j) + wd) (2 * wd * j) X4 _ _ ls (Nat.lt_succ_self _) hl hP hD hS (mg_0 (by omega) (by omega)) (fun i _ => rfl) (hbX4)
                      intro d5
                      induction d5 with
                      | zero => intro a b t X5 H locs ls hd; exact absurd hd (Nat.not_lt_zero _)
                      | succ d5 ih5 =>
                        intro a b t X5 H locs ls hd hl hP hD hS hmg hfr hbX5
                        obtain ⟨i1, i2, i3, i4, i5⟩ := hmg.1
                        refine lv_iload hx hb d_Mo_sort_187 (lv_at hl 0 rfl) ?_
                        refine lv_iload hx hb d_Mo_sort_189 (lv_at hl 1 rfl) ?_
                        refine x_icmp_ge hx hb d_Mo_sort_191 (tgt := 299) (by decide) (by omega) (by omega) (fun h191 => ?_) (fun h191 => ?_)
                        · have ea : a = (2 * wd * j) + wd := by omega
                          have eb : b = mm := by omega
                          have et : t = mm := by omega
                          rw [ea, eb, et] at hmg
                          obtain ⟨g1, g2⟩ := mg_end (by omega) (by omega) eE hfr hmg hb4 he4
                          refine lv_iload hx hb d_Mo_sort_299 (lv_at hl 5 rfl) ?_
                          refine lv_iconst (v := nI 2) hx hb d_Mo_sort_301 (by decide) ?_
                          refine lv_iload hx hb d_Mo_sort_302 (lv_at hl 6 rfl) ?_
                          refine x_imul hx hb d_Mo_sort_304 ?_
                          refine x_iadd hx hb d_Mo_sort_305 ?_
                          refine lv_istore hx hb d_Mo_sort_306 hl (by decide) rfl (fun ls hl => ?_)
                          have hl : lv_has ls 13 [(6, .int (nI ((2 * wd * j) + (2 * wd)))), (11, .int (nI t)), (10, .int (nI mm)), (9, .int (nI b)), (8, .int (nI ((2 * wd * j) + wd))), (7, .int (nI a)), (5, .int (nI wd)), (4, .int (nI mm)), (0, .ref mo), (1, .int (nI k))] := hl
                          refine lv_goto hx hb d_Mo_sort_308 (tgt := 120) (by decide) ?_
                          have hl := lv_sub hl [0, 6, 7, 8, 9] rfl
                          have em : 2 * wd * (j + 1) = 2 * wd * j + 2 * wd := Nat.mul_succ _ _
                          rw [← em] at hl
                          exact ih4 (j + 1) (X5) _ _ _ (by omega) hl hP hD hS (by omega) (by rw [em, ← eE]; exact g1) (by rw [em, ← eE]; exact g2) (hbX5)
                        · refine lv_iload hx hb d_Mo_sort_194 (lv_at hl 4 rfl) ?_
                          refine lv_iload hx hb d_Mo_sort_196 (lv_at hl 3 rfl) ?_
                          refine x_icmp_ge hx hb d_Mo_sort_198 (tgt := 229) (by decide) (by omega) (by omega) (fun h198 => ?_) (fun h198 => ?_)
                          · refine lv_iconst (v := nI 0) hx hb d_Mo_sort_229 (by decide) ?_
                            refine lv_istore hx hb d_Mo_sort_230 hl (by decide) rfl (fun ls hl => ?_)
                            have hl : lv_has ls 13 [(12, .int (nI 0)), (11, .int (nI t)), (10, .int (nI mm)), (9, .int (nI b)), (8, .int (nI ((2 * wd * j) + wd))), (7, .int (nI a)), (6, .int (nI (2 * wd * j))), (5, .int (nI wd)), (4, .int (nI mm)), (0, .ref mo), (1, .int (nI k))] := hl
                            refine lv_aload_n hx hb d_Mo_sort_232 rfl (lv_at hl 9 rfl) ?_
                            refine y_get S hk hP 0 rfl f_Mo_23 rfl d_Mo_sort_233 ?_
                            refine lv_iload hx hb d_Mo_sort_236 (lv_at hl 1 rfl) ?_
                            refine lv_iload hx hb d_Mo_sort_238 (lv_at hl 0 rfl) ?_
                            refine lv_if_eq hx hb d_Mo_sort_240 (tgt := 253) (by decide) (fun _ => ?_) (fun h => absurd (by decide) h)
                            refine lv_aload_n hx hb d_Mo_sort_253 rfl (lv_at hl 9 rfl) ?_
                            refine y_get S hk hP 0 rfl f_Mo_20 rfl d_Mo_sort_254 ?_
                            refine lv_iload hx hb d_Mo_sort_257 (lv_at hl 3 rfl) ?_
                            refine y_ald hx hb hk hP 3 rfl (by omega) (by decide) d_Mo_sort_259 ?_
                            refine y_ast hx hb hk hP hD hS 4 rfl (by omega) (by decide) d_Mo_sort_260 (fun H locs hP hD hS => ?_)
                            have hP : va_P G.1 cls [(mo, .inr (4, [.int (nI L), .int (nI n), .ref mc_, .ref mv_, .int (nI x0), .int (nI y0), .int (nI x1), .int (nI y1), .ref mk_, .ref mx_])), (mc_, .inl (G.2.1, 500, .inl (fun zz => nI (C zz)))), (mv_, .inl (G.2.1, 500, .inl (fun zz => nI (V zz)))), (mk_, .inl (G.2.1, 4096, .inl (fun zz => nI (K3 zz)))), (mx_, .inl (G.2.1, 4096, .inl (fun zz => nI ((va_up X5 t (K3 b)) zz))))] H := hP
                            have hD : va_D A [(mo, .inr (4, [.int (nI L), .int (nI n), .ref mc_, .ref mv_, .int (nI x0), .int (nI y0), .int (nI x1), .int (nI y1), .ref mk_, .ref mx_])), (mc_, .inl (G.2.1, 500, .inl (fun zz => nI (C zz)))), (mv_, .inl (G.2.1, 500, .inl (fun zz => nI (V zz)))), (mk_, .inl (G.2.1, 4096, .inl (fun zz => nI (K3 zz)))), (mx_, .inl (G.2.1, 4096, .inl (fun zz => nI ((va_up X5 t (K3 b)) zz))))] := hD
                            refine lv_iload hx hb d_Mo_sort_261 (lv_at hl 0 rfl) ?_
                            refine lv_if_eq hx hb d_Mo_sort_263 (tgt := 273) (by decide) (fun _ => ?_) (fun h => absurd (by decide) h)
                            refine lv_iload hx hb d_Mo_sort_273 (lv_at hl 5 rfl) ?_
                            refine lv_istore hx hb d_Mo_sort_275 hl (by decide) rfl (fun ls hl => ?_)
                            have hl : lv_has ls 13 [(7, .int (nI a)), (12, .int (nI 0)), (11, .int (nI t)), (10, .int (nI mm)), (9, .int (nI b)), (8, .int (nI ((2 * wd * j) + wd))), (6, .int (nI (2 * wd * j))), (5, .int (nI wd)), (4, .int (nI mm)), (0, .ref mo), (1, .int (nI k))] := hl
                            refine lv_iload hx hb d_Mo_sort_277 (lv_at hl 1 rfl) ?_
                            refine lv_if_eq hx hb d_Mo_sort_279 (tgt := 287) (by decide) (fun _ => ?_) (fun h => absurd (by decide) h)
                            refine lv_iload hx hb d_Mo_sort_287 (lv_at hl 4 rfl) ?_
                            refine lv_iconst (v := nI 1) hx hb d_Mo_sort_289 (by decide) ?_
                            refine x_iadd hx hb d_Mo_sort_290 ?_
                            refine lv_istore hx hb d_Mo_sort_291 hl (by decide) rfl (fun ls hl => ?_)
                            have hl : lv_has ls 13 [(9, .int (nI (b + 1))), (7, .int (nI a)), (12, .int (nI 0)), (11, .int (nI t)), (10, .int (nI mm)), (8, .int (nI ((2 * wd * j) + wd))), (6, .int (nI (2 * wd * j))), (5, .int (nI wd)), (4, .int (nI mm)), (0, .ref mo), (1, .int (nI k))] := hl
                            refine lv_iinc (v := nI (t + 1)) hx hb d_Mo_sort_293 hl (k := 3) rfl (ii_p _ 1) (by decide) rfl (fun ls hl => ?_)
                            have hl : lv_has ls 13 [(11, .int (nI (t + 1))), (9, .int (nI (b + 1))), (7, .int (nI a)), (12, .int (nI 0)), (10, .int (nI mm)), (8, .int (nI ((2 * wd * j) + wd))), (6, .int (nI (2 * wd * j))), (5, .int (nI wd)), (4, .int (nI mm)), (0, .ref mo), (1, .int (nI k))] := hl
                            refine lv_goto hx hb d_Mo_sort_296 (tgt := 187) (by decide) ?_
                            have hl := lv_sub hl [0, 4, 1, 5, 2, 6, 7, 8, 9, 10] rfl
                            exact ih5 (a) (b + 1) (t + 1) _ _ _ _ (by omega) hl hP hD hS (mg_b hmg hs1 hs2 (by omega) (Or.inl (by omega))) (fun i hi => by rw [up_ne (by omega)]; exact hfr i hi) (bd_up hbX5 (hbK3 _))
                          · refine lv_iload hx hb d_Mo_sort_201 (lv_at hl 2 rfl) ?_
                            refine lv_iload hx hb d_Mo_sort_203 (lv_at hl 1 rfl) ?_
                            refine x_icmp_eq hx hb d_Mo_sort_205 (tgt := 225) (by decide) (by omega) (by omega) (fun h205 => ?_) (fun h205 => ?_)
                            · refine lv_iconst (v := nI 1) hx hb d_Mo_sort_225 (by decide) ?_
                              refine lv_goto hx hb d_Mo_sort_226 (tgt := 230) (by decide) ?_
                              refine lv_istore hx hb d_Mo_sort_230 hl (by decide) rfl (fun ls hl => ?_)
                              have hl : lv_has ls 13 [(12, .int (nI 1)), (11, .int (nI t)), (10, .int (nI mm)), (9, .int (nI b)), (8, .int (nI ((2 * wd * j) + wd))), (7, .int (nI a)), (6, .int (nI (2 * wd * j))), (5, .int (nI wd)), (4, .int (nI mm)), (0, .ref mo), (1, .int (nI k))] := hl
                              refine lv_aload_n hx hb d_Mo_sort_232 rfl (lv_at hl 9 rfl) ?_
                              refine y_get S hk hP 0 rfl f_Mo_23 rfl d_Mo_sort_233 ?_
                              refine lv_iload hx hb d_Mo_sort_236 (lv_at hl 1 rfl) ?_
                              refine lv_iload hx hb d_Mo_sort_238 (lv_at hl 0 rfl) ?_
                              refine lv_if_eq hx hb d_Mo_sort_240 (tgt := 253) (by decide) (fun h => absurd h (by decide)) (fun _ => ?_)
                              refine lv_aload_n hx hb d_Mo_sort_243 rfl (lv_at hl 9 rfl) ?_
                              refine y_get S hk hP 0 rfl f_Mo_20 rfl d_Mo_sort_244 ?_
                              refine lv_iload hx hb d_Mo_sort_247 (lv_at hl 5 rfl) ?_
                              refine y_ald hx hb hk hP 3 rfl (by omega) (by decide) d_Mo_sort_249 ?_
                              refine lv_goto hx hb d_Mo_sort_250 (tgt := 260) (by decide) ?_
                              refine y_ast hx hb hk hP hD hS 4 rfl (by omega) (by decide) d_Mo_sort_260 (fun H locs hP hD hS => ?_)
                              have hP : va_P G.1 cls [(mo, .inr (4, [.int (nI L), .int (nI n), .ref mc_, .ref mv_, .int (nI x0), .int (nI y0), .int (nI x1), .int (nI y1), .ref mk_, .ref mx_])), (mc_, .inl (G.2.1, 500, .inl (fun zz => nI (C zz)))), (mv_, .inl (G.2.1, 500, .inl (fun zz => nI (V zz)))), (mk_, .inl (G.2.1, 4096, .inl (fun zz => nI (K3 zz)))), (mx_, .inl (G.2.1, 4096, .inl (fun zz => nI ((va_up X5 t (K3 a)) zz))))] H := hP
                              have hD : va_D A [(mo, .inr (4, [.int (nI L), .int (nI n), .ref mc_, .ref mv_, .int (nI x0), .int (nI y0), .int (nI x1), .int (nI y1), .ref mk_, .ref mx_])), (mc_, .inl (G.2.1, 500, .inl (fun zz => nI (C zz)))), (mv_, .inl (G.2.1, 500, .inl (fun zz => nI (V zz)))), (mk_, .inl (G.2.1, 4096, .inl (fun zz => nI (K3 zz)))), (mx_, .inl (G.2.1, 4096, .inl (fun zz => nI ((va_up X5 t (K3 a)) zz))))] := hD
                              refine lv_iload hx hb d_Mo_sort_261 (lv_at hl 0 rfl) ?_
                              refine lv_if_eq hx hb d_Mo_sort_263 (tgt := 273) (by decide) (fun h => absurd h (by decide)) (fun _ => ?_)
                              refine lv_iload hx hb d_Mo_sort_266 (lv_at hl 5 rfl) ?_
                              refine lv_iconst (v := nI 1) hx hb d_Mo_sort_268 (by decide) ?_
                              refine x_iadd hx hb d_Mo_sort_269 ?_
                              refine lv_goto hx hb d_Mo_sort_270 (tgt := 275) (by decide) ?_
                              refine lv_istore hx hb d_Mo_sort_275 hl (by decide) rfl (fun ls hl => ?_)
                              have hl : lv_has ls 13 [(7, .int (nI (a + 1))), (12, .int (nI 1)), (11, .int (nI t)), (10, .int (nI mm)), (9, .int (nI b)), (8, .int (nI ((2 * wd * j) + wd))), (6, .int (nI (2 * wd * j))), (5, .int (nI wd)), (4, .int (nI mm)), (0, .ref mo), (1, .int (nI k))] := hl
                              refine lv_iload hx hb d_Mo_sort_277 (lv_at hl 1 rfl) ?_
                              refine lv_if_eq hx hb d_Mo_sort_279 (tgt := 287) (by decide) (fun h => absurd h (by decide)) (fun _ => ?_)
                              refine lv_iload hx hb d_Mo_sort_282 (lv_at hl 4 rfl) ?_
                              refine lv_goto hx hb d_Mo_sort_284 (tgt := 291) (by decide) ?_
                              refine lv_istore hx hb d_Mo_sort_291 hl (by decide) rfl (fun ls hl => ?_)
                              have hl : lv_has ls 13 [(9, .int (nI b)), (7, .int (nI (a + 1))), (12, .int (nI 1)), (11, .int (nI t)), (10, .int (nI mm)), (8, .int (nI ((2 * wd * j) + wd))), (6, .int (nI (2 * wd * j))), (5, .int (nI wd)), (4, .int (nI mm)), (0, .ref mo), (1, .int (nI k))] := hl
                              refine lv_iinc (v := nI (t + 1)) hx hb d_Mo_sort_293 hl (k := 3) rfl (ii_p _ 1) (by decide) rfl (fun ls hl => ?_)
                              have hl : lv_has ls 13 [(11, .int (nI (t + 1))), (9, .int (nI b)), (7, .int (nI (a + 1))), (12, .int (nI 1)), (10, .int (nI mm)), (8, .int (nI ((2 * wd * j) + wd))), (6, .int (nI (2 * wd * j))), (5, .int (nI wd)), (4, .int (nI mm)), (0, .ref mo), (1, .int (nI k))] := hl
                              refine lv_goto hx hb d_Mo_sort_296 (tgt := 187) (by decide) ?_
                              have hl := lv_sub hl [0, 4, 1, 5, 2, 6, 7, 8, 9, 10] rfl
                              exact ih5 (a + 1) (b) (t + 1) _ _ _ _ (by omega) hl hP hD hS (mg_a hmg hs1 hs2 (by omega) (Or.inl h205)) (fun i hi => by rw [up_ne (by omega)]; exact hfr i hi) (bd_up hbX5 (hbK3 _))
                            · refine lv_aload_n hx hb d_Mo_sort_208 rfl (lv_at hl 8 rfl) ?_
                              refine y_get S hk hP 0 rfl f_Mo_20 rfl d_Mo_sort_209 ?_
                              refine lv_iload hx hb d_Mo_sort_212 (lv_at hl 4 rfl) ?_
                              refine y_ald hx hb hk hP 3 rfl (by omega) (by decide) d_Mo_sort_214 ?_
                              refine lv_aload_n hx hb d_Mo_sort_215 rfl (lv_at hl 8 rfl) ?_
                              refine y_get S hk hP 0 rfl f_Mo_20 rfl d_Mo_sort_216 ?_
                              refine lv_iload hx hb d_Mo_sort_219 (lv_at hl 2 rfl) ?_
                              refine y_ald hx hb hk hP 3 rfl (by omega) (by decide) d_Mo_sort_221 ?_
                              refine x_icmp_ge hx hb d_Mo_sort_222 (tgt := 229) (by decide) (hbK3 _) (hbK3 _) (fun h222 => ?_) (fun h222 => ?_)
                              · refine lv_iconst (v := nI 0) hx hb d_Mo_sort_229 (by decide) ?_
                                refine lv_istore hx hb d_Mo_sort_230 hl (by decide) rfl (fun ls hl => ?_)
                                have hl : lv_has ls 13 [(12, .int (nI 0)), (11, .int (nI t)), (10, .int (nI mm)), (9, .int (nI b)), (8, .int (nI ((2 * wd * j) + wd))), (7, .int (nI a)), (6, .int (nI (2 * wd * j))), (5, .int (nI wd)), (4, .int (nI mm)), (0, .ref mo), (1, .int (nI k))] := hl
                                refine lv_aload_n hx hb d_Mo_sort_232 rfl (lv_at hl 9 rfl) ?_
                                refine y_get S hk hP 0 rfl f_Mo_23 rfl d_Mo_sort_233 ?_
                                refine lv_iload hx hb d_Mo_sort_236 (lv_at hl 1 rfl) ?_
                                refine lv_iload hx hb d_Mo_sort_238 (lv_at hl 0 rfl) ?_
                                refine lv_if_eq hx hb d_Mo_sort_240 (tgt := 253) (by decide) (fun _ => ?_) (fun h => absurd (by decide) h)
                                refine lv_aload_n hx hb d_Mo_sort_253 rfl (lv_at hl 9 rfl) ?_
                                refine y_get S hk hP 0 rfl f_Mo_20 rfl d_Mo_sort_254 ?_
                                refine lv_iload hx hb d_Mo_sort_257 (lv_at hl 3 rfl) ?_
                                refine y_ald hx hb hk hP 3 rfl (by omega) (by decide) d_Mo_sort_259 ?_
                                refine y_ast hx hb hk hP hD hS 4 rfl (by omega) (by decide) d_Mo_sort_260 (fun H locs hP hD hS => ?_)
                                have hP : va_P G.1 cls [(mo, .inr (4, [.int (nI L), .int (nI n), .ref mc_, .ref mv_, .int (nI x0), .int (nI y0), .int (nI x1), .int (nI y1), .ref mk_, .ref mx_])), (mc_, .inl (G.2.1, 500, .inl (fun zz => nI (C zz)))), (mv_, .inl (G.2.1, 500, .inl (fun zz => nI (V zz)))), (mk_, .inl (G.2.1, 4096, .inl (fun zz => nI (K3 zz)))), (mx_, .inl (G.2.1, 4096, .inl (fun zz => nI ((va_up X5 t (K3 b)) zz))))] H := hP
                                have hD : va_D A [(mo, .inr (4, [.int (nI L), .int (nI n), .ref mc_, .ref mv_, .int (nI x0), .int (nI y0), .int (nI x1), .int (nI y1), .ref mk_, .ref mx_])), (mc_, .inl (G.2.1, 500, .inl (fun zz => nI (C zz)))), (mv_, .inl (G.2.1, 500, .inl (fun zz => nI (V zz)))), (mk_, .inl (G.2.1, 4096, .inl (fun zz => nI (K3 zz)))), (mx_, .inl (G.2.1, 4096, .inl (fun zz => nI ((va_up X5 t (K3 b)) zz))))] := hD
                                refine lv_iload hx hb d_Mo_sort_261 (lv_at hl 0 rfl) ?_
                                refine lv_if_eq hx hb d_Mo_sort_263 (tgt := 273) (by decide) (fun _ => ?_) (fun h => absurd (by decide) h)
                                refine lv_iload hx hb d_Mo_sort_273 (lv_at hl 5 rfl) ?_
                                refine lv_istore hx hb d_Mo_sort_275 hl (by decide) rfl (fun ls hl => ?_)
                                have hl : lv_has ls 13 [(7, .int (nI a)), (12, .int (nI 0)), (11, .int (nI t)), (10, .int (nI mm)), (9, .int (nI b)), (8, .int (nI ((2 * wd * j) + wd))), (6, .int (nI (2 * wd * j))), (5, .int (nI wd)), (4, .int (nI mm)), (0, .ref mo), (1, .int (nI k))] := hl
                                refine lv_iload hx hb d_Mo_sort_277 (lv_at hl 1 rfl) ?_
                                refine lv_if_eq hx hb d_Mo_sort_279 (tgt := 287) (by decide) (fun _ => ?_) (fun h => absurd (by decide) h)
                                refine lv_iload hx hb d_Mo_sort_287 (lv_at hl 4 rfl) ?_
                                refine lv_iconst (v := nI 1) hx hb d_Mo_sort_289 (by decide) ?_
                                refine x_iadd hx hb d_Mo_sort_290 ?_
                                refine lv_istore hx hb d_Mo_sort_291 hl (by decide) rfl (fun ls hl => ?_)
                                have hl : lv_has ls 13 [(9, .int (nI (b + 1))), (7, .int (nI a)), (12, .int (nI 0)), (11, .int (nI t)), (10, .int (nI mm)), (8, .int (nI ((2 * wd * j) + wd))), (6, .int (nI (2 * wd * j))), (5, .int (nI wd)), (4, .int (nI mm)), (0, .ref mo), (1, .int (nI k))] := hl
                                refine lv_iinc (v := nI (t + 1)) hx hb d_Mo_sort_293 hl (k := 3) rfl (ii_p _ 1) (by decide) rfl (fun ls hl => ?_)
                                have hl : lv_has ls 13 [(11, .int (nI (t + 1))), (9, .int (nI (b + 1))), (7, .int (nI a)), (12, .int (nI 0)), (10, .int (nI mm)), (8, .int (nI ((2 * wd * j) + wd))), (6, .int (nI (2 * wd * j))), (5, .int (nI wd)), (4, .int (nI mm)), (0, .ref mo), (1, .int (nI k))] := hl
                                refine lv_goto hx hb d_Mo_sort_296 (tgt := 187) (by decide) ?_
                                have hl := lv_sub hl [0, 4, 1, 5, 2, 6, 7, 8, 9, 10] rfl
                                exact ih5 (a) (b + 1) (t + 1) _ _ _ _ (by omega) hl hP hD hS (mg_b hmg hs1 hs2 (by omega) (Or.inr h222)) (fun i hi => by rw [up_ne (by omega)]; exact hfr i hi) (bd_up hbX5 (hbK3 _))
                              · refine lv_iconst (v := nI 1) hx hb d_Mo_sort_225 (by decide) ?_
                                refine lv_goto hx hb d_Mo_sort_226 (tgt := 230) (by decide) ?_
                                refine lv_istore hx hb d_Mo_sort_230 hl (by decide) rfl (fun ls hl => ?_)
                                have hl : lv_has ls 13 [(12, .int (nI 1)), (11, .int (nI t)), (10, .int (nI mm)), (9, .int (nI b)), (8, .int (nI ((2 * wd * j) + wd))), (7, .int (nI a)), (6, .int (nI (2 * wd * j))), (5, .int (nI wd)), (4, .int (nI mm)), (0, .ref mo), (1, .int (nI k))] := hl
                                refine lv_aload_n hx hb d_Mo_sort_232 rfl (lv_at hl 9 rfl) ?_
                                refine y_get S hk hP 0 rfl f_Mo_23 rfl d_Mo_sort_233 ?_
                                refine lv_iload hx hb d_Mo_sort_236 (lv_at hl 1 rfl) ?_
                                refine lv_iload hx hb d_Mo_sort_238 (lv_at hl 0 rfl) ?_
                                refine lv_if_eq hx hb d_Mo_sort_240 (tgt := 253) (by decide) (fun h => absurd h (by decide)) (fun _ => ?_)
                                refine lv_aload_n hx hb d_Mo_sort_243 rfl (lv_at hl 9 rfl) ?_
                                refine y_get S hk hP 0 rfl f_Mo_20 rfl d_Mo_sort_244 ?_
                                refine lv_iload hx hb d_Mo_sort_247 (lv_at hl 5 rfl) ?_
                                refine y_ald hx hb hk hP 3 rfl (by omega) (by decide) d_Mo_sort_249 ?_
                                refine lv_goto hx hb d_Mo_sort_250 (tgt := 260) (by decide) ?_
                                refine y_ast hx hb hk hP hD hS 4 rfl (by omega) (by decide) d_Mo_sort_260 (fun H locs hP hD hS => ?_)
                                have hP : va_P G.1 cls [(mo, .inr (4, [.int (nI L), .int (nI n), .ref mc_, .ref mv_, .int (nI x0), .int (nI y0), .int (nI x1), .int (nI y1), .ref mk_, .ref mx_])), (mc_, .inl (G.2.1, 500, .inl (fun zz => nI (C zz)))), (mv_, .inl (G.2.1, 500, .inl (fun zz => nI (V zz)))), (mk_, .inl (G.2.1, 4096, .inl (fun zz => nI (K3 zz)))), (mx_, .inl (G.2.1, 4096, .inl (fun zz => nI ((va_up X5 t (K3 a)) zz))))] H := hP
                                have hD : va_D A [(mo, .inr (4, [.int (nI L), .int (nI n), .ref mc_, .ref mv_, .int (nI x0), .int (nI y0), .int (nI x1), .int (nI y1), .ref mk_, .ref mx_])), (mc_, .inl (G.2.1, 500, .inl (fun zz => nI (C zz)))), (mv_, .inl (G.2.1, 500, .inl (fun zz => nI (V zz)))), (mk_, .inl (G.2.1, 4096, .inl (fun zz => nI (K3 zz)))), (mx_, .inl (G.2.1, 4096, .inl (fun zz => nI ((va_up X5 t (K3 a)) zz))))] := hD
                                refine lv_iload hx hb d_Mo_sort_261 (lv_at hl 0 rfl) ?_
                                refine lv_if_eq hx hb d_Mo_sort_263 (tgt := 273) (by decide) (fun h => absurd h (by decide)) (fun _ => ?_)
                                refine lv_iload hx hb d_Mo_sort_266 (lv_at hl 5 rfl) ?_
                                refine lv_iconst (v := nI 1) hx hb d_Mo_sort_268 (by decide) ?_
                                refine x_iadd hx hb d_Mo_sort_269 ?_
                                refine lv_goto hx hb d_Mo_sort_270 (tgt := 275) (by decide) ?_
                                refine lv_istore hx hb d_Mo_sort_275 hl (by decide) rfl (fun ls hl => ?_)
                                have hl : lv_has ls 13 [(7, .int (nI (a + 1))), (12, .int (nI 1)), (11, .int (nI t)), (10, .int (nI mm)), (9, .int (nI b)), (8, .int (nI ((2 * wd * j) + wd))), (6, .int (nI (2 * wd * j))), (5, .int (nI wd)), (4, .int (nI mm)), (0, .ref mo), (1, .int (nI k))] := hl
                                refine lv_iload hx hb d_Mo_sort_277 (lv_at hl 1 rfl) ?_
                                refine lv_if_eq hx hb d_Mo_sort_279 (tgt := 287) (by decide) (fun h => absurd h (by decide)) (fun _ => ?_)
                                refine lv_iload hx hb d_Mo_sort_282 (lv_at hl 4 rfl) ?_
                                refine lv_goto hx hb d_Mo_sort_284 (tgt := 291) (by decide) ?_
                                refine lv_istore hx hb d_Mo_sort_291 hl (by decide) rfl (fun ls hl => ?_)
                                have hl : lv_has ls 13 [(9, .int (nI b)), (7, .int (nI (a + 1))), (12, .int (nI 1)), (11, .int (nI t)), (10, .int (nI mm)), (8, .int (nI ((2 * wd * j) + wd))), (6, .int (nI (2 * wd * j))), (5, .int (nI wd)), (4, .int (nI mm)), (0, .ref mo), (1, .int (nI k))] := hl
                                refine lv_iinc (v := nI (t + 1)) hx hb d_Mo_sort_293 hl (k := 3) rfl (ii_p _ 1) (by decide) rfl (fun ls hl => ?_)
                                have hl : lv_has ls 13 [(11, .int (nI (t + 1))), (9, .int (nI b)), (7, .int (nI (a + 1))), (12, .int (nI 1)), (10, .int (nI mm)), (8, .int (nI ((2 * wd * j) + wd))), (6, .int (nI (2 * wd * j))), (5, .int (nI wd)), (4, .int (nI mm)), (0, .ref mo), (1, .int (nI k))] := hl
                                refine lv_goto hx hb d_Mo_sort_296 (tgt := 187) (by decide) ?_
                                have hl := lv_sub hl [0, 4, 1, 5, 2, 6, 7, 8, 9, 10] rfl
                                exact ih5 (a + 1) (b) (t + 1) _ _ _ _ (by omega) hl hP hD hS (mg_a hmg hs1 hs2 (by omega) (Or.inr (Nat.le_of_lt h222))) (fun i hi => by rw [up_ne (by omega)]; exact hfr i hi) (bd_up hbX5 (hbK3 _))
                    · refine lv_iload hx hb d_Mo_sort_169 (lv_at hl 3 rfl) ?_
                      refine lv_iconst (v := nI 2) hx hb d_Mo_sort_171 (by decide) ?_
                      refine lv_iload hx hb d_Mo_sort_172 (lv_at hl 4 rfl) ?_
                      refine x_imul hx hb d_Mo_sort_174 ?_
                      refine x_iadd hx hb d_Mo_sort_175 ?_
                      refine lv_goto hx hb d_Mo_sort_176 (tgt := 181) (by decide) ?_
                      refine lv_istore hx hb d_Mo_sort_181 hl (by decide) rfl (fun ls hl => ?_)
                      have hl : lv_has ls 13 [(10, .int (nI ((2 * wd * j) + (2 * wd)))), (9, .int (nI ((2 * wd * j) + wd))), (8, .int (nI ((2 * wd * j) + wd))), (7, .int (nI (2 * wd * j))), (6, .int (nI (2 * wd * j))), (5, .int (nI wd)), (4, .int (nI mm)), (0, .ref mo), (1, .int (nI k))] := hl
                      refine lv_iload hx hb d_Mo_sort_183 (lv_at hl 4 rfl) ?_
                      refine lv_istore hx hb d_Mo_sort_185 hl (by decide) rfl (fun ls hl => ?_)
                      have hl : lv_has ls 13 [(11, .int (nI (2 * wd * j))), (10, .int (nI ((2 * wd * j) + (2 * wd)))), (9, .int (nI ((2 * wd * j) + wd))), (8, .int (nI ((2 * wd * j) + wd))), (7, .int (nI (2 * wd * j))), (6, .int (nI (2 * wd * j))), (5, .int (nI wd)), (4, .int (nI mm)), (0, .ref mo), (1, .int (nI k))] := hl
                      have hl := lv_sub hl [0, 1, 2, 3, 4, 5, 6, 7, 8, 9] rfl
                      have hs1 := bs_lo hbs (by omega) (j := j) (mid := (2 * wd * j) + wd) (by omega) (by omega)
                      have hs2 : ∀ p q, (2 * wd * j) + wd ≤ p → p < q → q < (2 * wd * j) + (2 * wd) → K3 p ≤ K3 q := bs_hi hbs (by omega) (j := j) (e := (2 * wd * j) + (2 * wd)) (by omega) (by omega)
                      have eE : (2 * wd * j) + (2 * wd) = min (2 * wd * j + 2 * wd) mm := by omega
                      refine (?_ : ∀ (d5 : Nat) (a : Nat) (b : Nat) (t : Nat) (X5 : Nat → Nat) (H : Heap) (locs : List Loc) (ls : Array Slot), ((2 * wd * j) + (2 * wd)) - t < d5 → lv_has ls 13 [(11, .int (nI t)), (10, .int (nI ((2 * wd * j) + (2 * wd)))), (9, .int (nI b)), (8, .int (nI ((2 * wd * j) + wd))), (7, .int (nI a)), (6, .int (nI (2 * wd * j))), (5, .int (nI wd)), (4, .int (nI mm)), (0, .ref mo), (1, .int (nI k))] → va_P G.1 cls [(mo, .inr (4, [.int (nI L), .int (nI n), .ref mc_, .ref mv_, .int (nI x0), .int (nI y0), .int (nI x1), .int (nI y1), .ref mk_, .ref mx_])), (mc_, .inl (G.2.1, 500, .inl (fun zz => nI (C zz)))), (mv_, .inl (G.2.1, 500, .inl (fun zz => nI (V zz)))), (mk_, .inl (G.2.1, 4096, .inl (fun zz => nI (K3 zz)))), (mx_, .inl (G.2.1, 4096, .inl (fun zz => nI (X5 zz))))] H → va_D A [(mo, .inr (4, [.int (nI L), .int (nI n), .ref mc_, .ref mv_, .int (nI x0), .int (nI y0), .int (nI x1), .int (nI y1), .ref mk_, .ref mx_])), (mc_, .inl (G.2.1, 500, .inl (fun zz => nI (C zz)))), (mv_, .inl (G.2.1, 500, .inl (fun zz => nI (V zz)))), (mk_, .inl (G.2.1, 4096, .inl (fun zz => nI (K3 zz)))), (mx_, .inl (G.2.1, 4096, .inl (fun zz => nI (X5 zz))))] → va_S A s.heap H locs → (mg K3 X5 (2 * wd * j) ((2 * wd * j) + wd) ((2 * wd * j) + (2 * wd)) a b t) → (∀ i, i < 2 * wd * j → X5 i = X4 i) → (bd X5) → W p la e _ s m _ below meth c H locs 0 0 Q (F0 m 187 ls [])) (((2 * wd * j) + (2 * wd)) - 2 * wd * j + 1) (2 * wd * j) ((2 * wd * j) + wd) (2 * wd * j) X4 _ _ ls (Nat.lt_succ_self _) hl hP hD hS (mg_0 (by omega) (by omega)) (fun i _ => rfl) (hbX4)
                      intro d5
                      induction d5 with
                      | zero => intro a b t X5 H locs ls hd; exact absurd hd (Nat.not_lt_zero _)
                      | succ d5 ih5 =>
                        intro a b t X5 H locs ls hd hl hP hD hS hmg hfr hbX5
                        obtain ⟨i1, i2, i3, i4, i5⟩ := hmg.1
                        refine lv_iload hx hb d_Mo_sort_187 (lv_at hl 0 rfl) ?_
                        refine lv_iload hx hb d_Mo_sort_189 (lv_at hl 1 rfl) ?_
                        refine x_icmp_ge hx hb d_Mo_sort_191 (tgt := 299) (by decide) (by omega) (by omega) (fun h191 => ?_) (fun h191 => ?_)
                        · have ea : a = (2 * wd * j) + wd := by omega
                          have eb : b = (2 * wd * j) + (2 * wd) := by omega
                          have et : t = (2 * wd * j) + (2 * wd) := by omega
                          rw [ea, eb, et] at hmg
                          obtain ⟨g1, g2⟩ := mg_end (by omega) (by omega) eE hfr hmg hb4 he4
                          refine lv_iload hx hb d_Mo_sort_299 (lv_at hl 5 rfl) ?_
                          refine lv_iconst (v := nI 2) hx hb d_Mo_sort_301 (by decide) ?_
                          refine lv_iload hx hb d_Mo_sort_302 (lv_at hl 6 rfl) ?_
                          refine x_imul hx hb d_Mo_sort_304 ?_
                          refine x_iadd hx hb d_Mo_sort_305 ?_
                          refine lv_istore hx hb d_Mo_sort_306 hl (by decide) rfl (fun ls hl => ?_)
                          have hl : lv_has ls 13 [(6, .int (nI ((2 * wd * j) + (2 * wd)))), (11, .int (nI t)), (10, .int (nI ((2 * wd * j) + (2 * wd)))), (9, .int (nI b)), (8, .int (nI ((2 * wd * j) + wd))), (7, .int (nI a)), (5, .int (nI wd)), (4, .int (nI mm)), (0, .ref mo), (1, .int (nI k))] := hl
                          refine lv_goto hx hb d_Mo_sort_308 (tgt := 120) (by decide) ?_
                          have hl := lv_sub hl [0, 6, 7, 8, 9] rfl
                          have em : 2 * wd * (j + 1) = 2 * wd * j + 2 * wd := Nat.mul_succ _ _
                          rw [← em] at hl
                          exact ih4 (j + 1) (X5) _ _ _ (by omega) hl hP hD hS (by omega) (by rw [em, ← eE]; exact g1) (by rw [em, ← eE]; exact g2) (hbX5)
                        · refine lv_iload hx hb d_Mo_sort_194 (lv_at hl 4 rfl) ?_
                          refine lv_iload hx hb d_Mo_sort_196 (lv_at hl 3 rfl) ?_
                          refine x_icmp_ge hx hb d_Mo_sort_198 (tgt := 229) (by decide) (by omega) (by omega) (fun h198 => ?_) (fun h198 => ?_)
                          · refine lv_iconst (v := nI 0) hx hb d_Mo_sort_229 (by decide) ?_
                            refine lv_istore hx hb d_Mo_sort_230 hl (by decide) rfl (fun ls hl => ?_)
                            have hl : lv_has ls 13 [(12, .int (nI 0)), (11, .int (nI t)), (10, .int (nI ((2 * wd * j) + (2 * wd)))), (9, .int (nI b)), (8, .int (nI ((2 * wd * j) + wd))), (7, .int (nI a)), (6, .int (nI (2 * wd * j))), (5, .int (nI wd)), (4, .int (nI mm)), (0, .ref mo), (1, .int (nI k))] := hl
                            refine lv_aload_n hx hb d_Mo_sort_232 rfl (lv_at hl 9 rfl) ?_
                            refine y_get S hk hP 0 rfl f_Mo_23 rfl d_Mo_sort_233 ?_
                            refine lv_iload hx hb d_Mo_sort_236 (lv_at hl 1 rfl) ?_
                            refine lv_iload hx hb d_Mo_sort_238 (lv_at hl 0 rfl) ?_
                            refine lv_if_eq hx hb d_Mo_sort_240 (tgt := 253) (by decide) (fun _ => ?_) (fun h => absurd (by decide) h)
                            refine lv_aload_n hx hb d_Mo_sort_253 rfl (lv_at hl 9 rfl) ?_
                            refine y_get S hk hP 0 rfl f_Mo_20 rfl d_Mo_sort_254 ?_
                            refine lv_iload hx hb d_Mo_sort_257 (lv_at hl 3 rfl) ?_
                            refine y_ald hx hb hk hP 3 rfl (by omega) (by decide) d_Mo_sort_259 ?_
                            refine y_ast hx hb hk hP hD hS 4 rfl (by omega) (by decide) d_Mo_sort_260 (fun H locs hP hD hS => ?_)
                            have hP : va_P G.1 cls [(mo, .inr (4, [.int (nI L), .int (nI n), .ref mc_, .ref mv_, .int (nI x0), .int (nI y0), .int (nI x1), .int (nI y1), .ref mk_, .ref mx_])), (mc_, .inl (G.2.1, 500, .inl (fun zz => nI (C zz)))), (mv_, .inl (G.2.1, 500, .inl (fun zz => nI (V zz)))), (mk_, .inl (G.2.1, 4096, .inl (fun zz => nI (K3 zz)))), (mx_, .inl (G.2.1, 4096, .inl (fun zz => nI ((va_up X5 t (K3 b)) zz))))] H := hP
                            have hD : va_D A [(mo, .inr (4, [.int (nI L), .int (nI n), .ref mc_, .ref mv_, .int (nI x0), .int (nI y0), .int (nI x1), .int (nI y1), .ref mk_, .ref mx_])), (mc_, .inl (G.2.1, 500, .inl (fun zz => nI (C zz)))), (mv_, .inl (G.2.1, 500, .inl (fun zz => nI (V zz)))), (mk_, .inl (G.2.1, 4096, .inl (fun zz => nI (K3 zz)))), (mx_, .inl (G.2.1, 4096, .inl (fun zz => nI ((va_up X5 t (K3 b)) zz))))] := hD
                            refine lv_iload hx hb d_Mo_sort_261 (lv_at hl 0 rfl) ?_
                            refine lv_if_eq hx hb d_Mo_sort_263 (tgt := 273) (by decide) (fun _ => ?_) (fun h => absurd (by decide) h)
                            refine lv_iload hx hb d_Mo_sort_273 (lv_at hl 5 rfl) ?_
                            refine lv_istore hx hb d_Mo_sort_275 hl (by decide) rfl (fun ls hl => ?_)
                            have hl : lv_has ls 13 [(7, .int (nI a)), (12, .int (nI 0)), (11, .int (nI t)), (10, .int (nI ((2 * wd * j) + (2 * wd)))), (9, .int (nI b)), (8, .int (nI ((2 * wd * j) + wd))), (6, .int (nI (2 * wd * j))), (5, .int (nI wd)), (4, .int (nI mm)), (0, .ref mo), (1, .int (nI k))] := hl
                            refine lv_iload hx hb d_Mo_sort_277 (lv_at hl 1 rfl) ?_
                            refine lv_if_eq hx hb d_Mo_sort_279 (tgt := 287) (by decide) (fun _ => ?_) (fun h => absurd (by decide) h)
                            refine lv_iload hx hb d_Mo_sort_287 (lv_at hl 4 rfl) ?_
                            refine lv_iconst (v := nI 1) hx hb d_Mo_sort_289 (by decide) ?_
                            refine x_iadd hx hb d_Mo_sort_290 ?_
                            refine lv_istore hx hb d_Mo_sort_291 hl (by decide) rfl (fun ls hl => ?_)
                            have hl : lv_has ls 13 [(9, .int (nI (b + 1))), (7, .int (nI a)), (12, .int (nI 0)), (11, .int (nI t)), (10, .int (nI ((2 * wd * j) + (2 * wd)))), (8, .int (nI ((2 * wd * j) + wd))), (6, .int (nI (2 * wd * j))), (5, .int (nI wd)), (4, .int (nI mm)), (0, .ref mo), (1, .int (nI k))] := hl
                            refine lv_iinc (v := nI (t + 1)) hx hb d_Mo_sort_293 hl (k := 3) rfl (ii_p _ 1) (by decide) rfl (fun ls hl => ?_)
                            have hl : lv_has ls 13 [(11, .int (nI (t + 1))), (9, .int (nI (b + 1))), (7, .int (nI a)), (12, .int (nI 0)), (10, .int (nI ((2 * wd * j) + (2 * wd)))), (8, .int (nI ((2 * wd * j) + wd))), (6, .int (nI (2 * wd * j))), (5, .int (nI wd)), (4, .int (nI mm)), (0, .ref mo), (1, .int (nI k))] := hl
                            refine lv_goto hx hb d_Mo_sort_296 (tgt := 187) (by decide) ?_
                            have hl := lv_sub hl [0, 4, 1, 5, 2, 6, 7, 8, 9, 10] rfl
                            exact ih5 (a) (b + 1) (t + 1) _ _ _ _ (by omega) hl hP hD hS (mg_b hmg hs1 hs2 (by omega) (Or.inl (by omega))) (fun i hi => by rw [up_ne (by omega)]; exact hfr i hi) (bd_up hbX5 (hbK3 _))
                          · refine lv_iload hx hb d_Mo_sort_201 (lv_at hl 2 rfl) ?_
                            refine lv_iload hx hb d_Mo_sort_203 (lv_at hl 1 rfl) ?_
                            refine x_icmp_eq hx hb d_Mo_sort_205 (tgt := 225) (by decide) (by omega) (by omega) (fun h205 => ?_) (fun h205 => ?_)
                            · refine lv_iconst (v := nI 1) hx hb d_Mo_sort_225 (by decide) ?_
                              refine lv_goto hx hb d_Mo_sort_226 (tgt := 230) (by decide) ?_
                              refine lv_istore hx hb d_Mo_sort_230 hl (by decide) rfl (fun ls hl => ?_)
                              have hl : lv_has ls 13 [(12, .int (nI 1)), (11, .int (nI t)), (10, .int (nI ((2 * wd * j) + (2 * wd)))), (9, .int (nI b)), (8, .int (nI ((2 * wd * j) + wd))), (7, .int (nI a)), (6, .int (nI (2 * wd * j))), (5, .int (nI wd)), (4, .int (nI mm)), (0, .ref mo), (1, .int (nI k))] := hl
                              refine lv_aload_n hx hb d_Mo_sort_232 rfl (lv_at hl 9 rfl) ?_
                              refine y_get S hk hP 0 rfl f_Mo_23 rfl d_Mo_sort_233 ?_
                              refine lv_iload hx hb d_Mo_sort_236 (lv_at hl 1 rfl) ?_
                              refine lv_iload hx hb d_Mo_sort_238 (lv_at hl 0 rfl) ?_
                              refine lv_if_eq hx hb d_Mo_sort_240 (tgt := 253) (by decide) (fun h => absurd h (by decide)) (fun _ => ?_)
                              refine lv_aload_n hx hb d_Mo_sort_243 rfl (lv_at hl 9 rfl) ?_
                              refine y_get S hk hP 0 rfl f_Mo_20 rfl d_Mo_sort_244 ?_
                              refine lv_iload hx hb d_Mo_sort_247 (lv_at hl 5 rfl) ?_
                              refine y_ald hx hb hk hP 3 rfl (by omega) (by decide) d_Mo_sort_249 ?_
                              refine lv_goto hx hb d_Mo_sort_250 (tgt := 260) (by decide) ?_
                              refine y_ast hx hb hk hP hD hS 4 rfl (by omega) (by decide) d_Mo_sort_260 (fun H locs hP hD hS => ?_)
                              have hP : va_P G.1 cls [(mo, .inr (4, [.int (nI L), .int (nI n), .ref mc_, .ref mv_, .int (nI x0), .int (nI y0), .int (nI x1), .int (nI y1), .ref mk_, .ref mx_])), (mc_, .inl (G.2.1, 500, .inl (fun zz => nI (C zz)))), (mv_, .inl (G.2.1, 500, .inl (fun zz => nI (V zz)))), (mk_, .inl (G.2.1, 4096, .inl (fun zz => nI (K3 zz)))), (mx_, .inl (G.2.1, 4096, .inl (fun zz => nI ((va_up X5 t (K3 a)) zz))))] H := hP
                              have hD : va_D A [(mo, .inr (4, [.int (nI L), .int (nI n), .ref mc_, .ref mv_, .int (nI x0), .int (nI y0), .int (nI x1), .int (nI y1), .ref mk_, .ref mx_])), (mc_, .inl (G.2.1, 500, .inl (fun zz => nI (C zz)))), (mv_, .inl (G.2.1, 500, .inl (fun zz => nI (V zz)))), (mk_, .inl (G.2.1, 4096, .inl (fun zz => nI (K3 zz)))), (mx_, .inl (G.2.1, 4096, .inl (fun zz => nI ((va_up X5 t (K3 a)) zz))))] := hD
                              refine lv_iload hx hb d_Mo_sort_261 (lv_at hl 0 rfl) ?_
                              refine lv_if_eq hx hb d_Mo_sort_263 (tgt := 273) (by decide) (fun h => absurd h (by decide)) (fun _ => ?_)
                              refine lv_iload hx hb d_Mo_sort_266 (lv_at hl 5 rfl) ?_
                              refine lv_iconst (v := nI 1) hx hb d_Mo_sort_268 (by decide) ?_
                              refine x_iadd hx hb d_Mo_sort_269 ?_
                              refine lv_goto hx hb d_Mo_sort_270 (tgt := 275) (by decide) ?_
                              refine lv_istore hx hb d_Mo_sort_275 hl (by decide) rfl (fun ls hl => ?_)
                              have hl : lv_has ls 13 [(7, .int (nI (a + 1))), (12, .int (nI 1)), (11, .int (nI t)), (10, .int (nI ((2 * wd * j) + (2 * wd)))), (9, .int (nI b)), (8, .int (nI ((2 * wd * j) + wd))), (6, .int (nI (2 * wd * j))), (5, .int (nI wd)), (4, .int (nI mm)), (0, .ref mo), (1, .int (nI k))] := hl
                              refine lv_iload hx hb d_Mo_sort_277 (lv_at hl 1 rfl) ?_
                              refine lv_if_eq hx hb d_Mo_sort_279 (tgt := 287) (by decide) (fun h => absurd h (by decide)) (fun _ => ?_)
                              refine lv_iload hx hb d_Mo_sort_282 (lv_at hl 4 rfl) ?_
                              refine lv_goto hx hb d_Mo_sort_284 (tgt := 291) (by decide) ?_
                              refine lv_istore hx hb d_Mo_sort_291 hl (by decide) rfl (fun ls hl => ?_)
                              have hl : lv_has ls 13 [(9, .int (nI b)), (7, .int (nI (a + 1))), (12, .int (nI 1)), (11, .int (nI t)), (10, .int (nI ((2 * wd * j) + (2 * wd)))), (8, .int (nI ((2 * wd * j) + wd))), (6, .int (nI (2 * wd * j))), (5, .int (nI wd)), (4, .int (nI mm)), (0, .ref mo), (1, .int (nI k))] := hl
                              refine lv_iinc (v := nI (t + 1)) hx hb d_Mo_sort_293 hl (k := 3) rfl (ii_p _ 1) (by decide) rfl (fun ls hl => ?_)
                              have hl : lv_has ls 13 [(11, .int (nI (t + 1))), (9, .int (nI b)), (7, .int (nI (a + 1))), (12, .int (nI 1)), (10, .int (nI ((2 * wd * j) + (2 * wd)))), (8, .int (nI ((2 * wd * j) + wd))), (6, .int (nI (2 * wd * j))), (5, .int (nI wd)), (4, .int (nI mm)), (0, .ref mo), (1, .int (nI k))] := hl
                              refine lv_goto hx hb d_Mo_sort_296 (tgt := 187) (by decide) ?_
                              have hl := lv_sub hl [0, 4, 1, 5, 2, 6, 7, 8, 9, 10] rfl
                              exact ih5 (a + 1) (b) (t + 1) _ _ _ _ (by omega) hl hP hD hS (mg_a hmg hs1 hs2 (by omega) (Or.inl h205)) (fun i hi => by rw [up_ne (by omega)]; exact hfr i hi) (bd_up hbX5 (hbK3 _))
                            · refine lv_aload_n hx hb d_Mo_sort_208 rfl (lv_at hl 8 rfl) ?_
                              refine y_get S hk hP 0 rfl f_Mo_20 rfl d_Mo_sort_209 ?_
                              refine lv_iload hx hb d_Mo_sort_212 (lv_at hl 4 rfl) ?_
                              refine y_ald hx hb hk hP 3 rfl (by omega) (by decide) d_Mo_sort_214 ?_
                              refine lv_aload_n hx hb d_Mo_sort_215 rfl (lv_at hl 8 rfl) ?_
                              refine y_get S hk hP 0 rfl f_Mo_20 rfl d_Mo_sort_216 ?_
                              refine lv_iload hx hb d_Mo_sort_219 (lv_at hl 2 rfl) ?_
                              refine y_ald hx hb hk hP 3 rfl (by omega) (by decide) d_Mo_sort_221 ?_
                              refine x_icmp_ge hx hb d_Mo_sort_222 (tgt := 229) (by decide) (hbK3 _) (hbK3 _) (fun h222 => ?_) (fun h222 => ?_)
                              · refine lv_iconst (v := nI 0) hx hb d_Mo_sort_229 (by decide) ?_
                                refine lv_istore hx hb d_Mo_sort_230 hl (by decide) rfl (fun ls hl => ?_)
                                have hl : lv_has ls 13 [(12, .int (nI 0)), (11, .int (nI t)), (10, .int (nI ((2 * wd * j) + (2 * wd)))), (9, .int (nI b)), (8, .int (nI ((2 * wd * j) + wd))), (7, .int (nI a)), (6, .int (nI (2 * wd * j))), (5, .int (nI wd)), (4, .int (nI mm)), (0, .ref mo), (1, .int (nI k))] := hl
                                refine lv_aload_n hx hb d_Mo_sort_232 rfl (lv_at hl 9 rfl) ?_
                                refine y_get S hk hP 0 rfl f_Mo_23 rfl d_Mo_sort_233 ?_
                                refine lv_iload hx hb d_Mo_sort_236 (lv_at hl 1 rfl) ?_
                                refine lv_iload hx hb d_Mo_sort_238 (lv_at hl 0 rfl) ?_
                                refine lv_if_eq hx hb d_Mo_sort_240 (tgt := 253) (by decide) (fun _ => ?_) (fun h => absurd (by decide) h)
                                refine lv_aload_n hx hb d_Mo_sort_253 rfl (lv_at hl 9 rfl) ?_
                                refine y_get S hk hP 0 rfl f_Mo_20 rfl d_Mo_sort_254 ?_
                                refine lv_iload hx hb d_Mo_sort_257 (lv_at hl 3 rfl) ?_
                                refine y_ald hx hb hk hP 3 rfl (by omega) (by decide) d_Mo_sort_259 ?_
                                refine y_ast hx hb hk hP hD hS 4 rfl (by omega) (by decide) d_Mo_sort_260 (fun H locs hP hD hS => ?_)
                                have hP : va_P G.1 cls [(mo, .inr (4, [.int (nI L), .int (nI n), .ref mc_, .ref mv_, .int (nI x0), .int (nI y0), .int (nI x1), .int (nI y1), .ref mk_, .ref mx_])), (mc_, .inl (G.2.1, 500, .inl (fun zz => nI (C zz)))), (mv_, .inl (G.2.1, 500, .inl (fun zz => nI (V zz)))), (mk_, .inl (G.2.1, 4096, .inl (fun zz => nI (K3 zz)))), (mx_, .inl (G.2.1, 4096, .inl (fun zz => nI ((va_up X5 t (K3 b)) zz))))] H := hP
                                have hD : va_D A [(mo, .inr (4, [.int (nI L), .int (nI n), .ref mc_, .ref mv_, .int (nI x0), .int (nI y0), .int (nI x1), .int (nI y1), .ref mk_, .ref mx_])), (mc_, .inl (G.2.1, 500, .inl (fun zz => nI (C zz)))), (mv_, .inl (G.2.1, 500, .inl (fun zz => nI (V zz)))), (mk_, .inl (G.2.1, 4096, .inl (fun zz => nI (K3 zz)))), (mx_, .inl (G.2.1, 4096, .inl (fun zz => nI ((va_up X5 t (K3 b)) zz))))] := hD
                                refine lv_iload hx hb d_Mo_sort_261 (lv_at hl 0 rfl) ?_
                                refine lv_if_eq hx hb d_Mo_sort_263 (tgt := 273) (by decide) (fun _ => ?_) (fun h => absurd (by decide) h)
                                refine lv_iload hx hb d_Mo_sort_273 (lv_at hl 5 rfl) ?_
                                refine lv_istore hx hb d_Mo_sort_275 hl (by decide) rfl (fun ls hl => ?_)
                                have hl : lv_has ls 13 [(7, .int (nI a)), (12, .int (nI 0)), (11, .int (nI t)), (10, .int (nI ((2 * wd * j) + (2 * wd)))), (9, .int (nI b)), (8, .int (nI ((2 * wd * j) + wd))), (6, .int (nI (2 * wd * j))), (5, .int (nI wd)), (4, .int (nI mm)), (0, .ref mo), (1, .int (nI k))] := hl
                                refine lv_iload hx hb d_Mo_sort_277 (lv_at hl 1 rfl) ?_
                                refine lv_if_eq hx hb d_Mo_sort_279 (tgt := 287) (by decide) (fun _ => ?_) (fun h => absurd (by decide) h)
                                refine lv_iload hx hb d_Mo_sort_287 (lv_at hl 4 rfl) ?_
                                refine lv_iconst (v := nI 1) hx hb d_Mo_sort_289 (by decide) ?_
                                refine x_iadd hx hb d_Mo_sort_290 ?_
                                refine lv_istore hx hb d_Mo_sort_291 hl (by decide) rfl (fun ls hl => ?_)
                                have hl : lv_has ls 13 [(9, .int (nI (b + 1))), (7, .int (nI a)), (12, .int (nI 0)), (11, .int (nI t)), (10, .int (nI ((2 * wd * j) + (2 * wd)))), (8, .int (nI ((2 * wd * j) + wd))), (6, .int (nI (2 * wd * j))), (5, .int (nI wd)), (4, .int (nI mm)), (0, .ref mo), (1, .int (nI k))] := hl
                                refine lv_iinc (v := nI (t + 1)) hx hb d_Mo_sort_293 hl (k := 3) rfl (ii_p _ 1) (by decide) rfl (fun ls hl => ?_)
                                have hl : lv_has ls 13 [(11, .int (nI (t + 1))), (9, .int (nI (b + 1))), (7, .int (nI a)), (12, .int (nI 0)), (10, .int (nI ((2 * wd * j) + (2 * wd)))), (8, .int (nI ((2 * wd * j) + wd))), (6, .int (nI (2 * wd * j))), (5, .int (nI wd)), (4, .int (nI mm)), (0, .ref mo), (1, .int (nI k))] := hl
                                refine lv_goto hx hb d_Mo_sort_296 (tgt := 187) (by decide) ?_
                                have hl := lv_sub hl [0, 4, 1, 5, 2, 6, 7, 8, 9, 10] rfl
                                exact ih5 (a) (b + 1) (t + 1) _ _ _ _ (by omega) hl hP hD hS (mg_b hmg hs1 hs2 (by omega) (Or.inr h222)) (fun i hi => by rw [up_ne (by omega)]; exact hfr i hi) (bd_up hbX5 (hbK3 _))
                              · refine lv_iconst (v := nI 1) hx hb d_Mo_sort_225 (by decide) ?_
                                refine lv_goto hx hb d_Mo_sort_226 (tgt := 230) (by decide) ?_
                                refine lv_istore hx hb d_Mo_sort_230 hl (by decide) rfl (fun ls hl => ?_)
                                have hl : lv_has ls 13 [(12, .int (nI 1)), (11, .int (nI t)), (10, .int (nI ((2 * wd * j) + (2 * wd)))), (9, .int (nI b)), (8, .int (nI ((2 * wd * j) + wd))), (7, .int (nI a)), (6, .int (nI (2 * wd * j))), (5, .int (nI wd)), (4, .int (nI mm)), (0, .ref mo), (1, .int (nI k))] := hl
                                refine lv_aload_n hx hb d_Mo_sort_232 rfl (lv_at hl 9 rfl) ?_
                                refine y_get S hk hP 0 rfl f_Mo_23 rfl d_Mo_sort_233 ?_
                                refine lv_iload hx hb d_Mo_sort_236 (lv_at hl 1 rfl) ?_
                                refine lv_iload hx hb d_Mo_sort_238 (lv_at hl 0 rfl) ?_
                                refine lv_if_eq hx hb d_Mo_sort_240 (tgt := 253) (by decide) (fun h => absurd h (by decide)) (fun _ => ?_)
                                refine lv_aload_n hx hb d_Mo_sort_243 rfl (lv_at hl 9 rfl) ?_
                                refine y_get S hk hP 0 rfl f_Mo_20 rfl d_Mo_sort_244 ?_
                                refine lv_iload hx hb d_Mo_sort_247 (lv_at hl 5 rfl) ?_
                                refine y_ald hx hb hk hP 3 rfl (by omega) (by decide) d_Mo_sort_249 ?_
                                refine lv_goto hx hb d_Mo_sort_250 (tgt := 260) (by decide) ?_
                                refine y_ast hx hb hk hP hD hS 4 rfl (by omega) (by decide) d_Mo_sort_260 (fun H locs hP hD hS => ?_)
                                have hP : va_P G.1 cls [(mo, .inr (4, [.int (nI L), .int (nI n), .ref mc_, .ref mv_, .int (nI x0), .int (nI y0), .int (nI x1), .int (nI y1), .ref mk_, .ref mx_])), (mc_, .inl (G.2.1, 500, .inl (fun zz => nI (C zz)))), (mv_, .inl (G.2.1, 500, .inl (fun zz => nI (V zz)))), (mk_, .inl (G.2.1, 4096, .inl (fun zz => nI (K3 zz)))), (mx_, .inl (G.2.1, 4096, .inl (fun zz => nI ((va_up X5 t (K3 a)) zz))))] H := hP
                                have hD : va_D A [(mo, .inr (4, [.int (nI L), .int (nI n), .ref mc_, .ref mv_, .int (nI x0), .int (nI y0), .int (nI x1), .int (nI y1), .ref mk_, .ref mx_])), (mc_, .inl (G.2.1, 500, .inl (fun zz => nI (C zz)))), (mv_, .inl (G.2.1, 500, .inl (fun zz => nI (V zz)))), (mk_, .inl (G.2.1, 4096, .inl (fun zz => nI (K3 zz)))), (mx_, .inl (G.2.1, 4096, .inl (fun zz => nI ((va_up X5 t (K3 a)) zz))))] := hD
                                refine lv_iload hx hb d_Mo_sort_261 (lv_at hl 0 rfl) ?_
                                refine lv_if_eq hx hb d_Mo_sort_263 (tgt := 273) (by decide) (fun h => absurd h (by decide)) (fun _ => ?_)
                                refine lv_iload hx hb d_Mo_sort_266 (lv_at hl 5 rfl) ?_
                                refine lv_iconst (v := nI 1) hx hb d_Mo_sort_268 (by decide) ?_
                                refine x_iadd hx hb d_Mo_sort_269 ?_
                                refine lv_goto hx hb d_Mo_sort_270 (tgt := 275) (by decide) ?_
                                refine lv_istore hx hb d_Mo_sort_275 hl (by decide) rfl (fun ls hl => ?_)
                                have hl : lv_has ls 13 [(7, .int (nI (a + 1))), (12, .int (nI 1)), (11, .int (nI t)), (10, .int (nI ((2 * wd * j) + (2 * wd)))), (9, .int (nI b)), (8, .int (nI ((2 * wd * j) + wd))), (6, .int (nI (2 * wd * j))), (5, .int (nI wd)), (4, .int (nI mm)), (0, .ref mo), (1, .int (nI k))] := hl
                                refine lv_iload hx hb d_Mo_sort_277 (lv_at hl 1 rfl) ?_
                                refine lv_if_eq hx hb d_Mo_sort_279 (tgt := 287) (by decide) (fun h => absurd h (by decide)) (fun _ => ?_)
                                refine lv_iload hx hb d_Mo_sort_282 (lv_at hl 4 rfl) ?_
                                refine lv_goto hx hb d_Mo_sort_284 (tgt := 291) (by decide) ?_
                                refine lv_istore hx hb d_Mo_sort_291 hl (by decide) rfl (fun ls hl => ?_)
                                have hl : lv_has ls 13 [(9, .int (nI b)), (7, .int (nI (a + 1))), (12, .int (nI 1)), (11, .int (nI t)), (10, .int (nI ((2 * wd * j) + (2 * wd)))), (8, .int (nI ((2 * wd * j) + wd))), (6, .int (nI (2 * wd * j))), (5, .int (nI wd)), (4, .int (nI mm)), (0, .ref mo), (1, .int (nI k))] := hl
                                refine lv_iinc (v := nI (t + 1)) hx hb d_Mo_sort_293 hl (k := 3) rfl (ii_p _ 1) (by decide) rfl (fun ls hl => ?_)
                                have hl : lv_has ls 13 [(11, .int (nI (t + 1))), (9, .int (nI b)), (7, .int (nI (a + 1))), (12, .int (nI 1)), (10, .int (nI ((2 * wd * j) + (2 * wd)))), (8, .int (nI ((2 * wd * j) + wd))), (6, .int (nI (2 * wd * j))), (5, .int (nI wd)), (4, .int (nI mm)), (0, .ref mo), (1, .int (nI k))] := hl
                                refine lv_goto hx hb d_Mo_sort_296 (tgt := 187) (by decide) ?_
                                have hl := lv_sub hl [0, 4, 1, 5, 2, 6, 7, 8, 9, 10] rfl
                                exact ih5 (a + 1) (b) (t + 1) _ _ _ _ (by omega) hl hP hD hS (mg_a hmg hs1 hs2 (by omega) (Or.inr (Nat.le_of_lt h222))) (fun i hi => by rw [up_ne (by omega)]; exact hfr i hi) (bd_up hbX5 (hbK3 _))
        · refine lv_aload_n hx hb d_Mo_sort_61 rfl (lv_at hl 2 rfl) ?_
          refine y_get S hk hP 0 rfl f_Mo_36 rfl d_Mo_sort_62 ?_
          refine lv_istore hx hb d_Mo_sort_65 hl (by decide) rfl (fun ls hl => ?_)
          have hl : lv_has ls 13 [(6, .int (nI y0)), (5, .int (nI (x0 + i))), (4, .int (nI (hh * i))), (0, .ref mo), (1, .int (nI k))] := hl
          have hb9 : hh * (i + 1) ≤ hh * ww := Nat.mul_le_mul_left _ (by omega)
          rw [Nat.mul_succ, ← emm] at hb9
          have hl := lv_sub hl [0, 1, 2, 3, 4] rfl
          refine (?_ : ∀ (d2 : Nat) (j : Nat) (K2 : Nat → Nat) (H : Heap) (locs : List Loc) (ls : Array Slot), hh - j < d2 → lv_has ls 13 [(6, .int (nI (y0 + j))), (5, .int (nI (x0 + i))), (4, .int (nI (hh * i + j))), (0, .ref mo), (1, .int (nI k))] → va_P G.1 cls [(mo, .inr (4, [.int (nI L), .int (nI n), .ref mc_, .ref mv_, .int (nI x0), .int (nI y0), .int (nI x1), .int (nI y1), .ref mk_, .ref mx_])), (mc_, .inl (G.2.1, 500, .inl (fun zz => nI (C zz)))), (mv_, .inl (G.2.1, 500, .inl (fun zz => nI (V zz)))), (mk_, .inl (G.2.1, 4096, .inl (fun zz => nI (K2 zz)))), (mx_, .inl (G.2.1, 4096, .inl (fun zz => nI (X zz))))] H → va_D A [(mo, .inr (4, [.int (nI L), .int (nI n), .ref mc_, .ref mv_, .int (nI x0), .int (nI y0), .int (nI x1), .int (nI y1), .ref mk_, .ref mx_])), (mc_, .inl (G.2.1, 500, .inl (fun zz => nI (C zz)))), (mv_, .inl (G.2.1, 500, .inl (fun zz => nI (V zz)))), (mk_, .inl (G.2.1, 4096, .inl (fun zz => nI (K2 zz)))), (mx_, .inl (G.2.1, 4096, .inl (fun zz => nI (X zz))))] → va_S A s.heap H locs → (j ≤ hh) → (bd K2) → (∀ t, t < hh * i + j → K2 t = wkey k L x0 y0 hh t) → W p la e _ s m _ below meth c H locs 0 0 Q (F0 m 67 ls [])) (hh - 0 + 1) 0 K1 _ _ ls (Nat.lt_succ_self _) hl hP hD hS (Nat.zero_le _) (hbK) (hfl)
          intro d2
          induction d2 with
          | zero => intro j K2 H locs ls hd; exact absurd hd (Nat.not_lt_zero _)
          | succ d2 ih2 =>
            intro j K2 H locs ls hd hl hP hD hS hj hbK2 hfl2
            refine lv_iload hx hb d_Mo_sort_67 (lv_at hl 0 rfl) ?_
            refine lv_aload_n hx hb d_Mo_sort_69 rfl (lv_at hl 3 rfl) ?_
            refine y_get S hk hP 0 rfl f_Mo_42 rfl d_Mo_sort_70 ?_
            refine x_icmp_gt hx hb d_Mo_sort_73 (tgt := 101) (by decide) (by omega) (by omega) (fun h73 => ?_) (fun h73 => ?_)
            · refine lv_iinc (v := nI ((x0 + i) + 1)) hx hb d_Mo_sort_101 hl (k := 1) rfl (ii_p _ 1) (by decide) rfl (fun ls hl => ?_)
              have hl : lv_has ls 13 [(5, .int (nI ((x0 + i) + 1))), (6, .int (nI (y0 + j))), (4, .int (nI (hh * i + j))), (0, .ref mo), (1, .int (nI k))] := hl
              refine lv_goto hx hb d_Mo_sort_104 (tgt := 52) (by decide) ?_
              have hl := lv_sub hl [0, 2, 3, 4] rfl
              rw [show hh * i + j = hh * (i + 1) by rw [Nat.mul_succ]; omega] at hl
              exact ih1 (i + 1) (K2) _ _ _ (by omega) hl hP hD hS (by omega) (hbK2) (fun t ht => hfl2 t (by rw [Nat.mul_succ] at ht; omega))
            · refine lv_aload_n hx hb d_Mo_sort_76 rfl (lv_at hl 3 rfl) ?_
              refine y_get S hk hP 0 rfl f_Mo_20 rfl d_Mo_sort_77 ?_
              refine lv_iload hx hb d_Mo_sort_80 (lv_at hl 2 rfl) ?_
              refine lv_aload_n hx hb d_Mo_sort_82 rfl (lv_at hl 3 rfl) ?_
              refine lv_iload_n hx hb d_Mo_sort_83 rfl (lv_at hl 4 rfl) ?_
              refine lv_iload hx hb d_Mo_sort_84 (lv_at hl 1 rfl) ?_
              refine lv_iload hx hb d_Mo_sort_86 (lv_at hl 0 rfl) ?_
              refine vp_callSi (va_Run.run (run_V S v_Mo_53 (c_Mo_keyOf la G mo mc_ mv_ mk_ mx_ L n x0 y0 x1 y1 k (x0 + i) (y0 + j) hL hL1 hk' (by omega) (by omega)) ⟨rfl, rfl⟩ ⟨Nat.le_of_ble_eq_true rfl, Nat.le_of_ble_eq_true rfl⟩ (preR_V hP hk (hs.kept (fun a h1 h2 => hS.2.1 a h1 h2)) [0] rfl 0 rfl rfl) (rest := [.int (nI (hh * i + j)), .ref mk_]) rfl hl.1 rfl (Nat.le_of_ble_eq_true rfl) d_Mo_sort_88 ⟨Nat.le_of_ble_eq_true rfl, Nat.le_of_ble_eq_true rfl⟩)) (fun r2 hr2 => ?_)
              subst hr2
              have hkx := kk_lt (cu := k) (N := L) (x := x0 + i) (y := y0 + j) (by omega) (by omega)
              refine y_ast hx hb hk hP hD hS 3 rfl (by omega) (by decide) d_Mo_sort_91 (fun H locs hP hD hS => ?_)
              have hP : va_P G.1 cls [(mo, .inr (4, [.int (nI L), .int (nI n), .ref mc_, .ref mv_, .int (nI x0), .int (nI y0), .int (nI x1), .int (nI y1), .ref mk_, .ref mx_])), (mc_, .inl (G.2.1, 500, .inl (fun zz => nI (C zz)))), (mv_, .inl (G.2.1, 500, .inl (fun zz => nI (V zz)))), (mk_, .inl (G.2.1, 4096, .inl (fun zz => nI ((va_up K2 (hh * i + j) (kk k L (x0 + i) (y0 + j))) zz)))), (mx_, .inl (G.2.1, 4096, .inl (fun zz => nI (X zz))))] H := hP
              have hD : va_D A [(mo, .inr (4, [.int (nI L), .int (nI n), .ref mc_, .ref mv_, .int (nI x0), .int (nI y0), .int (nI x1), .int (nI y1), .ref mk_, .ref mx_])), (mc_, .inl (G.2.1, 500, .inl (fun zz => nI (C zz)))), (mv_, .inl (G.2.1, 500, .inl (fun zz => nI (V zz)))), (mk_, .inl (G.2.1, 4096, .inl (fun zz => nI ((va_up K2 (hh * i + j) (kk k L (x0 + i) (y0 + j))) zz)))), (mx_, .inl (G.2.1, 4096, .inl (fun zz => nI (X zz))))] := hD
              refine lv_iinc (v := nI ((hh * i + j) + 1)) hx hb d_Mo_sort_92 hl (k := 2) rfl (ii_p _ 1) (by decide) rfl (fun ls hl => ?_)
              have hl : lv_has ls 13 [(4, .int (nI ((hh * i + j) + 1))), (6, .int (nI (y0 + j))), (5, .int (nI (x0 + i))), (0, .ref mo), (1, .int (nI k))] := hl
              refine lv_iinc (v := nI ((y0 + j) + 1)) hx hb d_Mo_sort_95 hl (k := 1) rfl (ii_p _ 1) (by decide) rfl (fun ls hl => ?_)
              have hl : lv_has ls 13 [(6, .int (nI ((y0 + j) + 1))), (4, .int (nI ((hh * i + j) + 1))), (5, .int (nI (x0 + i))), (0, .ref mo), (1, .int (nI k))] := hl
              refine lv_goto hx hb d_Mo_sort_98 (tgt := 67) (by decide) ?_
              have hl := lv_sub hl [0, 2, 1, 3, 4] rfl
              exact ih2 (j + 1) _ _ _ _ (by omega) hl hP hD hS (by omega) (bd_up hbK2 (by omega)) (fun t ht => by rcases Nat.lt_or_ge t (hh * i + j) with z | z; rw [up_ne (by omega)]; exact hfl2 t z; obtain rfl : t = hh * i + j := (by omega); rw [va_up_self, wkey_at (by omega)])
    · refine lv_iconst (v := (-1)) hx hb d_Mo_sort_41 (by decide) ?_
      exact hret _ _ _ (K, X) _ _ rfl (Or.inr ⟨by first | exact fun z => q1 z.1 | (rw [ec]; exact fun z => h38 ((lg_cmp_le _ _).2 ((pk_lLE (by have : mm ≤ 32768 * 32768 := (by rw [emm]; exact Nat.mul_le_mul (by omega) (by omega)); omega) (by omega)).2 z.2))), rfl, rfl⟩) hP hD hS d_Mo_sort_42
  · refine lv_if_eq hx hb d_Mo_sort_30 (tgt := 41) (by decide) (fun _ => ?_) (fun h => absurd (by decide) h)
    refine lv_iconst (v := (-1)) hx hb d_Mo_sort_41 (by decide) ?_
    exact hret _ _ _ (K, X) _ _ rfl (Or.inr ⟨by first | exact fun z => q1 z.1 | (rw [ec]; exact fun z => h38 ((lg_cmp_le _ _).2 ((pk_lLE (by have : mm ≤ 32768 * 32768 := (by rw [emm]; exact Nat.mul_le_mul (by omega) (by omega)); omega) (by omega)).2 z.2))), rfl, rfl⟩) hP hD hS d_Mo_sort_42
set_option maxHeartbeats 4000000 in
set_option maxRecDepth 100000 in
theorem c_Mo_runs (la : Launch) (G : gG) (mo mc_ mv_ mk_ mx_ L n x0 y0 x1 y1 : Nat) (C V K X : Nat → Nat) (x : Int32) (hM : okMo (L, (n, C, V), (x0, y0, x1, y1), (K, X))) : MetW la y_Mo_runs b_Mo_runs 5 .int 3 80 0 0 [.ref mo, .int x] G [(mo, .inr (4, [.int (nI L), .int (nI n), .ref mc_, .ref mv_, .int (nI x0), .int (nI y0), .int (nI x1), .int (nI y1), .ref mk_, .ref mx_])), (mc_, .inl (G.2.1, 500, .inl (fun zz => nI (C zz)))), (mv_, .inl (G.2.1, 500, .inl (fun zz => nI (V zz)))), (mk_, .inl (G.2.1, 4096, .inl (fun zz => nI (K zz)))), (mx_, .inl (G.2.1, 4096, .inl (fun zz => nI (X zz))))] (S := (Nat → Nat) × (Nat → Nat)) (fun r v => runsS L (x0, y0, x1, y1) x r ∧ bd v.1 ∧ bd v.2) (fun v => [(mo, .inr (4, [.int (nI L), .int (nI n), .ref mc_, .ref mv_, .int (nI x0), .int (nI y0), .int (nI x1), .int (nI y1), .ref mk_, .ref mx_])), (mc_, .inl (G.2.1, 500, .inl (fun zz => nI (C zz)))), (mv_, .inl (G.2.1, 500, .inl (fun zz => nI (V zz)))), (mk_, .inl (G.2.1, 4096, .inl (fun zz => nI (v.1 zz)))), (mx_, .inl (G.2.1, 4096, .inl (fun zz => nI (v.2 zz))))]) := by
  refine MetW.mk (by decide +kernel) (Nat.le_of_ble_eq_true rfl) ?_
  intro p e s m below meth c Q A ls S hP hD hA hS hk hs hret hl
  have hx := S.1
  have hb := S.2.1
  have hP : va_P G.1 cls [(mo, .inr (4, [.int (nI L), .int (nI n), .ref mc_, .ref mv_, .int (nI x0), .int (nI y0), .int (nI x1), .int (nI y1), .ref mk_, .ref mx_])), (mc_, .inl (G.2.1, 500, .inl (fun zz => nI (C zz)))), (mv_, .inl (G.2.1, 500, .inl (fun zz => nI (V zz)))), (mk_, .inl (G.2.1, 4096, .inl (fun zz => nI (K zz)))), (mx_, .inl (G.2.1, 4096, .inl (fun zz => nI (X zz))))] s.heap := hP
  have hD : va_D A [(mo, .inr (4, [.int (nI L), .int (nI n), .ref mc_, .ref mv_, .int (nI x0), .int (nI y0), .int (nI x1), .int (nI y1), .ref mk_, .ref mx_])), (mc_, .inl (G.2.1, 500, .inl (fun zz => nI (C zz)))), (mv_, .inl (G.2.1, 500, .inl (fun zz => nI (V zz)))), (mk_, .inl (G.2.1, 4096, .inl (fun zz => nI (K zz)))), (mx_, .inl (G.2.1, 4096, .inl (fun zz => nI (X zz))))] := hD
  have hM' := hM
  obtain ⟨⟨hL1, hL⟩, hm, ⟨hC, hV⟩, hF, hK, hX⟩ := hM
  dsimp only at hL1 hL hm hC hV hF hK hX
  have hFb := hF.b hL
  obtain ⟨hf1, hf2, hf3, hf4⟩ := hF
  dsimp only at hf1 hf2 hf3 hf4 hFb
  have hp2 := p2_15 hL
  have hp4 := p4_15 hL
  have hpp := Nat.two_pow_pos L
  have hn5 := hm.1
  have hl : lv_has ls 5 [(0, .ref mo), (1, .int x)] := hl
  refine lv_aload_n hx hb d_Mo_runs_0 rfl (lv_at hl 0 rfl) ?_
  refine lv_iload_n hx hb d_Mo_runs_1 rfl (lv_at hl 1 rfl) ?_
  refine eff_W (wr := []) (run_V S v_Mo_73 (c_Mo_sort la G mo mc_ mv_ mk_ mx_ L n x0 y0 x1 y1 C V K X x hM' _) ⟨rfl, rfl⟩ ⟨Nat.le_of_ble_eq_true rfl, Nat.le_of_ble_eq_true rfl⟩ (preW_V hP hD hA hS hk hs [0, 1, 2, 3, 4] (by decide) rfl 0 rfl rfl) (rest := []) rfl hl.1 rfl (Nat.le_of_ble_eq_true rfl) d_Mo_runs_2 ⟨Nat.le_of_ble_eq_true rfl, Nat.le_of_ble_eq_true rfl⟩) hP hD hA hS [0, 1, 2, 3, 4] [] rfl rfl (by decide) (by decide) (fun r1 v H locs hv hP hD hS => ?_)
  rcases hv with ⟨k, hk', rfl, hcc, rfl, hbv, hbx, heqs, hsrt⟩ | ⟨q1, rfl, hv⟩
  · have hcc' := hcc
    have emm : cellsF (x0, y0, x1, y1) = (x1 - x0 + 1) * (y1 - y0 + 1) := rfl
    obtain ⟨mm, em⟩ : ∃ z, z = cellsF (x0, y0, x1, y1) := ⟨_, rfl⟩
    rw [← em] at hcc' heqs hsrt ⊢
    have hl : lv_has ls 5 [(0, .ref mo), (1, .int (nI k))] := hl
    have hWS := fun w => walk_sorted (a := v.1) (cu := k) (N := L) hf1 hf3 hf2 hf4 (by rw [← emm, ← em]; exact heqs) (by rw [← emm, ← em]; exact hsrt) w
    rw [← emm, ← em] at hWS
    obtain ⟨hs, hal, -⟩ := hWS 0
    have hwk : ∀ w, rw_k w (wM k L (x0, y0, x1, y1)) (2 ^ L * 2 ^ L) = rw_a w v.1 mm := fun w => (hWS w).2.2
    have hP : va_P G.1 cls [(mo, .inr (4, [.int (nI L), .int (nI n), .ref mc_, .ref mv_, .int (nI x0), .int (nI y0), .int (nI x1), .int (nI y1), .ref mk_, .ref mx_])), (mc_, .inl (G.2.1, 500, .inl (fun zz => nI (C zz)))), (mv_, .inl (G.2.1, 500, .inl (fun zz => nI (V zz)))), (mk_, .inl (G.2.1, 4096, .inl (fun zz => nI (v.1 zz)))), (mx_, .inl (G.2.1, 4096, .inl (fun zz => nI (v.2 zz))))] H := hP
    have hD : va_D A [(mo, .inr (4, [.int (nI L), .int (nI n), .ref mc_, .ref mv_, .int (nI x0), .int (nI y0), .int (nI x1), .int (nI y1), .ref mk_, .ref mx_])), (mc_, .inl (G.2.1, 500, .inl (fun zz => nI (C zz)))), (mv_, .inl (G.2.1, 500, .inl (fun zz => nI (V zz)))), (mk_, .inl (G.2.1, 4096, .inl (fun zz => nI (v.1 zz)))), (mx_, .inl (G.2.1, 4096, .inl (fun zz => nI (v.2 zz))))] := hD
    refine lv_istore_n hx hb d_Mo_runs_5 rfl hl (by decide) rfl (fun ls hl => ?_)
    have hl : lv_has ls 5 [(2, .int (nI mm)), (0, .ref mo), (1, .int (nI k))] := hl
    refine lv_iload_n hx hb d_Mo_runs_6 rfl (lv_at hl 0 rfl) ?_
    refine lv_if_ge hx hb d_Mo_runs_7 (tgt := 12) (by decide) (fun _ => ?_) (fun h => absurd (nI_pos' (by omega)) h)
    refine lv_iconst (v := nI 0) hx hb d_Mo_runs_12 (by decide) ?_
    refine lv_istore_n hx hb d_Mo_runs_13 rfl hl (by decide) rfl (fun ls hl => ?_)
    have hl : lv_has ls 5 [(3, .int (nI 0)), (2, .int (nI mm)), (0, .ref mo), (1, .int (nI k))] := hl
    refine lv_iconst (v := nI 0) hx hb d_Mo_runs_14 (by decide) ?_
    refine lv_istore hx hb d_Mo_runs_15 hl (by decide) rfl (fun ls hl => ?_)
    have hl : lv_has ls 5 [(4, .int (nI 0)), (3, .int (nI 0)), (2, .int (nI mm)), (0, .ref mo), (1, .int (nI k))] := hl
    have hl := lv_sub hl [0, 1, 2, 3, 4] rfl
    refine (?_ : ∀ (d : Nat) (q : Nat) (g : Nat) (H : Heap) (locs : List Loc) (ls : Array Slot), mm - q < d → lv_has ls 5 [(4, .int (nI q)), (3, .int (nI g)), (2, .int (nI mm)), (0, .ref mo), (1, .int (nI k))] → va_P G.1 cls [(mo, .inr (4, [.int (nI L), .int (nI n), .ref mc_, .ref mv_, .int (nI x0), .int (nI y0), .int (nI x1), .int (nI y1), .ref mk_, .ref mx_])), (mc_, .inl (G.2.1, 500, .inl (fun zz => nI (C zz)))), (mv_, .inl (G.2.1, 500, .inl (fun zz => nI (V zz)))), (mk_, .inl (G.2.1, 4096, .inl (fun zz => nI (v.1 zz)))), (mx_, .inl (G.2.1, 4096, .inl (fun zz => nI (v.2 zz))))] H → va_D A [(mo, .inr (4, [.int (nI L), .int (nI n), .ref mc_, .ref mv_, .int (nI x0), .int (nI y0), .int (nI x1), .int (nI y1), .ref mk_, .ref mx_])), (mc_, .inl (G.2.1, 500, .inl (fun zz => nI (C zz)))), (mv_, .inl (G.2.1, 500, .inl (fun zz => nI (V zz)))), (mk_, .inl (G.2.1, 4096, .inl (fun zz => nI (v.1 zz)))), (mx_, .inl (G.2.1, 4096, .inl (fun zz => nI (v.2 zz))))] → va_S A s.heap H locs → (q ≤ mm) → (g = (rw_a (-1) v.1 q).1) → W p la e _ s m _ below meth c H locs 0 0 Q (F0 m 17 ls [])) (mm - 0 + 1) 0 0 _ _ ls (Nat.lt_succ_self _) hl hP hD hS (Nat.zero_le _) (rfl)
    intro d
    induction d with
    | zero => intro q g H locs ls hd; exact absurd hd (Nat.not_lt_zero _)
    | succ d ih =>
      intro q g H locs ls hd hl hP hD hS hq hg
      refine lv_iload hx hb d_Mo_runs_17 (lv_at hl 0 rfl) ?_
      refine lv_iload_n hx hb d_Mo_runs_19 rfl (lv_at hl 2 rfl) ?_
      refine x_icmp_ge hx hb d_Mo_runs_20 (tgt := 63) (by decide) (by omega) (by omega) (fun h20 => ?_) (fun h20 => ?_)
      · refine lv_iload_n hx hb d_Mo_runs_63 rfl (lv_at hl 1 rfl) ?_
        exact hret _ _ _ v _ _ rfl (⟨Or.inl ⟨k, hk', rfl, hcc, by rw [hwk, hg, show q = mm by omega]⟩, hbv, hbx⟩) hP hD hS d_Mo_runs_64
      · refine lv_iload hx hb d_Mo_runs_23 (lv_at hl 0 rfl) ?_
        refine x_if_eq hx hb d_Mo_runs_25 (tgt := 49) (by decide) (by omega) (fun h25 => ?_) (fun h25 => ?_)
        · refine lv_iload_n hx hb d_Mo_runs_49 rfl (lv_at hl 1 rfl) ?_
          refine lv_iconst (v := nI 1) hx hb d_Mo_runs_50 (by decide) ?_
          refine x_iadd hx hb d_Mo_runs_51 ?_
          refine lv_goto hx hb d_Mo_runs_52 (tgt := 56) (by decide) ?_
          refine lv_istore_n hx hb d_Mo_runs_56 rfl hl (by decide) rfl (fun ls hl => ?_)
          have hl : lv_has ls 5 [(3, .int (nI (g + 1))), (4, .int (nI q)), (2, .int (nI mm)), (0, .ref mo), (1, .int (nI k))] := hl
          refine lv_iinc (v := nI (q + 1)) hx hb d_Mo_runs_57 hl (k := 1) rfl (ii_p _ 1) (by decide) rfl (fun ls hl => ?_)
          have hl : lv_has ls 5 [(4, .int (nI (q + 1))), (3, .int (nI (g + 1))), (2, .int (nI mm)), (0, .ref mo), (1, .int (nI k))] := hl
          refine lv_goto hx hb d_Mo_runs_60 (tgt := 17) (by decide) ?_
          have hl := lv_sub hl [0, 1, 2, 3, 4] rfl
          exact ih (q + 1) _ _ _ _ (by omega) hl hP hD hS (by omega) (by rw [hg, rw_a_c1 hs (by omega) (rw_b0 h25)])
        · refine lv_aload_n hx hb d_Mo_runs_28 rfl (lv_at hl 3 rfl) ?_
          refine y_get S hk hP 0 rfl f_Mo_20 rfl d_Mo_runs_29 ?_
          refine lv_iload hx hb d_Mo_runs_32 (lv_at hl 0 rfl) ?_
          refine y_ald hx hb hk hP 3 rfl (by omega) (by decide) d_Mo_runs_34 ?_
          refine lv_aload_n hx hb d_Mo_runs_35 rfl (lv_at hl 3 rfl) ?_
          refine y_get S hk hP 0 rfl f_Mo_20 rfl d_Mo_runs_36 ?_
          refine lv_iload hx hb d_Mo_runs_39 (lv_at hl 0 rfl) ?_
          refine lv_iconst (v := nI 1) hx hb d_Mo_runs_41 (by decide) ?_
          refine x_isub hx hb d_Mo_runs_42 (by omega) ?_
          refine y_ald hx hb hk hP 3 rfl (by omega) (by decide) d_Mo_runs_43 ?_
          refine lv_iconst (v := nI 1) hx hb d_Mo_runs_44 (by decide) ?_
          refine x_iadd hx hb d_Mo_runs_45 ?_
          refine x_icmp_le hx hb d_Mo_runs_46 (tgt := 55) (by decide) (by have := hal q (by omega); omega) (by have := hal (q - 1) (by omega); omega) (fun h46 => ?_) (fun h46 => ?_)
          · refine lv_iload_n hx hb d_Mo_runs_55 rfl (lv_at hl 1 rfl) ?_
            refine lv_istore_n hx hb d_Mo_runs_56 rfl hl (by decide) rfl (fun ls hl => ?_)
            have hl : lv_has ls 5 [(3, .int (nI g)), (4, .int (nI q)), (2, .int (nI mm)), (0, .ref mo), (1, .int (nI k))] := hl
            refine lv_iinc (v := nI (q + 1)) hx hb d_Mo_runs_57 hl (k := 1) rfl (ii_p _ 1) (by decide) rfl (fun ls hl => ?_)
            have hl : lv_has ls 5 [(4, .int (nI (q + 1))), (3, .int (nI g)), (2, .int (nI mm)), (0, .ref mo), (1, .int (nI k))] := hl
            refine lv_goto hx hb d_Mo_runs_60 (tgt := 17) (by decide) ?_
            have hl := lv_sub hl [0, 1, 2, 3, 4] rfl
            exact ih (q + 1) _ _ _ _ (by omega) hl hP hD hS (by omega) (by rw [hg, rw_a_c0 hs (by omega) (rw_bn h25 h46)])
          · refine lv_iload_n hx hb d_Mo_runs_49 rfl (lv_at hl 1 rfl) ?_
            refine lv_iconst (v := nI 1) hx hb d_Mo_runs_50 (by decide) ?_
            refine x_iadd hx hb d_Mo_runs_51 ?_
            refine lv_goto hx hb d_Mo_runs_52 (tgt := 56) (by decide) ?_
            refine lv_istore_n hx hb d_Mo_runs_56 rfl hl (by decide) rfl (fun ls hl => ?_)
            have hl : lv_has ls 5 [(3, .int (nI (g + 1))), (4, .int (nI q)), (2, .int (nI mm)), (0, .ref mo), (1, .int (nI k))] := hl
            refine lv_iinc (v := nI (q + 1)) hx hb d_Mo_runs_57 hl (k := 1) rfl (ii_p _ 1) (by decide) rfl (fun ls hl => ?_)
            have hl : lv_has ls 5 [(4, .int (nI (q + 1))), (3, .int (nI (g + 1))), (2, .int (nI mm)), (0, .ref mo), (1, .int (nI k))] := hl
            refine lv_goto hx hb d_Mo_runs_60 (tgt := 17) (by decide) ?_
            have hl := lv_sub hl [0, 1, 2, 3, 4] rfl
            exact ih (q + 1) _ _ _ _ (by omega) hl hP hD hS (by omega) (by rw [hg, rw_a_c1 hs (by omega) (rw_b1 h46)])
  · have hP : va_P G.1 cls [(mo, .inr (4, [.int (nI L), .int (nI n), .ref mc_, .ref mv_, .int (nI x0), .int (nI y0), .int (nI x1), .int (nI y1), .ref mk_, .ref mx_])), (mc_, .inl (G.2.1, 500, .inl (fun zz => nI (C zz)))), (mv_, .inl (G.2.1, 500, .inl (fun zz => nI (V zz)))), (mk_, .inl (G.2.1, 4096, .inl (fun zz => nI (v.1 zz)))), (mx_, .inl (G.2.1, 4096, .inl (fun zz => nI (v.2 zz))))] H := hP
    have hD : va_D A [(mo, .inr (4, [.int (nI L), .int (nI n), .ref mc_, .ref mv_, .int (nI x0), .int (nI y0), .int (nI x1), .int (nI y1), .ref mk_, .ref mx_])), (mc_, .inl (G.2.1, 500, .inl (fun zz => nI (C zz)))), (mv_, .inl (G.2.1, 500, .inl (fun zz => nI (V zz)))), (mk_, .inl (G.2.1, 4096, .inl (fun zz => nI (v.1 zz)))), (mx_, .inl (G.2.1, 4096, .inl (fun zz => nI (v.2 zz))))] := hD
    refine lv_istore_n hx hb d_Mo_runs_5 rfl hl (by decide) rfl (fun ls hl => ?_)
    have hl : lv_has ls 5 [(2, .int (-1)), (0, .ref mo), (1, .int x)] := hl
    refine lv_iload_n hx hb d_Mo_runs_6 rfl (lv_at hl 0 rfl) ?_
    refine lv_if_ge hx hb d_Mo_runs_7 (tgt := 12) (by decide) (fun h => absurd h (by decide)) (fun _ => ?_)
    refine lv_iconst (v := (-1)) hx hb d_Mo_runs_10 (by decide) ?_
    exact hret _ _ _ v _ _ rfl (by subst hv; exact ⟨Or.inr ⟨q1, rfl⟩, hK, hX⟩) hP hD hS d_Mo_runs_11
set_option maxHeartbeats 4000000 in
set_option maxRecDepth 100000 in
theorem c_Mo_run (la : Launch) (G : gG) (mo mc_ mv_ mk_ mx_ L n x0 y0 x1 y1 : Nat) (C V K X : Nat → Nat) (x i wh : Int32) (hM : okMo (L, (n, C, V), (x0, y0, x1, y1), (K, X))) : MetW la y_Mo_run b_Mo_run 8 .int 3 80 0 0 [.ref mo, .int x, .int i, .int wh] G [(mo, .inr (4, [.int (nI L), .int (nI n), .ref mc_, .ref mv_, .int (nI x0), .int (nI y0), .int (nI x1), .int (nI y1), .ref mk_, .ref mx_])), (mc_, .inl (G.2.1, 500, .inl (fun zz => nI (C zz)))), (mv_, .inl (G.2.1, 500, .inl (fun zz => nI (V zz)))), (mk_, .inl (G.2.1, 4096, .inl (fun zz => nI (K zz)))), (mx_, .inl (G.2.1, 4096, .inl (fun zz => nI (X zz))))] (S := (Nat → Nat) × (Nat → Nat)) (fun r v => runS L (x0, y0, x1, y1) x i wh r ∧ bd v.1 ∧ bd v.2) (fun v => [(mo, .inr (4, [.int (nI L), .int (nI n), .ref mc_, .ref mv_, .int (nI x0), .int (nI y0), .int (nI x1), .int (nI y1), .ref mk_, .ref mx_])), (mc_, .inl (G.2.1, 500, .inl (fun zz => nI (C zz)))), (mv_, .inl (G.2.1, 500, .inl (fun zz => nI (V zz)))), (mk_, .inl (G.2.1, 4096, .inl (fun zz => nI (v.1 zz)))), (mx_, .inl (G.2.1, 4096, .inl (fun zz => nI (v.2 zz))))]) := by
  refine MetW.mk (by decide +kernel) (Nat.le_of_ble_eq_true rfl) ?_
  intro p e s m below meth c Q A ls S hP hD hA hS hk hs hret hl
  have hx := S.1
  have hb := S.2.1
  have hP : va_P G.1 cls [(mo, .inr (4, [.int (nI L), .int (nI n), .ref mc_, .ref mv_, .int (nI x0), .int (nI y0), .int (nI x1), .int (nI y1), .ref mk_, .ref mx_])), (mc_, .inl (G.2.1, 500, .inl (fun zz => nI (C zz)))), (mv_, .inl (G.2.1, 500, .inl (fun zz => nI (V zz)))), (mk_, .inl (G.2.1, 4096, .inl (fun zz => nI (K zz)))), (mx_, .inl (G.2.1, 4096, .inl (fun zz => nI (X zz))))] s.heap := hP
  have hD : va_D A [(mo, .inr (4, [.int (nI L), .int (nI n), .ref mc_, .ref mv_, .int (nI x0), .int (nI y0), .int (nI x1), .int (nI y1), .ref mk_, .ref mx_])), (mc_, .inl (G.2.1, 500, .inl (fun zz => nI (C zz)))), (mv_, .inl (G.2.1, 500, .inl (fun zz => nI (V zz)))), (mk_, .inl (G.2.1, 4096, .inl (fun zz => nI (K zz)))), (mx_, .inl (G.2.1, 4096, .inl (fun zz => nI (X zz))))] := hD
  have hM' := hM
  obtain ⟨⟨hL1, hL⟩, hm, ⟨hC, hV⟩, hF, hK, hX⟩ := hM
  dsimp only at hL1 hL hm hC hV hF hK hX
  have hFb := hF.b hL
  obtain ⟨hf1, hf2, hf3, hf4⟩ := hF
  dsimp only at hf1 hf2 hf3 hf4 hFb
  have hp2 := p2_15 hL
  have hp4 := p4_15 hL
  have hpp := Nat.two_pow_pos L
  have hn5 := hm.1
  rcases ng i with hi0 | ⟨j, hj', rfl⟩
  · have hl : lv_has ls 8 [(0, .ref mo), (1, .int x), (2, .int i), (3, .int wh)] := hl
    refine lv_aload_n hx hb d_Mo_run_0 rfl (lv_at hl 0 rfl) ?_
    refine lv_iload_n hx hb d_Mo_run_1 rfl (lv_at hl 1 rfl) ?_
    refine eff_W (wr := []) (run_V S v_Mo_73 (c_Mo_sort la G mo mc_ mv_ mk_ mx_ L n x0 y0 x1 y1 C V K X x hM' _) ⟨rfl, rfl⟩ ⟨Nat.le_of_ble_eq_true rfl, Nat.le_of_ble_eq_true rfl⟩ (preW_V hP hD hA hS hk hs [0, 1, 2, 3, 4] (by decide) rfl 0 rfl rfl) (rest := []) rfl hl.1 rfl (Nat.le_of_ble_eq_true rfl) d_Mo_run_2 ⟨Nat.le_of_ble_eq_true rfl, Nat.le_of_ble_eq_true rfl⟩) hP hD hA hS [0, 1, 2, 3, 4] [] rfl rfl (by decide) (by decide) (fun r1 v H locs hv hP hD hS => ?_)
    rcases hv with ⟨k, hk', rfl, hcc, rfl, hbv, hbx, heqs, hsrt⟩ | ⟨q1, rfl, hv⟩
    · have hcc' := hcc
      have emm : cellsF (x0, y0, x1, y1) = (x1 - x0 + 1) * (y1 - y0 + 1) := rfl
      obtain ⟨mm, em⟩ : ∃ z, z = cellsF (x0, y0, x1, y1) := ⟨_, rfl⟩
      rw [← em] at hcc' heqs hsrt ⊢
      have hl : lv_has ls 8 [(0, .ref mo), (1, .int (nI k)), (2, .int i), (3, .int wh)] := hl
      have hWS := fun w => walk_sorted (a := v.1) (cu := k) (N := L) hf1 hf3 hf2 hf4 (by rw [← emm, ← em]; exact heqs) (by rw [← emm, ← em]; exact hsrt) w
      rw [← emm, ← em] at hWS
      obtain ⟨hs, hal, -⟩ := hWS 0
      have hwk : ∀ w, rw_k w (wM k L (x0, y0, x1, y1)) (2 ^ L * 2 ^ L) = rw_a w v.1 mm := fun w => (hWS w).2.2
      have hP : va_P G.1 cls [(mo, .inr (4, [.int (nI L), .int (nI n), .ref mc_, .ref mv_, .int (nI x0), .int (nI y0), .int (nI x1), .int (nI y1), .ref mk_, .ref mx_])), (mc_, .inl (G.2.1, 500, .inl (fun zz => nI (C zz)))), (mv_, .inl (G.2.1, 500, .inl (fun zz => nI (V zz)))), (mk_, .inl (G.2.1, 4096, .inl (fun zz => nI (v.1 zz)))), (mx_, .inl (G.2.1, 4096, .inl (fun zz => nI (v.2 zz))))] H := hP
      have hD : va_D A [(mo, .inr (4, [.int (nI L), .int (nI n), .ref mc_, .ref mv_, .int (nI x0), .int (nI y0), .int (nI x1), .int (nI y1), .ref mk_, .ref mx_])), (mc_, .inl (G.2.1, 500, .inl (fun zz => nI (C zz)))), (mv_, .inl (G.2.1, 500, .inl (fun zz => nI (V zz)))), (mk_, .inl (G.2.1, 4096, .inl (fun zz => nI (v.1 zz)))), (mx_, .inl (G.2.1, 4096, .inl (fun zz => nI (v.2 zz))))] := hD
      refine lv_istore hx hb d_Mo_run_5 hl (by decide) rfl (fun ls hl => ?_)
      have hl : lv_has ls 8 [(4, .int (nI mm)), (0, .ref mo), (1, .int (nI k)), (2, .int i), (3, .int wh)] := hl
      refine lv_iload hx hb d_Mo_run_7 (lv_at hl 0 rfl) ?_
      refine lv_if_lt hx hb d_Mo_run_9 (tgt := 25) (by decide) (fun h => absurd h (nI_pos (by omega))) (fun _ => ?_)
      refine lv_iload_n hx hb d_Mo_run_12 rfl (lv_at hl 3 rfl) ?_
      refine lv_if_lt hx hb d_Mo_run_13 (tgt := 25) (by decide) (fun _ => ?_) (fun h => absurd hi0 h)
      refine lv_iconst (v := (-1)) hx hb d_Mo_run_25 (by decide) ?_
      exact hret _ _ _ v _ _ rfl (by first | (subst hv; exact ⟨Or.inr ⟨fun y => q1 ⟨y.1, y.2.1⟩, rfl⟩, hK, hX⟩) | exact ⟨Or.inr ⟨fun y => y.2.2.1 hi0, rfl⟩, hbv, hbx⟩ | exact ⟨Or.inr ⟨fun y => (by rcases y.2.2.2 with rfl | rfl <;> exact nI_pos (by omega) hw0), rfl⟩, hbv, hbx⟩ | exact ⟨Or.inr ⟨fun y => (by rcases y.2.2.2 with e | e <;> (rw [nI_eq (by omega) (by omega)] at e; omega)), rfl⟩, hbv, hbx⟩) hP hD hS d_Mo_run_26
    · have hP : va_P G.1 cls [(mo, .inr (4, [.int (nI L), .int (nI n), .ref mc_, .ref mv_, .int (nI x0), .int (nI y0), .int (nI x1), .int (nI y1), .ref mk_, .ref mx_])), (mc_, .inl (G.2.1, 500, .inl (fun zz => nI (C zz)))), (mv_, .inl (G.2.1, 500, .inl (fun zz => nI (V zz)))), (mk_, .inl (G.2.1, 4096, .inl (fun zz => nI (v.1 zz)))), (mx_, .inl (G.2.1, 4096, .inl (fun zz => nI (v.2 zz))))] H := hP
      have hD : va_D A [(mo, .inr (4, [.int (nI L), .int (nI n), .ref mc_, .ref mv_, .int (nI x0), .int (nI y0), .int (nI x1), .int (nI y1), .ref mk_, .ref mx_])), (mc_, .inl (G.2.1, 500, .inl (fun zz => nI (C zz)))), (mv_, .inl (G.2.1, 500, .inl (fun zz => nI (V zz)))), (mk_, .inl (G.2.1, 4096, .inl (fun zz => nI (v.1 zz)))), (mx_, .inl (G.2.1, 4096, .inl (fun zz => nI (v.2 zz))))] := hD
      refine lv_istore hx hb d_Mo_run_5 hl (by decide) rfl (fun ls hl => ?_)
      have hl : lv_has ls 8 [(4, .int (-1)), (0, .ref mo), (1, .int x), (2, .int i), (3, .int wh)] := hl
      refine lv_iload hx hb d_Mo_run_7 (lv_at hl 0 rfl) ?_
      refine lv_if_lt hx hb d_Mo_run_9 (tgt := 25) (by decide) (fun _ => ?_) (fun h => absurd (by decide) h)
      refine lv_iconst (v := (-1)) hx hb d_Mo_run_25 (by decide) ?_
      exact hret _ _ _ v _ _ rfl (by first | (subst hv; exact ⟨Or.inr ⟨fun y => q1 ⟨y.1, y.2.1⟩, rfl⟩, hK, hX⟩) | exact ⟨Or.inr ⟨fun y => y.2.2.1 hi0, rfl⟩, hbv, hbx⟩ | exact ⟨Or.inr ⟨fun y => (by rcases y.2.2.2 with rfl | rfl <;> exact nI_pos (by omega) hw0), rfl⟩, hbv, hbx⟩ | exact ⟨Or.inr ⟨fun y => (by rcases y.2.2.2 with e | e <;> (rw [nI_eq (by omega) (by omega)] at e; omega)), rfl⟩, hbv, hbx⟩) hP hD hS d_Mo_run_26
  · rcases ng wh with hw0 | ⟨z, hz, rfl⟩
    · have hl : lv_has ls 8 [(0, .ref mo), (1, .int x), (2, .int (nI j)), (3, .int wh)] := hl
      refine lv_aload_n hx hb d_Mo_run_0 rfl (lv_at hl 0 rfl) ?_
      refine lv_iload_n hx hb d_Mo_run_1 rfl (lv_at hl 1 rfl) ?_
      refine eff_W (wr := []) (run_V S v_Mo_73 (c_Mo_sort la G mo mc_ mv_ mk_ mx_ L n x0 y0 x1 y1 C V K X x hM' _) ⟨rfl, rfl⟩ ⟨Nat.le_of_ble_eq_true rfl, Nat.le_of_ble_eq_true rfl⟩ (preW_V hP hD hA hS hk hs [0, 1, 2, 3, 4] (by decide) rfl 0 rfl rfl) (rest := []) rfl hl.1 rfl (Nat.le_of_ble_eq_true rfl) d_Mo_run_2 ⟨Nat.le_of_ble_eq_true rfl, Nat.le_of_ble_eq_true rfl⟩) hP hD hA hS [0, 1, 2, 3, 4] [] rfl rfl (by decide) (by decide) (fun r1 v H locs hv hP hD hS => ?_)
      rcases hv with ⟨k, hk', rfl, hcc, rfl, hbv, hbx, heqs, hsrt⟩ | ⟨q1, rfl, hv⟩
      · have hcc' := hcc
        have emm : cellsF (x0, y0, x1, y1) = (x1 - x0 + 1) * (y1 - y0 + 1) := rfl
        obtain ⟨mm, em⟩ : ∃ z, z = cellsF (x0, y0, x1, y1) := ⟨_, rfl⟩
        rw [← em] at hcc' heqs hsrt ⊢
        have hl : lv_has ls 8 [(0, .ref mo), (1, .int (nI k)), (2, .int (nI j)), (3, .int wh)] := hl
        have hWS := fun w => walk_sorted (a := v.1) (cu := k) (N := L) hf1 hf3 hf2 hf4 (by rw [← emm, ← em]; exact heqs) (by rw [← emm, ← em]; exact hsrt) w
        rw [← emm, ← em] at hWS
        obtain ⟨hs, hal, -⟩ := hWS 0
        have hwk : ∀ w, rw_k w (wM k L (x0, y0, x1, y1)) (2 ^ L * 2 ^ L) = rw_a w v.1 mm := fun w => (hWS w).2.2
        have hP : va_P G.1 cls [(mo, .inr (4, [.int (nI L), .int (nI n), .ref mc_, .ref mv_, .int (nI x0), .int (nI y0), .int (nI x1), .int (nI y1), .ref mk_, .ref mx_])), (mc_, .inl (G.2.1, 500, .inl (fun zz => nI (C zz)))), (mv_, .inl (G.2.1, 500, .inl (fun zz => nI (V zz)))), (mk_, .inl (G.2.1, 4096, .inl (fun zz => nI (v.1 zz)))), (mx_, .inl (G.2.1, 4096, .inl (fun zz => nI (v.2 zz))))] H := hP
        have hD : va_D A [(mo, .inr (4, [.int (nI L), .int (nI n), .ref mc_, .ref mv_, .int (nI x0), .int (nI y0), .int (nI x1), .int (nI y1), .ref mk_, .ref mx_])), (mc_, .inl (G.2.1, 500, .inl (fun zz => nI (C zz)))), (mv_, .inl (G.2.1, 500, .inl (fun zz => nI (V zz)))), (mk_, .inl (G.2.1, 4096, .inl (fun zz => nI (v.1 zz)))), (mx_, .inl (G.2.1, 4096, .inl (fun zz => nI (v.2 zz))))] := hD
        refine lv_istore hx hb d_Mo_run_5 hl (by decide) rfl (fun ls hl => ?_)
        have hl : lv_has ls 8 [(4, .int (nI mm)), (0, .ref mo), (1, .int (nI k)), (2, .int (nI j)), (3, .int wh)] := hl
        refine lv_iload hx hb d_Mo_run_7 (lv_at hl 0 rfl) ?_
        refine lv_if_lt hx hb d_Mo_run_9 (tgt := 25) (by decide) (fun h => absurd h (nI_pos (by omega))) (fun _ => ?_)
        refine lv_iload_n hx hb d_Mo_run_12 rfl (lv_at hl 3 rfl) ?_
        refine lv_if_lt hx hb d_Mo_run_13 (tgt := 25) (by decide) (fun h => absurd h (nI_pos (by omega))) (fun _ => ?_)
        refine lv_iload_n hx hb d_Mo_run_16 rfl (lv_at hl 4 rfl) ?_
        refine lv_if_lt hx hb d_Mo_run_17 (tgt := 25) (by decide) (fun _ => ?_) (fun h => absurd hw0 h)
        refine lv_iconst (v := (-1)) hx hb d_Mo_run_25 (by decide) ?_
        exact hret _ _ _ v _ _ rfl (by first | (subst hv; exact ⟨Or.inr ⟨fun y => q1 ⟨y.1, y.2.1⟩, rfl⟩, hK, hX⟩) | exact ⟨Or.inr ⟨fun y => y.2.2.1 hi0, rfl⟩, hbv, hbx⟩ | exact ⟨Or.inr ⟨fun y => (by rcases y.2.2.2 with rfl | rfl <;> exact nI_pos (by omega) hw0), rfl⟩, hbv, hbx⟩ | exact ⟨Or.inr ⟨fun y => (by rcases y.2.2.2 with e | e <;> (rw [nI_eq (by omega) (by omega)] at e; omega)), rfl⟩, hbv, hbx⟩) hP hD hS d_Mo_run_26
      · have hP : va_P G.1 cls [(mo, .inr (4, [.int (nI L), .int (nI n), .ref mc_, .ref mv_, .int (nI x0), .int (nI y0), .int (nI x1), .int (nI y1), .ref mk_, .ref mx_])), (mc_, .inl (G.2.1, 500, .inl (fun zz => nI (C zz)))), (mv_, .inl (G.2.1, 500, .inl (fun zz => nI (V zz)))), (mk_, .inl (G.2.1, 4096, .inl (fun zz => nI (v.1 zz)))), (mx_, .inl (G.2.1, 4096, .inl (fun zz => nI (v.2 zz))))] H := hP
        have hD : va_D A [(mo, .inr (4, [.int (nI L), .int (nI n), .ref mc_, .ref mv_, .int (nI x0), .int (nI y0), .int (nI x1), .int (nI y1), .ref mk_, .ref mx_])), (mc_, .inl (G.2.1, 500, .inl (fun zz => nI (C zz)))), (mv_, .inl (G.2.1, 500, .inl (fun zz => nI (V zz)))), (mk_, .inl (G.2.1, 4096, .inl (fun zz => nI (v.1 zz)))), (mx_, .inl (G.2.1, 4096, .inl (fun zz => nI (v.2 zz))))] := hD
        refine lv_istore hx hb d_Mo_run_5 hl (by decide) rfl (fun ls hl => ?_)
        have hl : lv_has ls 8 [(4, .int (-1)), (0, .ref mo), (1, .int x), (2, .int (nI j)), (3, .int wh)] := hl
        refine lv_iload hx hb d_Mo_run_7 (lv_at hl 0 rfl) ?_
        refine lv_if_lt hx hb d_Mo_run_9 (tgt := 25) (by decide) (fun _ => ?_) (fun h => absurd (by decide) h)
        refine lv_iconst (v := (-1)) hx hb d_Mo_run_25 (by decide) ?_
        exact hret _ _ _ v _ _ rfl (by first | (subst hv; exact ⟨Or.inr ⟨fun y => q1 ⟨y.1, y.2.1⟩, rfl⟩, hK, hX⟩) | exact ⟨Or.inr ⟨fun y => y.2.2.1 hi0, rfl⟩, hbv, hbx⟩ | exact ⟨Or.inr ⟨fun y => (by rcases y.2.2.2 with rfl | rfl <;> exact nI_pos (by omega) hw0), rfl⟩, hbv, hbx⟩ | exact ⟨Or.inr ⟨fun y => (by rcases y.2.2.2 with e | e <;> (rw [nI_eq (by omega) (by omega)] at e; omega)), rfl⟩, hbv, hbx⟩) hP hD hS d_Mo_run_26
    · have hl : lv_has ls 8 [(0, .ref mo), (1, .int x), (2, .int (nI j)), (3, .int (nI z))] := hl
      refine lv_aload_n hx hb d_Mo_run_0 rfl (lv_at hl 0 rfl) ?_
      refine lv_iload_n hx hb d_Mo_run_1 rfl (lv_at hl 1 rfl) ?_
      refine eff_W (wr := []) (run_V S v_Mo_73 (c_Mo_sort la G mo mc_ mv_ mk_ mx_ L n x0 y0 x1 y1 C V K X x hM' _) ⟨rfl, rfl⟩ ⟨Nat.le_of_ble_eq_true rfl, Nat.le_of_ble_eq_true rfl⟩ (preW_V hP hD hA hS hk hs [0, 1, 2, 3, 4] (by decide) rfl 0 rfl rfl) (rest := []) rfl hl.1 rfl (Nat.le_of_ble_eq_true rfl) d_Mo_run_2 ⟨Nat.le_of_ble_eq_true rfl, Nat.le_of_ble_eq_true rfl⟩) hP hD hA hS [0, 1, 2, 3, 4] [] rfl rfl (by decide) (by decide) (fun r1 v H locs hv hP hD hS => ?_)
      rcases hv with ⟨k, hk', rfl, hcc, rfl, hbv, hbx, heqs, hsrt⟩ | ⟨q1, rfl, hv⟩
      · have hcc' := hcc
        have emm : cellsF (x0, y0, x1, y1) = (x1 - x0 + 1) * (y1 - y0 + 1) := rfl
        obtain ⟨mm, em⟩ : ∃ z, z = cellsF (x0, y0, x1, y1) := ⟨_, rfl⟩
        rw [← em] at hcc' heqs hsrt ⊢
        have hl : lv_has ls 8 [(0, .ref mo), (1, .int (nI k)), (2, .int (nI j)), (3, .int (nI z))] := hl
        have hWS := fun w => walk_sorted (a := v.1) (cu := k) (N := L) hf1 hf3 hf2 hf4 (by rw [← emm, ← em]; exact heqs) (by rw [← emm, ← em]; exact hsrt) w
        rw [← emm, ← em] at hWS
        obtain ⟨hs, hal, -⟩ := hWS 0
        have hwk : ∀ w, rw_k w (wM k L (x0, y0, x1, y1)) (2 ^ L * 2 ^ L) = rw_a w v.1 mm := fun w => (hWS w).2.2
        have hP : va_P G.1 cls [(mo, .inr (4, [.int (nI L), .int (nI n), .ref mc_, .ref mv_, .int (nI x0), .int (nI y0), .int (nI x1), .int (nI y1), .ref mk_, .ref mx_])), (mc_, .inl (G.2.1, 500, .inl (fun zz => nI (C zz)))), (mv_, .inl (G.2.1, 500, .inl (fun zz => nI (V zz)))), (mk_, .inl (G.2.1, 4096, .inl (fun zz => nI (v.1 zz)))), (mx_, .inl (G.2.1, 4096, .inl (fun zz => nI (v.2 zz))))] H := hP
        have hD : va_D A [(mo, .inr (4, [.int (nI L), .int (nI n), .ref mc_, .ref mv_, .int (nI x0), .int (nI y0), .int (nI x1), .int (nI y1), .ref mk_, .ref mx_])), (mc_, .inl (G.2.1, 500, .inl (fun zz => nI (C zz)))), (mv_, .inl (G.2.1, 500, .inl (fun zz => nI (V zz)))), (mk_, .inl (G.2.1, 4096, .inl (fun zz => nI (v.1 zz)))), (mx_, .inl (G.2.1, 4096, .inl (fun zz => nI (v.2 zz))))] := hD
        refine lv_istore hx hb d_Mo_run_5 hl (by decide) rfl (fun ls hl => ?_)
        have hl : lv_has ls 8 [(4, .int (nI mm)), (0, .ref mo), (1, .int (nI k)), (2, .int (nI j)), (3, .int (nI z))] := hl
        refine lv_iload hx hb d_Mo_run_7 (lv_at hl 0 rfl) ?_
        refine lv_if_lt hx hb d_Mo_run_9 (tgt := 25) (by decide) (fun h => absurd h (nI_pos (by omega))) (fun _ => ?_)
        refine lv_iload_n hx hb d_Mo_run_12 rfl (lv_at hl 3 rfl) ?_
        refine lv_if_lt hx hb d_Mo_run_13 (tgt := 25) (by decide) (fun h => absurd h (nI_pos (by omega))) (fun _ => ?_)
        refine lv_iload_n hx hb d_Mo_run_16 rfl (lv_at hl 4 rfl) ?_
        refine lv_if_lt hx hb d_Mo_run_17 (tgt := 25) (by decide) (fun h => absurd h (nI_pos (by omega))) (fun _ => ?_)
        refine lv_iload_n hx hb d_Mo_run_20 rfl (lv_at hl 4 rfl) ?_
        refine lv_iconst (v := nI 1) hx hb d_Mo_run_21 (by decide) ?_
        refine x_icmp_le hx hb d_Mo_run_22 (tgt := 27) (by decide) (by omega) (by omega) (fun h22 => ?_) (fun h22 => ?_)
        · rcases (show z = 0 ∨ z = 1 by omega) with rfl | rfl
          · have hl : lv_has ls 8 [(4, .int (nI mm)), (0, .ref mo), (1, .int (nI k)), (2, .int (nI j)), (3, .int (nI 0))] := hl
            refine lv_iconst (v := (-1)) hx hb d_Mo_run_27 (by decide) ?_
            refine lv_istore hx hb d_Mo_run_28 hl (by decide) rfl (fun ls hl => ?_)
            have hl : lv_has ls 8 [(5, .int (-1)), (4, .int (nI mm)), (0, .ref mo), (1, .int (nI k)), (2, .int (nI j)), (3, .int (nI 0))] := hl
            refine lv_iconst (v := nI 0) hx hb d_Mo_run_30 (by decide) ?_
            refine lv_istore hx hb d_Mo_run_31 hl (by decide) rfl (fun ls hl => ?_)
            have hl : lv_has ls 8 [(6, .int (nI 0)), (5, .int (-1)), (4, .int (nI mm)), (0, .ref mo), (1, .int (nI k)), (2, .int (nI j)), (3, .int (nI 0))] := hl
            have hl := lv_sub hl [0, 1, 2, 3, 4, 5, 6] rfl
            refine (?_ : ∀ (d : Nat) (q : Nat) (g : Nat) (H : Heap) (locs : List Loc) (ls : Array Slot), mm - q < d → lv_has ls 8 [(6, .int (nI q)), (5, .int (oI g)), (4, .int (nI mm)), (0, .ref mo), (1, .int (nI k)), (2, .int (nI j)), (3, .int (nI 0))] → va_P G.1 cls [(mo, .inr (4, [.int (nI L), .int (nI n), .ref mc_, .ref mv_, .int (nI x0), .int (nI y0), .int (nI x1), .int (nI y1), .ref mk_, .ref mx_])), (mc_, .inl (G.2.1, 500, .inl (fun zz => nI (C zz)))), (mv_, .inl (G.2.1, 500, .inl (fun zz => nI (V zz)))), (mk_, .inl (G.2.1, 4096, .inl (fun zz => nI (v.1 zz)))), (mx_, .inl (G.2.1, 4096, .inl (fun zz => nI (v.2 zz))))] H → va_D A [(mo, .inr (4, [.int (nI L), .int (nI n), .ref mc_, .ref mv_, .int (nI x0), .int (nI y0), .int (nI x1), .int (nI y1), .ref mk_, .ref mx_])), (mc_, .inl (G.2.1, 500, .inl (fun zz => nI (C zz)))), (mv_, .inl (G.2.1, 500, .inl (fun zz => nI (V zz)))), (mk_, .inl (G.2.1, 4096, .inl (fun zz => nI (v.1 zz)))), (mx_, .inl (G.2.1, 4096, .inl (fun zz => nI (v.2 zz))))] → va_S A s.heap H locs → (q ≤ mm) → (g = (rw_a (nI j) v.1 q).1) → (g ≤ j) → W p la e _ s m _ below meth c H locs 0 0 Q (F0 m 33 ls [])) (mm - 0 + 1) 0 0 _ _ ls (Nat.lt_succ_self _) hl hP hD hS (Nat.zero_le _) (rfl) (Nat.zero_le _)
            intro d
            induction d with
            | zero => intro q g H locs ls hd; exact absurd hd (Nat.not_lt_zero _)
            | succ d ih =>
              intro q g H locs ls hd hl hP hD hS hq hg hin
              have hgq : g ≤ q := by rw [hg]; exact rw_a_le q
              refine lv_iload hx hb d_Mo_run_33 (lv_at hl 0 rfl) ?_
              refine lv_iload hx hb d_Mo_run_35 (lv_at hl 2 rfl) ?_
              refine x_icmp_ge hx hb d_Mo_run_37 (tgt := 143) (by decide) (by omega) (by omega) (fun h37 => ?_) (fun h37 => ?_)
              · refine lv_iconst (v := (-1)) hx hb d_Mo_run_143 (by decide) ?_
                exact hret _ _ _ v _ _ rfl (by have e := rw_a_n (a := v.1) hj' mm (by omega) (by rw [← show q = mm by omega, ← hg]; exact hin); exact ⟨Or.inl ⟨k, j, hk', rfl, hj', rfl, hcc, Or.inl ⟨rfl, by rw [hwk, e.1]; rfl⟩⟩, hbv, hbx⟩) hP hD hS d_Mo_run_144
              · refine lv_iload hx hb d_Mo_run_40 (lv_at hl 0 rfl) ?_
                refine x_if_eq hx hb d_Mo_run_42 (tgt := 66) (by decide) (by omega) (fun h42 => ?_) (fun h42 => ?_)
                · have hyb : rw_b v.1 q := by first | exact rw_b0 h42 | exact rw_b1 h63
                  have hc1 := rw_a_c1 (w := nI j) hs (by omega) hyb
                  refine lv_iload hx hb d_Mo_run_66 (lv_at hl 1 rfl) ?_
                  refine lv_iconst (v := nI 1) hx hb d_Mo_run_68 (by decide) ?_
                  refine lv_iadd hx hb d_Mo_run_69 ?_
                  refine x_re (y := (nI g)) (oI_inc1 g) ?_
                  refine lv_goto hx hb d_Mo_run_70 (tgt := 75) (by decide) ?_
                  refine lv_istore hx hb d_Mo_run_75 hl (by decide) rfl (fun ls hl => ?_)
                  have hl : lv_has ls 8 [(5, .int (nI g)), (6, .int (nI q)), (4, .int (nI mm)), (0, .ref mo), (1, .int (nI k)), (2, .int (nI j)), (3, .int (nI 0))] := hl
                  refine lv_iload hx hb d_Mo_run_77 (lv_at hl 1 rfl) ?_
                  refine lv_iload hx hb d_Mo_run_79 (lv_at hl 2 rfl) ?_
                  refine lv_iconst (v := nI 1) hx hb d_Mo_run_81 (by decide) ?_
                  refine x_isub hx hb d_Mo_run_82 (by omega) ?_
                  refine x_icmp_eq hx hb d_Mo_run_83 (tgt := 107) (by decide) (by omega) (by omega) (fun h83 => ?_) (fun h83 => ?_)
                  · refine lv_iconst (v := nI 1) hx hb d_Mo_run_107 (by decide) ?_
                    refine lv_goto hx hb d_Mo_run_108 (tgt := 112) (by decide) ?_
                    refine lv_istore hx hb d_Mo_run_112 hl (by decide) rfl (fun ls hl => ?_)
                    have hl : lv_has ls 8 [(7, .int (nI 1)), (5, .int (nI g)), (6, .int (nI q)), (4, .int (nI mm)), (0, .ref mo), (1, .int (nI k)), (2, .int (nI j)), (3, .int (nI 0))] := hl
                    refine lv_iload hx hb d_Mo_run_114 (lv_at hl 1 rfl) ?_
                    refine lv_iload_n hx hb d_Mo_run_116 rfl (lv_at hl 6 rfl) ?_
                    refine x_icmp_ne hx hb d_Mo_run_117 (tgt := 137) (by decide) (by omega) (by omega) (fun h117 => ?_) (fun h117 => ?_)
                    · refine lv_iinc (v := nI (q + 1)) hx hb d_Mo_run_137 hl (k := 2) rfl (ii_p _ 1) (by decide) rfl (fun ls hl => ?_)
                      have hl : lv_has ls 8 [(6, .int (nI (q + 1))), (7, .int (nI 1)), (5, .int (nI g)), (4, .int (nI mm)), (0, .ref mo), (1, .int (nI k)), (2, .int (nI j)), (3, .int (nI 0))] := hl
                      refine lv_goto hx hb d_Mo_run_140 (tgt := 33) (by decide) ?_
                      have hl := lv_sub hl [0, 2, 3, 4, 5, 6, 7] rfl
                      rw [show nI g = oI (g + 1) from rfl] at hl
                      exact ih (q + 1) (g + 1) _ _ _ (by omega) hl hP hD hS (by omega) (by rw [hc1, ← hg]) (by omega)
                    · refine lv_iload_n hx hb d_Mo_run_120 rfl (lv_at hl 7 rfl) ?_
                      refine lv_if_eq hx hb d_Mo_run_121 (tgt := 129) (by decide) (fun _ => ?_) (fun h => absurd (by decide) h)
                      refine lv_aload_n hx hb d_Mo_run_129 rfl (lv_at hl 4 rfl) ?_
                      refine y_get S hk hP 0 rfl f_Mo_20 rfl d_Mo_run_130 ?_
                      refine lv_iload hx hb d_Mo_run_133 (lv_at hl 2 rfl) ?_
                      refine y_ald hx hb hk hP 3 rfl (by omega) (by decide) d_Mo_run_135 ?_
                      exact hret _ _ _ v _ _ rfl (⟨Or.inl ⟨k, j, hk', rfl, hj', rfl, hcc, Or.inl ⟨rfl, by rw [hwk, run_first hs hcc' (by omega) hj' (by rw [← hg]; exact h117) hyb]; rfl⟩⟩, hbv, hbx⟩) hP hD hS d_Mo_run_136
                  · refine lv_aload_n hx hb d_Mo_run_86 rfl (lv_at hl 3 rfl) ?_
                    refine y_get S hk hP 0 rfl f_Mo_20 rfl d_Mo_run_87 ?_
                    refine lv_iload hx hb d_Mo_run_90 (lv_at hl 1 rfl) ?_
                    refine lv_iconst (v := nI 1) hx hb d_Mo_run_92 (by decide) ?_
                    refine x_iadd hx hb d_Mo_run_93 ?_
                    refine y_ald hx hb hk hP 3 rfl (by omega) (by decide) d_Mo_run_94 ?_
                    refine lv_aload_n hx hb d_Mo_run_95 rfl (lv_at hl 3 rfl) ?_
                    refine y_get S hk hP 0 rfl f_Mo_20 rfl d_Mo_run_96 ?_
                    refine lv_iload hx hb d_Mo_run_99 (lv_at hl 1 rfl) ?_
                    refine y_ald hx hb hk hP 3 rfl (by omega) (by decide) d_Mo_run_101 ?_
                    refine lv_iconst (v := nI 1) hx hb d_Mo_run_102 (by decide) ?_
                    refine x_iadd hx hb d_Mo_run_103 ?_
                    refine x_icmp_le hx hb d_Mo_run_104 (tgt := 111) (by decide) (by have := hal (q + 1) (by omega); omega) (by have := hal q (by omega); omega) (fun h104 => ?_) (fun h104 => ?_)
                    · refine lv_iconst (v := nI 0) hx hb d_Mo_run_111 (by decide) ?_
                      refine lv_istore hx hb d_Mo_run_112 hl (by decide) rfl (fun ls hl => ?_)
                      have hl : lv_has ls 8 [(7, .int (nI 0)), (5, .int (nI g)), (6, .int (nI q)), (4, .int (nI mm)), (0, .ref mo), (1, .int (nI k)), (2, .int (nI j)), (3, .int (nI 0))] := hl
                      refine lv_iload hx hb d_Mo_run_114 (lv_at hl 1 rfl) ?_
                      refine lv_iload_n hx hb d_Mo_run_116 rfl (lv_at hl 6 rfl) ?_
                      refine x_icmp_ne hx hb d_Mo_run_117 (tgt := 137) (by decide) (by omega) (by omega) (fun h117 => ?_) (fun h117 => ?_)
                      · refine lv_iinc (v := nI (q + 1)) hx hb d_Mo_run_137 hl (k := 2) rfl (ii_p _ 1) (by decide) rfl (fun ls hl => ?_)
                        have hl : lv_has ls 8 [(6, .int (nI (q + 1))), (7, .int (nI 0)), (5, .int (nI g)), (4, .int (nI mm)), (0, .ref mo), (1, .int (nI k)), (2, .int (nI j)), (3, .int (nI 0))] := hl
                        refine lv_goto hx hb d_Mo_run_140 (tgt := 33) (by decide) ?_
                        have hl := lv_sub hl [0, 2, 3, 4, 5, 6, 7] rfl
                        rw [show nI g = oI (g + 1) from rfl] at hl
                        exact ih (q + 1) (g + 1) _ _ _ (by omega) hl hP hD hS (by omega) (by rw [hc1, ← hg]) (by omega)
                      · refine lv_iload_n hx hb d_Mo_run_120 rfl (lv_at hl 7 rfl) ?_
                        refine lv_if_eq hx hb d_Mo_run_121 (tgt := 129) (by decide) (fun _ => ?_) (fun h => absurd (by decide) h)
                        refine lv_aload_n hx hb d_Mo_run_129 rfl (lv_at hl 4 rfl) ?_
                        refine y_get S hk hP 0 rfl f_Mo_20 rfl d_Mo_run_130 ?_
                        refine lv_iload hx hb d_Mo_run_133 (lv_at hl 2 rfl) ?_
                        refine y_ald hx hb hk hP 3 rfl (by omega) (by decide) d_Mo_run_135 ?_
                        exact hret _ _ _ v _ _ rfl (⟨Or.inl ⟨k, j, hk', rfl, hj', rfl, hcc, Or.inl ⟨rfl, by rw [hwk, run_first hs hcc' (by omega) hj' (by rw [← hg]; exact h117) hyb]; rfl⟩⟩, hbv, hbx⟩) hP hD hS d_Mo_run_136
                    · refine lv_iconst (v := nI 1) hx hb d_Mo_run_107 (by decide) ?_
                      refine lv_goto hx hb d_Mo_run_108 (tgt := 112) (by decide) ?_
                      refine lv_istore hx hb d_Mo_run_112 hl (by decide) rfl (fun ls hl => ?_)
                      have hl : lv_has ls 8 [(7, .int (nI 1)), (5, .int (nI g)), (6, .int (nI q)), (4, .int (nI mm)), (0, .ref mo), (1, .int (nI k)), (2, .int (nI j)), (3, .int (nI 0))] := hl
                      refine lv_iload hx hb d_Mo_run_114 (lv_at hl 1 rfl) ?_
                      refine lv_iload_n hx hb d_Mo_run_116 rfl (lv_at hl 6 rfl) ?_
                      refine x_icmp_ne hx hb d_Mo_run_117 (tgt := 137) (by decide) (by omega) (by omega) (fun h117 => ?_) (fun h117 => ?_)
                      · refine lv_iinc (v := nI (q + 1)) hx hb d_Mo_run_137 hl (k := 2) rfl (ii_p _ 1) (by decide) rfl (fun ls hl => ?_)
                        have hl : lv_has ls 8 [(6, .int (nI (q + 1))), (7, .int (nI 1)), (5, .int (nI g)), (4, .int (nI mm)), (0, .ref mo), (1, .int (nI k)), (2, .int (nI j)), (3, .int (nI 0))] := hl
                        refine lv_goto hx hb d_Mo_run_140 (tgt := 33) (by decide) ?_
                        have hl := lv_sub hl [0, 2, 3, 4, 5, 6, 7] rfl
                        rw [show nI g = oI (g + 1) from rfl] at hl
                        exact ih (q + 1) (g + 1) _ _ _ (by omega) hl hP hD hS (by omega) (by rw [hc1, ← hg]) (by omega)
                      · refine lv_iload_n hx hb d_Mo_run_120 rfl (lv_at hl 7 rfl) ?_
                        refine lv_if_eq hx hb d_Mo_run_121 (tgt := 129) (by decide) (fun _ => ?_) (fun h => absurd (by decide) h)
                        refine lv_aload_n hx hb d_Mo_run_129 rfl (lv_at hl 4 rfl) ?_
                        refine y_get S hk hP 0 rfl f_Mo_20 rfl d_Mo_run_130 ?_
                        refine lv_iload hx hb d_Mo_run_133 (lv_at hl 2 rfl) ?_
                        refine y_ald hx hb hk hP 3 rfl (by omega) (by decide) d_Mo_run_135 ?_
                        exact hret _ _ _ v _ _ rfl (⟨Or.inl ⟨k, j, hk', rfl, hj', rfl, hcc, Or.inl ⟨rfl, by rw [hwk, run_first hs hcc' (by omega) hj' (by rw [← hg]; exact h117) hyb]; rfl⟩⟩, hbv, hbx⟩) hP hD hS d_Mo_run_136
                · refine lv_aload_n hx hb d_Mo_run_45 rfl (lv_at hl 3 rfl) ?_
                  refine y_get S hk hP 0 rfl f_Mo_20 rfl d_Mo_run_46 ?_
                  refine lv_iload hx hb d_Mo_run_49 (lv_at hl 0 rfl) ?_
                  refine y_ald hx hb hk hP 3 rfl (by omega) (by decide) d_Mo_run_51 ?_
                  refine lv_aload_n hx hb d_Mo_run_52 rfl (lv_at hl 3 rfl) ?_
                  refine y_get S hk hP 0 rfl f_Mo_20 rfl d_Mo_run_53 ?_
                  refine lv_iload hx hb d_Mo_run_56 (lv_at hl 0 rfl) ?_
                  refine lv_iconst (v := nI 1) hx hb d_Mo_run_58 (by decide) ?_
                  refine x_isub hx hb d_Mo_run_59 (by omega) ?_
                  refine y_ald hx hb hk hP 3 rfl (by omega) (by decide) d_Mo_run_60 ?_
                  refine lv_iconst (v := nI 1) hx hb d_Mo_run_61 (by decide) ?_
                  refine x_iadd hx hb d_Mo_run_62 ?_
                  refine x_icmp_le hx hb d_Mo_run_63 (tgt := 73) (by decide) (by have := hal q (by omega); omega) (by have := hal (q - 1) (by omega); omega) (fun h63 => ?_) (fun h63 => ?_)
                  · have hnb : ¬ rw_b v.1 q := rw_bn h42 h63
                    have hc0 := rw_a_c0 (w := nI j) hs (by omega) hnb
                    obtain ⟨q', eq'⟩ : ∃ z, q = z + 1 := ⟨q - 1, by omega⟩
                    have hgp : g ≠ 0 := by rw [hg, eq']; exact rw_a_pos q'
                    obtain ⟨g0, eg⟩ : ∃ z, g = z + 1 := ⟨g - 1, by omega⟩
                    rw [eg] at hl
                    have hl : lv_has ls 8 [(6, .int (nI q)), (5, .int (nI g0)), (4, .int (nI mm)), (0, .ref mo), (1, .int (nI k)), (2, .int (nI j)), (3, .int (nI 0))] := hl
                    refine lv_iload hx hb d_Mo_run_73 (lv_at hl 1 rfl) ?_
                    refine lv_istore hx hb d_Mo_run_75 hl (by decide) rfl (fun ls hl => ?_)
                    have hl : lv_has ls 8 [(5, .int (nI g0)), (6, .int (nI q)), (4, .int (nI mm)), (0, .ref mo), (1, .int (nI k)), (2, .int (nI j)), (3, .int (nI 0))] := hl
                    refine lv_iload hx hb d_Mo_run_77 (lv_at hl 1 rfl) ?_
                    refine lv_iload hx hb d_Mo_run_79 (lv_at hl 2 rfl) ?_
                    refine lv_iconst (v := nI 1) hx hb d_Mo_run_81 (by decide) ?_
                    refine x_isub hx hb d_Mo_run_82 (by omega) ?_
                    refine x_icmp_eq hx hb d_Mo_run_83 (tgt := 107) (by decide) (by omega) (by omega) (fun h83 => ?_) (fun h83 => ?_)
                    · refine lv_iconst (v := nI 1) hx hb d_Mo_run_107 (by decide) ?_
                      refine lv_goto hx hb d_Mo_run_108 (tgt := 112) (by decide) ?_
                      refine lv_istore hx hb d_Mo_run_112 hl (by decide) rfl (fun ls hl => ?_)
                      have hl : lv_has ls 8 [(7, .int (nI 1)), (5, .int (nI g0)), (6, .int (nI q)), (4, .int (nI mm)), (0, .ref mo), (1, .int (nI k)), (2, .int (nI j)), (3, .int (nI 0))] := hl
                      refine lv_iload hx hb d_Mo_run_114 (lv_at hl 1 rfl) ?_
                      refine lv_iload_n hx hb d_Mo_run_116 rfl (lv_at hl 6 rfl) ?_
                      refine x_icmp_ne hx hb d_Mo_run_117 (tgt := 137) (by decide) (by omega) (by omega) (fun h117 => ?_) (fun h117 => ?_)
                      · refine lv_iinc (v := nI (q + 1)) hx hb d_Mo_run_137 hl (k := 2) rfl (ii_p _ 1) (by decide) rfl (fun ls hl => ?_)
                        have hl : lv_has ls 8 [(6, .int (nI (q + 1))), (7, .int (nI 1)), (5, .int (nI g0)), (4, .int (nI mm)), (0, .ref mo), (1, .int (nI k)), (2, .int (nI j)), (3, .int (nI 0))] := hl
                        refine lv_goto hx hb d_Mo_run_140 (tgt := 33) (by decide) ?_
                        have hl := lv_sub hl [0, 2, 3, 4, 5, 6, 7] rfl
                        rw [show nI g0 = oI g by rw [eg]; rfl] at hl
                        exact ih (q + 1) (g) _ _ _ (by omega) hl hP hD hS (by omega) (by rw [hc0, ← hg]) (by omega)
                      · exact absurd h117 (by omega)
                    · refine lv_aload_n hx hb d_Mo_run_86 rfl (lv_at hl 3 rfl) ?_
                      refine y_get S hk hP 0 rfl f_Mo_20 rfl d_Mo_run_87 ?_
                      refine lv_iload hx hb d_Mo_run_90 (lv_at hl 1 rfl) ?_
                      refine lv_iconst (v := nI 1) hx hb d_Mo_run_92 (by decide) ?_
                      refine x_iadd hx hb d_Mo_run_93 ?_
                      refine y_ald hx hb hk hP 3 rfl (by omega) (by decide) d_Mo_run_94 ?_
                      refine lv_aload_n hx hb d_Mo_run_95 rfl (lv_at hl 3 rfl) ?_
                      refine y_get S hk hP 0 rfl f_Mo_20 rfl d_Mo_run_96 ?_
                      refine lv_iload hx hb d_Mo_run_99 (lv_at hl 1 rfl) ?_
                      refine y_ald hx hb hk hP 3 rfl (by omega) (by decide) d_Mo_run_101 ?_
                      refine lv_iconst (v := nI 1) hx hb d_Mo_run_102 (by decide) ?_
                      refine x_iadd hx hb d_Mo_run_103 ?_
                      refine x_icmp_le hx hb d_Mo_run_104 (tgt := 111) (by decide) (by have := hal (q + 1) (by omega); omega) (by have := hal q (by omega); omega) (fun h104 => ?_) (fun h104 => ?_)
                      · refine lv_iconst (v := nI 0) hx hb d_Mo_run_111 (by decide) ?_
                        refine lv_istore hx hb d_Mo_run_112 hl (by decide) rfl (fun ls hl => ?_)
                        have hl : lv_has ls 8 [(7, .int (nI 0)), (5, .int (nI g0)), (6, .int (nI q)), (4, .int (nI mm)), (0, .ref mo), (1, .int (nI k)), (2, .int (nI j)), (3, .int (nI 0))] := hl
                        refine lv_iload hx hb d_Mo_run_114 (lv_at hl 1 rfl) ?_
                        refine lv_iload_n hx hb d_Mo_run_116 rfl (lv_at hl 6 rfl) ?_
                        refine x_icmp_ne hx hb d_Mo_run_117 (tgt := 137) (by decide) (by omega) (by omega) (fun h117 => ?_) (fun h117 => ?_)
                        · refine lv_iinc (v := nI (q + 1)) hx hb d_Mo_run_137 hl (k := 2) rfl (ii_p _ 1) (by decide) rfl (fun ls hl => ?_)
                          have hl : lv_has ls 8 [(6, .int (nI (q + 1))), (7, .int (nI 0)), (5, .int (nI g0)), (4, .int (nI mm)), (0, .ref mo), (1, .int (nI k)), (2, .int (nI j)), (3, .int (nI 0))] := hl
                          refine lv_goto hx hb d_Mo_run_140 (tgt := 33) (by decide) ?_
                          have hl := lv_sub hl [0, 2, 3, 4, 5, 6, 7] rfl
                          rw [show nI g0 = oI g by rw [eg]; rfl] at hl
                          exact ih (q + 1) (g) _ _ _ (by omega) hl hP hD hS (by omega) (by rw [hc0, ← hg]) (by omega)
                        · exact absurd h117 (by omega)
                      · refine lv_iconst (v := nI 1) hx hb d_Mo_run_107 (by decide) ?_
                        refine lv_goto hx hb d_Mo_run_108 (tgt := 112) (by decide) ?_
                        refine lv_istore hx hb d_Mo_run_112 hl (by decide) rfl (fun ls hl => ?_)
                        have hl : lv_has ls 8 [(7, .int (nI 1)), (5, .int (nI g0)), (6, .int (nI q)), (4, .int (nI mm)), (0, .ref mo), (1, .int (nI k)), (2, .int (nI j)), (3, .int (nI 0))] := hl
                        refine lv_iload hx hb d_Mo_run_114 (lv_at hl 1 rfl) ?_
                        refine lv_iload_n hx hb d_Mo_run_116 rfl (lv_at hl 6 rfl) ?_
                        refine x_icmp_ne hx hb d_Mo_run_117 (tgt := 137) (by decide) (by omega) (by omega) (fun h117 => ?_) (fun h117 => ?_)
                        · refine lv_iinc (v := nI (q + 1)) hx hb d_Mo_run_137 hl (k := 2) rfl (ii_p _ 1) (by decide) rfl (fun ls hl => ?_)
                          have hl : lv_has ls 8 [(6, .int (nI (q + 1))), (7, .int (nI 1)), (5, .int (nI g0)), (4, .int (nI mm)), (0, .ref mo), (1, .int (nI k)), (2, .int (nI j)), (3, .int (nI 0))] := hl
                          refine lv_goto hx hb d_Mo_run_140 (tgt := 33) (by decide) ?_
                          have hl := lv_sub hl [0, 2, 3, 4, 5, 6, 7] rfl
                          rw [show nI g0 = oI g by rw [eg]; rfl] at hl
                          exact ih (q + 1) (g) _ _ _ (by omega) hl hP hD hS (by omega) (by rw [hc0, ← hg]) (by omega)
                        · exact absurd h117 (by omega)
                  · have hyb : rw_b v.1 q := by first | exact rw_b0 h42 | exact rw_b1 h63
                    have hc1 := rw_a_c1 (w := nI j) hs (by omega) hyb
                    refine lv_iload hx hb d_Mo_run_66 (lv_at hl 1 rfl) ?_
                    refine lv_iconst (v := nI 1) hx hb d_Mo_run_68 (by decide) ?_
                    refine lv_iadd hx hb d_Mo_run_69 ?_
                    refine x_re (y := (nI g)) (oI_inc1 g) ?_
                    refine lv_goto hx hb d_Mo_run_70 (tgt := 75) (by decide) ?_
                    refine lv_istore hx hb d_Mo_run_75 hl (by decide) rfl (fun ls hl => ?_)
                    have hl : lv_has ls 8 [(5, .int (nI g)), (6, .int (nI q)), (4, .int (nI mm)), (0, .ref mo), (1, .int (nI k)), (2, .int (nI j)), (3, .int (nI 0))] := hl
                    refine lv_iload hx hb d_Mo_run_77 (lv_at hl 1 rfl) ?_
                    refine lv_iload hx hb d_Mo_run_79 (lv_at hl 2 rfl) ?_
                    refine lv_iconst (v := nI 1) hx hb d_Mo_run_81 (by decide) ?_
                    refine x_isub hx hb d_Mo_run_82 (by omega) ?_
                    refine x_icmp_eq hx hb d_Mo_run_83 (tgt := 107) (by decide) (by omega) (by omega) (fun h83 => ?_) (fun h83 => ?_)
                    · refine lv_iconst (v := nI 1) hx hb d_Mo_run_107 (by decide) ?_
                      refine lv_goto hx hb d_Mo_run_108 (tgt := 112) (by decide) ?_
                      refine lv_istore hx hb d_Mo_run_112 hl (by decide) rfl (fun ls hl => ?_)
                      have hl : lv_has ls 8 [(7, .int (nI 1)), (5, .int (nI g)), (6, .int (nI q)), (4, .int (nI mm)), (0, .ref mo), (1, .int (nI k)), (2, .int (nI j)), (3, .int (nI 0))] := hl
                      refine lv_iload hx hb d_Mo_run_114 (lv_at hl 1 rfl) ?_
                      refine lv_iload_n hx hb d_Mo_run_116 rfl (lv_at hl 6 rfl) ?_
                      refine x_icmp_ne hx hb d_Mo_run_117 (tgt := 137) (by decide) (by omega) (by omega) (fun h117 => ?_) (fun h117 => ?_)
                      · refine lv_iinc (v := nI (q + 1)) hx hb d_Mo_run_137 hl (k := 2) rfl (ii_p _ 1) (by decide) rfl (fun ls hl => ?_)
                        have hl : lv_has ls 8 [(6, .int (nI (q + 1))), (7, .int (nI 1)), (5, .int (nI g)), (4, .int (nI mm)), (0, .ref mo), (1, .int (nI k)), (2, .int (nI j)), (3, .int (nI 0))] := hl
                        refine lv_goto hx hb d_Mo_run_140 (tgt := 33) (by decide) ?_
                        have hl := lv_sub hl [0, 2, 3, 4, 5, 6, 7] rfl
                        rw [show nI g = oI (g + 1) from rfl] at hl
                        exact ih (q + 1) (g + 1) _ _ _ (by omega) hl hP hD hS (by omega) (by rw [hc1, ← hg]) (by omega)
                      · refine lv_iload_n hx hb d_Mo_run_120 rfl (lv_at hl 7 rfl) ?_
                        refine lv_if_eq hx hb d_Mo_run_121 (tgt := 129) (by decide) (fun _ => ?_) (fun h => absurd (by decide) h)
                        refine lv_aload_n hx hb d_Mo_run_129 rfl (lv_at hl 4 rfl) ?_
                        refine y_get S hk hP 0 rfl f_Mo_20 rfl d_Mo_run_130 ?_
                        refine lv_iload hx hb d_Mo_run_133 (lv_at hl 2 rfl) ?_
                        refine y_ald hx hb hk hP 3 rfl (by omega) (by decide) d_Mo_run_135 ?_
                        exact hret _ _ _ v _ _ rfl (⟨Or.inl ⟨k, j, hk', rfl, hj', rfl, hcc, Or.inl ⟨rfl, by rw [hwk, run_first hs hcc' (by omega) hj' (by rw [← hg]; exact h117) hyb]; rfl⟩⟩, hbv, hbx⟩) hP hD hS d_Mo_run_136
                    · refine lv_aload_n hx hb d_Mo_run_86 rfl (lv_at hl 3 rfl) ?_
                      refine y_get S hk hP 0 rfl f_Mo_20 rfl d_Mo_run_87 ?_
                      refine lv_iload hx hb d_Mo_run_90 (lv_at hl 1 rfl) ?_
                      refine lv_iconst (v := nI 1) hx hb d_Mo_run_92 (by decide) ?_
                      refine x_iadd hx hb d_Mo_run_93 ?_
                      refine y_ald hx hb hk hP 3 rfl (by omega) (by decide) d_Mo_run_94 ?_
                      refine lv_aload_n hx hb d_Mo_run_95 rfl (lv_at hl 3 rfl) ?_
                      refine y_get S hk hP 0 rfl f_Mo_20 rfl d_Mo_run_96 ?_
                      refine lv_iload hx hb d_Mo_run_99 (lv_at hl 1 rfl) ?_
                      refine y_ald hx hb hk hP 3 rfl (by omega) (by decide) d_Mo_run_101 ?_
                      refine lv_iconst (v := nI 1) hx hb d_Mo_run_102 (by decide) ?_
                      refine x_iadd hx hb d_Mo_run_103 ?_
                      refine x_icmp_le hx hb d_Mo_run_104 (tgt := 111) (by decide) (by have := hal (q + 1) (by omega); omega) (by have := hal q (by omega); omega) (fun h104 => ?_) (fun h104 => ?_)
                      · refine lv_iconst (v := nI 0) hx hb d_Mo_run_111 (by decide) ?_
                        refine lv_istore hx hb d_Mo_run_112 hl (by decide) rfl (fun ls hl => ?_)
                        have hl : lv_has ls 8 [(7, .int (nI 0)), (5, .int (nI g)), (6, .int (nI q)), (4, .int (nI mm)), (0, .ref mo), (1, .int (nI k)), (2, .int (nI j)), (3, .int (nI 0))] := hl
                        refine lv_iload hx hb d_Mo_run_114 (lv_at hl 1 rfl) ?_
                        refine lv_iload_n hx hb d_Mo_run_116 rfl (lv_at hl 6 rfl) ?_
                        refine x_icmp_ne hx hb d_Mo_run_117 (tgt := 137) (by decide) (by omega) (by omega) (fun h117 => ?_) (fun h117 => ?_)
                        · refine lv_iinc (v := nI (q + 1)) hx hb d_Mo_run_137 hl (k := 2) rfl (ii_p _ 1) (by decide) rfl (fun ls hl => ?_)
                          have hl : lv_has ls 8 [(6, .int (nI (q + 1))), (7, .int (nI 0)), (5, .int (nI g)), (4, .int (nI mm)), (0, .ref mo), (1, .int (nI k)), (2, .int (nI j)), (3, .int (nI 0))] := hl
                          refine lv_goto hx hb d_Mo_run_140 (tgt := 33) (by decide) ?_
                          have hl := lv_sub hl [0, 2, 3, 4, 5, 6, 7] rfl
                          rw [show nI g = oI (g + 1) from rfl] at hl
                          exact ih (q + 1) (g + 1) _ _ _ (by omega) hl hP hD hS (by omega) (by rw [hc1, ← hg]) (by omega)
                        · refine lv_iload_n hx hb d_Mo_run_120 rfl (lv_at hl 7 rfl) ?_
                          refine lv_if_eq hx hb d_Mo_run_121 (tgt := 129) (by decide) (fun _ => ?_) (fun h => absurd (by decide) h)
                          refine lv_aload_n hx hb d_Mo_run_129 rfl (lv_at hl 4 rfl) ?_
                          refine y_get S hk hP 0 rfl f_Mo_20 rfl d_Mo_run_130 ?_
                          refine lv_iload hx hb d_Mo_run_133 (lv_at hl 2 rfl) ?_
                          refine y_ald hx hb hk hP 3 rfl (by omega) (by decide) d_Mo_run_135 ?_
                          exact hret _ _ _ v _ _ rfl (⟨Or.inl ⟨k, j, hk', rfl, hj', rfl, hcc, Or.inl ⟨rfl, by rw [hwk, run_first hs hcc' (by omega) hj' (by rw [← hg]; exact h117) hyb]; rfl⟩⟩, hbv, hbx⟩) hP hD hS d_Mo_run_136
                      · refine lv_iconst (v := nI 1) hx hb d_Mo_run_107 (by decide) ?_
                        refine lv_goto hx hb d_Mo_run_108 (tgt := 112) (by decide) ?_
                        refine lv_istore hx hb d_Mo_run_112 hl (by decide) rfl (fun ls hl => ?_)
                        have hl : lv_has ls 8 [(7, .int (nI 1)), (5, .int (nI g)), (6, .int (nI q)), (4, .int (nI mm)), (0, .ref mo), (1, .int (nI k)), (2, .int (nI j)), (3, .int (nI 0))] := hl
                        refine lv_iload hx hb d_Mo_run_114 (lv_at hl 1 rfl) ?_
                        refine lv_iload_n hx hb d_Mo_run_116 rfl (lv_at hl 6 rfl) ?_
                        refine x_icmp_ne hx hb d_Mo_run_117 (tgt := 137) (by decide) (by omega) (by omega) (fun h117 => ?_) (fun h117 => ?_)
                        · refine lv_iinc (v := nI (q + 1)) hx hb d_Mo_run_137 hl (k := 2) rfl (ii_p _ 1) (by decide) rfl (fun ls hl => ?_)
                          have hl : lv_has ls 8 [(6, .int (nI (q + 1))), (7, .int (nI 1)), (5, .int (nI g)), (4, .int (nI mm)), (0, .ref mo), (1, .int (nI k)), (2, .int (nI j)), (3, .int (nI 0))] := hl
                          refine lv_goto hx hb d_Mo_run_140 (tgt := 33) (by decide) ?_
                          have hl := lv_sub hl [0, 2, 3, 4, 5, 6, 7] rfl
                          rw [show nI g = oI (g + 1) from rfl] at hl
                          exact ih (q + 1) (g + 1) _ _ _ (by omega) hl hP hD hS (by omega) (by rw [hc1, ← hg]) (by omega)
                        · refine lv_iload_n hx hb d_Mo_run_120 rfl (lv_at hl 7 rfl) ?_
                          refine lv_if_eq hx hb d_Mo_run_121 (tgt := 129) (by decide) (fun _ => ?_) (fun h => absurd (by decide) h)
                          refine lv_aload_n hx hb d_Mo_run_129 rfl (lv_at hl 4 rfl) ?_
                          refine y_get S hk hP 0 rfl f_Mo_20 rfl d_Mo_run_130 ?_
                          refine lv_iload hx hb d_Mo_run_133 (lv_at hl 2 rfl) ?_
                          refine y_ald hx hb hk hP 3 rfl (by omega) (by decide) d_Mo_run_135 ?_
                          exact hret _ _ _ v _ _ rfl (⟨Or.inl ⟨k, j, hk', rfl, hj', rfl, hcc, Or.inl ⟨rfl, by rw [hwk, run_first hs hcc' (by omega) hj' (by rw [← hg]; exact h117) hyb]; rfl⟩⟩, hbv, hbx⟩) hP hD hS d_Mo_run_136
          · have hl : lv_has ls 8 [(4, .int (nI mm)), (0, .ref mo), (1, .int (nI k)), (2, .int (nI j)), (3, .int (nI 1))] := hl
            refine lv_iconst (v := (-1)) hx hb d_Mo_run_27 (by decide) ?_
            refine lv_istore hx hb d_Mo_run_28 hl (by decide) rfl (fun ls hl => ?_)
            have hl : lv_has ls 8 [(5, .int (-1)), (4, .int (nI mm)), (0, .ref mo), (1, .int (nI k)), (2, .int (nI j)), (3, .int (nI 1))] := hl
            refine lv_iconst (v := nI 0) hx hb d_Mo_run_30 (by decide) ?_
            refine lv_istore hx hb d_Mo_run_31 hl (by decide) rfl (fun ls hl => ?_)
            have hl : lv_has ls 8 [(6, .int (nI 0)), (5, .int (-1)), (4, .int (nI mm)), (0, .ref mo), (1, .int (nI k)), (2, .int (nI j)), (3, .int (nI 1))] := hl
            have hl := lv_sub hl [0, 1, 2, 3, 4, 5, 6] rfl
            refine (?_ : ∀ (d : Nat) (q : Nat) (g : Nat) (H : Heap) (locs : List Loc) (ls : Array Slot), mm - q < d → lv_has ls 8 [(6, .int (nI q)), (5, .int (oI g)), (4, .int (nI mm)), (0, .ref mo), (1, .int (nI k)), (2, .int (nI j)), (3, .int (nI 1))] → va_P G.1 cls [(mo, .inr (4, [.int (nI L), .int (nI n), .ref mc_, .ref mv_, .int (nI x0), .int (nI y0), .int (nI x1), .int (nI y1), .ref mk_, .ref mx_])), (mc_, .inl (G.2.1, 500, .inl (fun zz => nI (C zz)))), (mv_, .inl (G.2.1, 500, .inl (fun zz => nI (V zz)))), (mk_, .inl (G.2.1, 4096, .inl (fun zz => nI (v.1 zz)))), (mx_, .inl (G.2.1, 4096, .inl (fun zz => nI (v.2 zz))))] H → va_D A [(mo, .inr (4, [.int (nI L), .int (nI n), .ref mc_, .ref mv_, .int (nI x0), .int (nI y0), .int (nI x1), .int (nI y1), .ref mk_, .ref mx_])), (mc_, .inl (G.2.1, 500, .inl (fun zz => nI (C zz)))), (mv_, .inl (G.2.1, 500, .inl (fun zz => nI (V zz)))), (mk_, .inl (G.2.1, 4096, .inl (fun zz => nI (v.1 zz)))), (mx_, .inl (G.2.1, 4096, .inl (fun zz => nI (v.2 zz))))] → va_S A s.heap H locs → (q ≤ mm) → (g = (rw_a (nI j) v.1 q).1) → (lsI v.1 j q mm g) → W p la e _ s m _ below meth c H locs 0 0 Q (F0 m 33 ls [])) (mm - 0 + 1) 0 0 _ _ ls (Nat.lt_succ_self _) hl hP hD hS (Nat.zero_le _) (rfl) (Or.inl (Nat.zero_le _))
            intro d
            induction d with
            | zero => intro q g H locs ls hd; exact absurd hd (Nat.not_lt_zero _)
            | succ d ih =>
              intro q g H locs ls hd hl hP hD hS hq hg hin
              have hgq : g ≤ q := by rw [hg]; exact rw_a_le q
              refine lv_iload hx hb d_Mo_run_33 (lv_at hl 0 rfl) ?_
              refine lv_iload hx hb d_Mo_run_35 (lv_at hl 2 rfl) ?_
              refine x_icmp_ge hx hb d_Mo_run_37 (tgt := 143) (by decide) (by omega) (by omega) (fun h37 => ?_) (fun h37 => ?_)
              · refine lv_iconst (v := (-1)) hx hb d_Mo_run_143 (by decide) ?_
                exact hret _ _ _ v _ _ rfl (by have e := rw_a_n (a := v.1) hj' mm (by omega) (by rw [← show q = mm by omega, ← hg]; rcases hin with y | ⟨-, y, -⟩; exact y; omega); exact ⟨Or.inl ⟨k, j, hk', rfl, hj', rfl, hcc, Or.inr ⟨rfl, by rw [hwk, e.2]; rfl⟩⟩, hbv, hbx⟩) hP hD hS d_Mo_run_144
              · refine lv_iload hx hb d_Mo_run_40 (lv_at hl 0 rfl) ?_
                refine x_if_eq hx hb d_Mo_run_42 (tgt := 66) (by decide) (by omega) (fun h42 => ?_) (fun h42 => ?_)
                · have hyb : rw_b v.1 q := by first | exact rw_b0 h42 | exact rw_b1 h63
                  have hc1 := rw_a_c1 (w := nI j) hs (by omega) hyb
                  refine lv_iload hx hb d_Mo_run_66 (lv_at hl 1 rfl) ?_
                  refine lv_iconst (v := nI 1) hx hb d_Mo_run_68 (by decide) ?_
                  refine lv_iadd hx hb d_Mo_run_69 ?_
                  refine x_re (y := (nI g)) (oI_inc1 g) ?_
                  refine lv_goto hx hb d_Mo_run_70 (tgt := 75) (by decide) ?_
                  refine lv_istore hx hb d_Mo_run_75 hl (by decide) rfl (fun ls hl => ?_)
                  have hl : lv_has ls 8 [(5, .int (nI g)), (6, .int (nI q)), (4, .int (nI mm)), (0, .ref mo), (1, .int (nI k)), (2, .int (nI j)), (3, .int (nI 1))] := hl
                  refine lv_iload hx hb d_Mo_run_77 (lv_at hl 1 rfl) ?_
                  refine lv_iload hx hb d_Mo_run_79 (lv_at hl 2 rfl) ?_
                  refine lv_iconst (v := nI 1) hx hb d_Mo_run_81 (by decide) ?_
                  refine x_isub hx hb d_Mo_run_82 (by omega) ?_
                  refine x_icmp_eq hx hb d_Mo_run_83 (tgt := 107) (by decide) (by omega) (by omega) (fun h83 => ?_) (fun h83 => ?_)
                  · refine lv_iconst (v := nI 1) hx hb d_Mo_run_107 (by decide) ?_
                    refine lv_goto hx hb d_Mo_run_108 (tgt := 112) (by decide) ?_
                    refine lv_istore hx hb d_Mo_run_112 hl (by decide) rfl (fun ls hl => ?_)
                    have hl : lv_has ls 8 [(7, .int (nI 1)), (5, .int (nI g)), (6, .int (nI q)), (4, .int (nI mm)), (0, .ref mo), (1, .int (nI k)), (2, .int (nI j)), (3, .int (nI 1))] := hl
                    refine lv_iload hx hb d_Mo_run_114 (lv_at hl 1 rfl) ?_
                    refine lv_iload_n hx hb d_Mo_run_116 rfl (lv_at hl 6 rfl) ?_
                    refine x_icmp_ne hx hb d_Mo_run_117 (tgt := 137) (by decide) (by omega) (by omega) (fun h117 => ?_) (fun h117 => ?_)
                    · refine lv_iinc (v := nI (q + 1)) hx hb d_Mo_run_137 hl (k := 2) rfl (ii_p _ 1) (by decide) rfl (fun ls hl => ?_)
                      have hl : lv_has ls 8 [(6, .int (nI (q + 1))), (7, .int (nI 1)), (5, .int (nI g)), (4, .int (nI mm)), (0, .ref mo), (1, .int (nI k)), (2, .int (nI j)), (3, .int (nI 1))] := hl
                      refine lv_goto hx hb d_Mo_run_140 (tgt := 33) (by decide) ?_
                      have hl := lv_sub hl [0, 2, 3, 4, 5, 6, 7] rfl
                      rw [show nI g = oI (g + 1) from rfl] at hl
                      exact ih (q + 1) (g + 1) _ _ _ (by omega) hl hP hD hS (by omega) (by rw [hc1, ← hg]) (by rcases hin with y | ⟨-, -, y⟩; exact Or.inl (by omega); exact absurd hyb y)
                    · refine lv_iload_n hx hb d_Mo_run_120 rfl (lv_at hl 7 rfl) ?_
                      refine lv_if_eq hx hb d_Mo_run_121 (tgt := 129) (by decide) (fun h => absurd h (by decide)) (fun _ => ?_)
                      refine lv_iload hx hb d_Mo_run_124 (lv_at hl 0 rfl) ?_
                      refine lv_if_eq hx hb d_Mo_run_126 (tgt := 137) (by decide) (fun h => absurd h (by decide)) (fun _ => ?_)
                      refine lv_aload_n hx hb d_Mo_run_129 rfl (lv_at hl 4 rfl) ?_
                      refine y_get S hk hP 0 rfl f_Mo_20 rfl d_Mo_run_130 ?_
                      refine lv_iload hx hb d_Mo_run_133 (lv_at hl 2 rfl) ?_
                      refine y_ald hx hb hk hP 3 rfl (by omega) (by decide) d_Mo_run_135 ?_
                      exact hret _ _ _ v _ _ rfl (by obtain ⟨l1, l2⟩ := run_l1 hs (by omega) (by rw [← hg]; exact h117) hyb; exact ⟨Or.inl ⟨k, j, hk', rfl, hj', rfl, hcc, Or.inr ⟨rfl, by rw [hwk, run_last hs hcc' (by omega) hj' l1 l2 (Or.inl h83)]; rfl⟩⟩, hbv, hbx⟩) hP hD hS d_Mo_run_136
                  · refine lv_aload_n hx hb d_Mo_run_86 rfl (lv_at hl 3 rfl) ?_
                    refine y_get S hk hP 0 rfl f_Mo_20 rfl d_Mo_run_87 ?_
                    refine lv_iload hx hb d_Mo_run_90 (lv_at hl 1 rfl) ?_
                    refine lv_iconst (v := nI 1) hx hb d_Mo_run_92 (by decide) ?_
                    refine x_iadd hx hb d_Mo_run_93 ?_
                    refine y_ald hx hb hk hP 3 rfl (by omega) (by decide) d_Mo_run_94 ?_
                    refine lv_aload_n hx hb d_Mo_run_95 rfl (lv_at hl 3 rfl) ?_
                    refine y_get S hk hP 0 rfl f_Mo_20 rfl d_Mo_run_96 ?_
                    refine lv_iload hx hb d_Mo_run_99 (lv_at hl 1 rfl) ?_
                    refine y_ald hx hb hk hP 3 rfl (by omega) (by decide) d_Mo_run_101 ?_
                    refine lv_iconst (v := nI 1) hx hb d_Mo_run_102 (by decide) ?_
                    refine x_iadd hx hb d_Mo_run_103 ?_
                    refine x_icmp_le hx hb d_Mo_run_104 (tgt := 111) (by decide) (by have := hal (q + 1) (by omega); omega) (by have := hal q (by omega); omega) (fun h104 => ?_) (fun h104 => ?_)
                    · refine lv_iconst (v := nI 0) hx hb d_Mo_run_111 (by decide) ?_
                      refine lv_istore hx hb d_Mo_run_112 hl (by decide) rfl (fun ls hl => ?_)
                      have hl : lv_has ls 8 [(7, .int (nI 0)), (5, .int (nI g)), (6, .int (nI q)), (4, .int (nI mm)), (0, .ref mo), (1, .int (nI k)), (2, .int (nI j)), (3, .int (nI 1))] := hl
                      refine lv_iload hx hb d_Mo_run_114 (lv_at hl 1 rfl) ?_
                      refine lv_iload_n hx hb d_Mo_run_116 rfl (lv_at hl 6 rfl) ?_
                      refine x_icmp_ne hx hb d_Mo_run_117 (tgt := 137) (by decide) (by omega) (by omega) (fun h117 => ?_) (fun h117 => ?_)
                      · refine lv_iinc (v := nI (q + 1)) hx hb d_Mo_run_137 hl (k := 2) rfl (ii_p _ 1) (by decide) rfl (fun ls hl => ?_)
                        have hl : lv_has ls 8 [(6, .int (nI (q + 1))), (7, .int (nI 0)), (5, .int (nI g)), (4, .int (nI mm)), (0, .ref mo), (1, .int (nI k)), (2, .int (nI j)), (3, .int (nI 1))] := hl
                        refine lv_goto hx hb d_Mo_run_140 (tgt := 33) (by decide) ?_
                        have hl := lv_sub hl [0, 2, 3, 4, 5, 6, 7] rfl
                        rw [show nI g = oI (g + 1) from rfl] at hl
                        exact ih (q + 1) (g + 1) _ _ _ (by omega) hl hP hD hS (by omega) (by rw [hc1, ← hg]) (by rcases hin with y | ⟨-, -, y⟩; exact Or.inl (by omega); exact absurd hyb y)
                      · refine lv_iload_n hx hb d_Mo_run_120 rfl (lv_at hl 7 rfl) ?_
                        refine lv_if_eq hx hb d_Mo_run_121 (tgt := 129) (by decide) (fun h => absurd h (by decide)) (fun _ => ?_)
                        refine lv_iload hx hb d_Mo_run_124 (lv_at hl 0 rfl) ?_
                        refine lv_if_eq hx hb d_Mo_run_126 (tgt := 137) (by decide) (fun _ => ?_) (fun h => absurd (by decide) h)
                        refine lv_iinc (v := nI (q + 1)) hx hb d_Mo_run_137 hl (k := 2) rfl (ii_p _ 1) (by decide) rfl (fun ls hl => ?_)
                        have hl : lv_has ls 8 [(6, .int (nI (q + 1))), (7, .int (nI 0)), (5, .int (nI g)), (4, .int (nI mm)), (0, .ref mo), (1, .int (nI k)), (2, .int (nI j)), (3, .int (nI 1))] := hl
                        refine lv_goto hx hb d_Mo_run_140 (tgt := 33) (by decide) ?_
                        have hl := lv_sub hl [0, 2, 3, 4, 5, 6, 7] rfl
                        rw [show nI g = oI (g + 1) from rfl] at hl
                        exact ih (q + 1) (g + 1) _ _ _ (by omega) hl hP hD hS (by omega) (by rw [hc1, ← hg]) (Or.inr ⟨by omega, by omega, rw_bn (by omega) (by rw [Nat.add_sub_cancel]; exact h104)⟩)
                    · refine lv_iconst (v := nI 1) hx hb d_Mo_run_107 (by decide) ?_
                      refine lv_goto hx hb d_Mo_run_108 (tgt := 112) (by decide) ?_
                      refine lv_istore hx hb d_Mo_run_112 hl (by decide) rfl (fun ls hl => ?_)
                      have hl : lv_has ls 8 [(7, .int (nI 1)), (5, .int (nI g)), (6, .int (nI q)), (4, .int (nI mm)), (0, .ref mo), (1, .int (nI k)), (2, .int (nI j)), (3, .int (nI 1))] := hl
                      refine lv_iload hx hb d_Mo_run_114 (lv_at hl 1 rfl) ?_
                      refine lv_iload_n hx hb d_Mo_run_116 rfl (lv_at hl 6 rfl) ?_
                      refine x_icmp_ne hx hb d_Mo_run_117 (tgt := 137) (by decide) (by omega) (by omega) (fun h117 => ?_) (fun h117 => ?_)
                      · refine lv_iinc (v := nI (q + 1)) hx hb d_Mo_run_137 hl (k := 2) rfl (ii_p _ 1) (by decide) rfl (fun ls hl => ?_)
                        have hl : lv_has ls 8 [(6, .int (nI (q + 1))), (7, .int (nI 1)), (5, .int (nI g)), (4, .int (nI mm)), (0, .ref mo), (1, .int (nI k)), (2, .int (nI j)), (3, .int (nI 1))] := hl
                        refine lv_goto hx hb d_Mo_run_140 (tgt := 33) (by decide) ?_
                        have hl := lv_sub hl [0, 2, 3, 4, 5, 6, 7] rfl
                        rw [show nI g = oI (g + 1) from rfl] at hl
                        exact ih (q + 1) (g + 1) _ _ _ (by omega) hl hP hD hS (by omega) (by rw [hc1, ← hg]) (by rcases hin with y | ⟨-, -, y⟩; exact Or.inl (by omega); exact absurd hyb y)
                      · refine lv_iload_n hx hb d_Mo_run_120 rfl (lv_at hl 7 rfl) ?_
                        refine lv_if_eq hx hb d_Mo_run_121 (tgt := 129) (by decide) (fun h => absurd h (by decide)) (fun _ => ?_)
                        refine lv_iload hx hb d_Mo_run_124 (lv_at hl 0 rfl) ?_
                        refine lv_if_eq hx hb d_Mo_run_126 (tgt := 137) (by decide) (fun h => absurd h (by decide)) (fun _ => ?_)
                        refine lv_aload_n hx hb d_Mo_run_129 rfl (lv_at hl 4 rfl) ?_
                        refine y_get S hk hP 0 rfl f_Mo_20 rfl d_Mo_run_130 ?_
                        refine lv_iload hx hb d_Mo_run_133 (lv_at hl 2 rfl) ?_
                        refine y_ald hx hb hk hP 3 rfl (by omega) (by decide) d_Mo_run_135 ?_
                        exact hret _ _ _ v _ _ rfl (by obtain ⟨l1, l2⟩ := run_l1 hs (by omega) (by rw [← hg]; exact h117) hyb; exact ⟨Or.inl ⟨k, j, hk', rfl, hj', rfl, hcc, Or.inr ⟨rfl, by rw [hwk, run_last hs hcc' (by omega) hj' l1 l2 (Or.inr ⟨by omega, h104⟩)]; rfl⟩⟩, hbv, hbx⟩) hP hD hS d_Mo_run_136
                · refine lv_aload_n hx hb d_Mo_run_45 rfl (lv_at hl 3 rfl) ?_
                  refine y_get S hk hP 0 rfl f_Mo_20 rfl d_Mo_run_46 ?_
                  refine lv_iload hx hb d_Mo_run_49 (lv_at hl 0 rfl) ?_
                  refine y_ald hx hb hk hP 3 rfl (by omega) (by decide) d_Mo_run_51 ?_
                  refine lv_aload_n hx hb d_Mo_run_52 rfl (lv_at hl 3 rfl) ?_
                  refine y_get S hk hP 0 rfl f_Mo_20 rfl d_Mo_run_53 ?_
                  refine lv_iload hx hb d_Mo_run_56 (lv_at hl 0 rfl) ?_
                  refine lv_iconst (v := nI 1) hx hb d_Mo_run_58 (by decide) ?_
                  refine x_isub hx hb d_Mo_run_59 (by omega) ?_
                  refine y_ald hx hb hk hP 3 rfl (by omega) (by decide) d_Mo_run_60 ?_
                  refine lv_iconst (v := nI 1) hx hb d_Mo_run_61 (by decide) ?_
                  refine x_iadd hx hb d_Mo_run_62 ?_
                  refine x_icmp_le hx hb d_Mo_run_63 (tgt := 73) (by decide) (by have := hal q (by omega); omega) (by have := hal (q - 1) (by omega); omega) (fun h63 => ?_) (fun h63 => ?_)
                  · have hnb : ¬ rw_b v.1 q := rw_bn h42 h63
                    have hc0 := rw_a_c0 (w := nI j) hs (by omega) hnb
                    obtain ⟨q', eq'⟩ : ∃ z, q = z + 1 := ⟨q - 1, by omega⟩
                    have hgp : g ≠ 0 := by rw [hg, eq']; exact rw_a_pos q'
                    obtain ⟨g0, eg⟩ : ∃ z, g = z + 1 := ⟨g - 1, by omega⟩
                    rw [eg] at hl
                    have hl : lv_has ls 8 [(6, .int (nI q)), (5, .int (nI g0)), (4, .int (nI mm)), (0, .ref mo), (1, .int (nI k)), (2, .int (nI j)), (3, .int (nI 1))] := hl
                    refine lv_iload hx hb d_Mo_run_73 (lv_at hl 1 rfl) ?_
                    refine lv_istore hx hb d_Mo_run_75 hl (by decide) rfl (fun ls hl => ?_)
                    have hl : lv_has ls 8 [(5, .int (nI g0)), (6, .int (nI q)), (4, .int (nI mm)), (0, .ref mo), (1, .int (nI k)), (2, .int (nI j)), (3, .int (nI 1))] := hl
                    refine lv_iload hx hb d_Mo_run_77 (lv_at hl 1 rfl) ?_
                    refine lv_iload hx hb d_Mo_run_79 (lv_at hl 2 rfl) ?_
                    refine lv_iconst (v := nI 1) hx hb d_Mo_run_81 (by decide) ?_
                    refine x_isub hx hb d_Mo_run_82 (by omega) ?_
                    refine x_icmp_eq hx hb d_Mo_run_83 (tgt := 107) (by decide) (by omega) (by omega) (fun h83 => ?_) (fun h83 => ?_)
                    · refine lv_iconst (v := nI 1) hx hb d_Mo_run_107 (by decide) ?_
                      refine lv_goto hx hb d_Mo_run_108 (tgt := 112) (by decide) ?_
                      refine lv_istore hx hb d_Mo_run_112 hl (by decide) rfl (fun ls hl => ?_)
                      have hl : lv_has ls 8 [(7, .int (nI 1)), (5, .int (nI g0)), (6, .int (nI q)), (4, .int (nI mm)), (0, .ref mo), (1, .int (nI k)), (2, .int (nI j)), (3, .int (nI 1))] := hl
                      refine lv_iload hx hb d_Mo_run_114 (lv_at hl 1 rfl) ?_
                      refine lv_iload_n hx hb d_Mo_run_116 rfl (lv_at hl 6 rfl) ?_
                      refine x_icmp_ne hx hb d_Mo_run_117 (tgt := 137) (by decide) (by omega) (by omega) (fun h117 => ?_) (fun h117 => ?_)
                      · refine lv_iinc (v := nI (q + 1)) hx hb d_Mo_run_137 hl (k := 2) rfl (ii_p _ 1) (by decide) rfl (fun ls hl => ?_)
                        have hl : lv_has ls 8 [(6, .int (nI (q + 1))), (7, .int (nI 1)), (5, .int (nI g0)), (4, .int (nI mm)), (0, .ref mo), (1, .int (nI k)), (2, .int (nI j)), (3, .int (nI 1))] := hl
                        refine lv_goto hx hb d_Mo_run_140 (tgt := 33) (by decide) ?_
                        have hl := lv_sub hl [0, 2, 3, 4, 5, 6, 7] rfl
                        rw [show nI g0 = oI g by rw [eg]; rfl] at hl
                        exact ih (q + 1) (g) _ _ _ (by omega) hl hP hD hS (by omega) (by rw [hc0, ← hg]) (by rcases hin with y | ⟨y, -, -⟩; exact Or.inl (by omega); exact absurd h117 (by omega))
                      · refine lv_iload_n hx hb d_Mo_run_120 rfl (lv_at hl 7 rfl) ?_
                        refine lv_if_eq hx hb d_Mo_run_121 (tgt := 129) (by decide) (fun h => absurd h (by decide)) (fun _ => ?_)
                        refine lv_iload hx hb d_Mo_run_124 (lv_at hl 0 rfl) ?_
                        refine lv_if_eq hx hb d_Mo_run_126 (tgt := 137) (by decide) (fun h => absurd h (by decide)) (fun _ => ?_)
                        refine lv_aload_n hx hb d_Mo_run_129 rfl (lv_at hl 4 rfl) ?_
                        refine y_get S hk hP 0 rfl f_Mo_20 rfl d_Mo_run_130 ?_
                        refine lv_iload hx hb d_Mo_run_133 (lv_at hl 2 rfl) ?_
                        refine y_ald hx hb hk hP 3 rfl (by omega) (by decide) d_Mo_run_135 ?_
                        exact hret _ _ _ v _ _ rfl (by obtain ⟨l1, l2⟩ := run_l2 hs (by omega) (by rw [← hg]; omega) hnb; exact ⟨Or.inl ⟨k, j, hk', rfl, hj', rfl, hcc, Or.inr ⟨rfl, by rw [hwk, run_last hs hcc' (by omega) hj' l1 l2 (Or.inl h83)]; rfl⟩⟩, hbv, hbx⟩) hP hD hS d_Mo_run_136
                    · refine lv_aload_n hx hb d_Mo_run_86 rfl (lv_at hl 3 rfl) ?_
                      refine y_get S hk hP 0 rfl f_Mo_20 rfl d_Mo_run_87 ?_
                      refine lv_iload hx hb d_Mo_run_90 (lv_at hl 1 rfl) ?_
                      refine lv_iconst (v := nI 1) hx hb d_Mo_run_92 (by decide) ?_
                      refine x_iadd hx hb d_Mo_run_93 ?_
                      refine y_ald hx hb hk hP 3 rfl (by omega) (by decide) d_Mo_run_94 ?_
                      refine lv_aload_n hx hb d_Mo_run_95 rfl (lv_at hl 3 rfl) ?_
                      refine y_get S hk hP 0 rfl f_Mo_20 rfl d_Mo_run_96 ?_
                      refine lv_iload hx hb d_Mo_run_99 (lv_at hl 1 rfl) ?_
                      refine y_ald hx hb hk hP 3 rfl (by omega) (by decide) d_Mo_run_101 ?_
                      refine lv_iconst (v := nI 1) hx hb d_Mo_run_102 (by decide) ?_
                      refine x_iadd hx hb d_Mo_run_103 ?_
                      refine x_icmp_le hx hb d_Mo_run_104 (tgt := 111) (by decide) (by have := hal (q + 1) (by omega); omega) (by have := hal q (by omega); omega) (fun h104 => ?_) (fun h104 => ?_)
                      · refine lv_iconst (v := nI 0) hx hb d_Mo_run_111 (by decide) ?_
                        refine lv_istore hx hb d_Mo_run_112 hl (by decide) rfl (fun ls hl => ?_)
                        have hl : lv_has ls 8 [(7, .int (nI 0)), (5, .int (nI g0)), (6, .int (nI q)), (4, .int (nI mm)), (0, .ref mo), (1, .int (nI k)), (2, .int (nI j)), (3, .int (nI 1))] := hl
                        refine lv_iload hx hb d_Mo_run_114 (lv_at hl 1 rfl) ?_
                        refine lv_iload_n hx hb d_Mo_run_116 rfl (lv_at hl 6 rfl) ?_
                        refine x_icmp_ne hx hb d_Mo_run_117 (tgt := 137) (by decide) (by omega) (by omega) (fun h117 => ?_) (fun h117 => ?_)
                        · refine lv_iinc (v := nI (q + 1)) hx hb d_Mo_run_137 hl (k := 2) rfl (ii_p _ 1) (by decide) rfl (fun ls hl => ?_)
                          have hl : lv_has ls 8 [(6, .int (nI (q + 1))), (7, .int (nI 0)), (5, .int (nI g0)), (4, .int (nI mm)), (0, .ref mo), (1, .int (nI k)), (2, .int (nI j)), (3, .int (nI 1))] := hl
                          refine lv_goto hx hb d_Mo_run_140 (tgt := 33) (by decide) ?_
                          have hl := lv_sub hl [0, 2, 3, 4, 5, 6, 7] rfl
                          rw [show nI g0 = oI g by rw [eg]; rfl] at hl
                          exact ih (q + 1) (g) _ _ _ (by omega) hl hP hD hS (by omega) (by rw [hc0, ← hg]) (by rcases hin with y | ⟨y, -, -⟩; exact Or.inl (by omega); exact absurd h117 (by omega))
                        · refine lv_iload_n hx hb d_Mo_run_120 rfl (lv_at hl 7 rfl) ?_
                          refine lv_if_eq hx hb d_Mo_run_121 (tgt := 129) (by decide) (fun h => absurd h (by decide)) (fun _ => ?_)
                          refine lv_iload hx hb d_Mo_run_124 (lv_at hl 0 rfl) ?_
                          refine lv_if_eq hx hb d_Mo_run_126 (tgt := 137) (by decide) (fun _ => ?_) (fun h => absurd (by decide) h)
                          refine lv_iinc (v := nI (q + 1)) hx hb d_Mo_run_137 hl (k := 2) rfl (ii_p _ 1) (by decide) rfl (fun ls hl => ?_)
                          have hl : lv_has ls 8 [(6, .int (nI (q + 1))), (7, .int (nI 0)), (5, .int (nI g0)), (4, .int (nI mm)), (0, .ref mo), (1, .int (nI k)), (2, .int (nI j)), (3, .int (nI 1))] := hl
                          refine lv_goto hx hb d_Mo_run_140 (tgt := 33) (by decide) ?_
                          have hl := lv_sub hl [0, 2, 3, 4, 5, 6, 7] rfl
                          rw [show nI g0 = oI g by rw [eg]; rfl] at hl
                          exact ih (q + 1) (g) _ _ _ (by omega) hl hP hD hS (by omega) (by rw [hc0, ← hg]) (Or.inr ⟨by omega, by omega, rw_bn (by omega) (by rw [Nat.add_sub_cancel]; exact h104)⟩)
                      · refine lv_iconst (v := nI 1) hx hb d_Mo_run_107 (by decide) ?_
                        refine lv_goto hx hb d_Mo_run_108 (tgt := 112) (by decide) ?_
                        refine lv_istore hx hb d_Mo_run_112 hl (by decide) rfl (fun ls hl => ?_)
                        have hl : lv_has ls 8 [(7, .int (nI 1)), (5, .int (nI g0)), (6, .int (nI q)), (4, .int (nI mm)), (0, .ref mo), (1, .int (nI k)), (2, .int (nI j)), (3, .int (nI 1))] := hl
                        refine lv_iload hx hb d_Mo_run_114 (lv_at hl 1 rfl) ?_
                        refine lv_iload_n hx hb d_Mo_run_116 rfl (lv_at hl 6 rfl) ?_
                        refine x_icmp_ne hx hb d_Mo_run_117 (tgt := 137) (by decide) (by omega) (by omega) (fun h117 => ?_) (fun h117 => ?_)
                        · refine lv_iinc (v := nI (q + 1)) hx hb d_Mo_run_137 hl (k := 2) rfl (ii_p _ 1) (by decide) rfl (fun ls hl => ?_)
                          have hl : lv_has ls 8 [(6, .int (nI (q + 1))), (7, .int (nI 1)), (5, .int (nI g0)), (4, .int (nI mm)), (0, .ref mo), (1, .int (nI k)), (2, .int (nI j)), (3, .int (nI 1))] := hl
                          refine lv_goto hx hb d_Mo_run_140 (tgt := 33) (by decide) ?_
                          have hl := lv_sub hl [0, 2, 3, 4, 5, 6, 7] rfl
                          rw [show nI g0 = oI g by rw [eg]; rfl] at hl
                          exact ih (q + 1) (g) _ _ _ (by omega) hl hP hD hS (by omega) (by rw [hc0, ← hg]) (by rcases hin with y | ⟨y, -, -⟩; exact Or.inl (by omega); exact absurd h117 (by omega))
                        · refine lv_iload_n hx hb d_Mo_run_120 rfl (lv_at hl 7 rfl) ?_
                          refine lv_if_eq hx hb d_Mo_run_121 (tgt := 129) (by decide) (fun h => absurd h (by decide)) (fun _ => ?_)
                          refine lv_iload hx hb d_Mo_run_124 (lv_at hl 0 rfl) ?_
                          refine lv_if_eq hx hb d_Mo_run_126 (tgt := 137) (by decide) (fun h => absurd h (by decide)) (fun _ => ?_)
                          refine lv_aload_n hx hb d_Mo_run_129 rfl (lv_at hl 4 rfl) ?_
                          refine y_get S hk hP 0 rfl f_Mo_20 rfl d_Mo_run_130 ?_
                          refine lv_iload hx hb d_Mo_run_133 (lv_at hl 2 rfl) ?_
                          refine y_ald hx hb hk hP 3 rfl (by omega) (by decide) d_Mo_run_135 ?_
                          exact hret _ _ _ v _ _ rfl (by obtain ⟨l1, l2⟩ := run_l2 hs (by omega) (by rw [← hg]; omega) hnb; exact ⟨Or.inl ⟨k, j, hk', rfl, hj', rfl, hcc, Or.inr ⟨rfl, by rw [hwk, run_last hs hcc' (by omega) hj' l1 l2 (Or.inr ⟨by omega, h104⟩)]; rfl⟩⟩, hbv, hbx⟩) hP hD hS d_Mo_run_136
                  · have hyb : rw_b v.1 q := by first | exact rw_b0 h42 | exact rw_b1 h63
                    have hc1 := rw_a_c1 (w := nI j) hs (by omega) hyb
                    refine lv_iload hx hb d_Mo_run_66 (lv_at hl 1 rfl) ?_
                    refine lv_iconst (v := nI 1) hx hb d_Mo_run_68 (by decide) ?_
                    refine lv_iadd hx hb d_Mo_run_69 ?_
                    refine x_re (y := (nI g)) (oI_inc1 g) ?_
                    refine lv_goto hx hb d_Mo_run_70 (tgt := 75) (by decide) ?_
                    refine lv_istore hx hb d_Mo_run_75 hl (by decide) rfl (fun ls hl => ?_)
                    have hl : lv_has ls 8 [(5, .int (nI g)), (6, .int (nI q)), (4, .int (nI mm)), (0, .ref mo), (1, .int (nI k)), (2, .int (nI j)), (3, .int (nI 1))] := hl
                    refine lv_iload hx hb d_Mo_run_77 (lv_at hl 1 rfl) ?_
                    refine lv_iload hx hb d_Mo_run_79 (lv_at hl 2 rfl) ?_
                    refine lv_iconst (v := nI 1) hx hb d_Mo_run_81 (by decide) ?_
                    refine x_isub hx hb d_Mo_run_82 (by omega) ?_
                    refine x_icmp_eq hx hb d_Mo_run_83 (tgt := 107) (by decide) (by omega) (by omega) (fun h83 => ?_) (fun h83 => ?_)
                    · refine lv_iconst (v := nI 1) hx hb d_Mo_run_107 (by decide) ?_
                      refine lv_goto hx hb d_Mo_run_108 (tgt := 112) (by decide) ?_
                      refine lv_istore hx hb d_Mo_run_112 hl (by decide) rfl (fun ls hl => ?_)
                      have hl : lv_has ls 8 [(7, .int (nI 1)), (5, .int (nI g)), (6, .int (nI q)), (4, .int (nI mm)), (0, .ref mo), (1, .int (nI k)), (2, .int (nI j)), (3, .int (nI 1))] := hl
                      refine lv_iload hx hb d_Mo_run_114 (lv_at hl 1 rfl) ?_
                      refine lv_iload_n hx hb d_Mo_run_116 rfl (lv_at hl 6 rfl) ?_
                      refine x_icmp_ne hx hb d_Mo_run_117 (tgt := 137) (by decide) (by omega) (by omega) (fun h117 => ?_) (fun h117 => ?_)
                      · refine lv_iinc (v := nI (q + 1)) hx hb d_Mo_run_137 hl (k := 2) rfl (ii_p _ 1) (by decide) rfl (fun ls hl => ?_)
                        have hl : lv_has ls 8 [(6, .int (nI (q + 1))), (7, .int (nI 1)), (5, .int (nI g)), (4, .int (nI mm)), (0, .ref mo), (1, .int (nI k)), (2, .int (nI j)), (3, .int (nI 1))] := hl
                        refine lv_goto hx hb d_Mo_run_140 (tgt := 33) (by decide) ?_
                        have hl := lv_sub hl [0, 2, 3, 4, 5, 6, 7] rfl
                        rw [show nI g = oI (g + 1) from rfl] at hl
                        exact ih (q + 1) (g + 1) _ _ _ (by omega) hl hP hD hS (by omega) (by rw [hc1, ← hg]) (by rcases hin with y | ⟨-, -, y⟩; exact Or.inl (by omega); exact absurd hyb y)
                      · refine lv_iload_n hx hb d_Mo_run_120 rfl (lv_at hl 7 rfl) ?_
                        refine lv_if_eq hx hb d_Mo_run_121 (tgt := 129) (by decide) (fun h => absurd h (by decide)) (fun _ => ?_)
                        refine lv_iload hx hb d_Mo_run_124 (lv_at hl 0 rfl) ?_
                        refine lv_if_eq hx hb d_Mo_run_126 (tgt := 137) (by decide) (fun h => absurd h (by decide)) (fun _ => ?_)
                        refine lv_aload_n hx hb d_Mo_run_129 rfl (lv_at hl 4 rfl) ?_
                        refine y_get S hk hP 0 rfl f_Mo_20 rfl d_Mo_run_130 ?_
                        refine lv_iload hx hb d_Mo_run_133 (lv_at hl 2 rfl) ?_
                        refine y_ald hx hb hk hP 3 rfl (by omega) (by decide) d_Mo_run_135 ?_
                        exact hret _ _ _ v _ _ rfl (by obtain ⟨l1, l2⟩ := run_l1 hs (by omega) (by rw [← hg]; exact h117) hyb; exact ⟨Or.inl ⟨k, j, hk', rfl, hj', rfl, hcc, Or.inr ⟨rfl, by rw [hwk, run_last hs hcc' (by omega) hj' l1 l2 (Or.inl h83)]; rfl⟩⟩, hbv, hbx⟩) hP hD hS d_Mo_run_136
                    · refine lv_aload_n hx hb d_Mo_run_86 rfl (lv_at hl 3 rfl) ?_
                      refine y_get S hk hP 0 rfl f_Mo_20 rfl d_Mo_run_87 ?_
                      refine lv_iload hx hb d_Mo_run_90 (lv_at hl 1 rfl) ?_
                      refine lv_iconst (v := nI 1) hx hb d_Mo_run_92 (by decide) ?_
                      refine x_iadd hx hb d_Mo_run_93 ?_
                      refine y_ald hx hb hk hP 3 rfl (by omega) (by decide) d_Mo_run_94 ?_
                      refine lv_aload_n hx hb d_Mo_run_95 rfl (lv_at hl 3 rfl) ?_
                      refine y_get S hk hP 0 rfl f_Mo_20 rfl d_Mo_run_96 ?_
                      refine lv_iload hx hb d_Mo_run_99 (lv_at hl 1 rfl) ?_
                      refine y_ald hx hb hk hP 3 rfl (by omega) (by decide) d_Mo_run_101 ?_
                      refine lv_iconst (v := nI 1) hx hb d_Mo_run_102 (by decide) ?_
                      refine x_iadd hx hb d_Mo_run_103 ?_
                      refine x_icmp_le hx hb d_Mo_run_104 (tgt := 111) (by decide) (by have := hal (q + 1) (by omega); omega) (by have := hal q (by omega); omega) (fun h104 => ?_) (fun h104 => ?_)
                      · refine lv_iconst (v := nI 0) hx hb d_Mo_run_111 (by decide) ?_
                        refine lv_istore hx hb d_Mo_run_112 hl (by decide) rfl (fun ls hl => ?_)
                        have hl : lv_has ls 8 [(7, .int (nI 0)), (5, .int (nI g)), (6, .int (nI q)), (4, .int (nI mm)), (0, .ref mo), (1, .int (nI k)), (2, .int (nI j)), (3, .int (nI 1))] := hl
                        refine lv_iload hx hb d_Mo_run_114 (lv_at hl 1 rfl) ?_
                        refine lv_iload_n hx hb d_Mo_run_116 rfl (lv_at hl 6 rfl) ?_
                        refine x_icmp_ne hx hb d_Mo_run_117 (tgt := 137) (by decide) (by omega) (by omega) (fun h117 => ?_) (fun h117 => ?_)
                        · refine lv_iinc (v := nI (q + 1)) hx hb d_Mo_run_137 hl (k := 2) rfl (ii_p _ 1) (by decide) rfl (fun ls hl => ?_)
                          have hl : lv_has ls 8 [(6, .int (nI (q + 1))), (7, .int (nI 0)), (5, .int (nI g)), (4, .int (nI mm)), (0, .ref mo), (1, .int (nI k)), (2, .int (nI j)), (3, .int (nI 1))] := hl
                          refine lv_goto hx hb d_Mo_run_140 (tgt := 33) (by decide) ?_
                          have hl := lv_sub hl [0, 2, 3, 4, 5, 6, 7] rfl
                          rw [show nI g = oI (g + 1) from rfl] at hl
                          exact ih (q + 1) (g + 1) _ _ _ (by omega) hl hP hD hS (by omega) (by rw [hc1, ← hg]) (by rcases hin with y | ⟨-, -, y⟩; exact Or.inl (by omega); exact absurd hyb y)
                        · refine lv_iload_n hx hb d_Mo_run_120 rfl (lv_at hl 7 rfl) ?_
                          refine lv_if_eq hx hb d_Mo_run_121 (tgt := 129) (by decide) (fun h => absurd h (by decide)) (fun _ => ?_)
                          refine lv_iload hx hb d_Mo_run_124 (lv_at hl 0 rfl) ?_
                          refine lv_if_eq hx hb d_Mo_run_126 (tgt := 137) (by decide) (fun _ => ?_) (fun h => absurd (by decide) h)
                          refine lv_iinc (v := nI (q + 1)) hx hb d_Mo_run_137 hl (k := 2) rfl (ii_p _ 1) (by decide) rfl (fun ls hl => ?_)
                          have hl : lv_has ls 8 [(6, .int (nI (q + 1))), (7, .int (nI 0)), (5, .int (nI g)), (4, .int (nI mm)), (0, .ref mo), (1, .int (nI k)), (2, .int (nI j)), (3, .int (nI 1))] := hl
                          refine lv_goto hx hb d_Mo_run_140 (tgt := 33) (by decide) ?_
                          have hl := lv_sub hl [0, 2, 3, 4, 5, 6, 7] rfl
                          rw [show nI g = oI (g + 1) from rfl] at hl
                          exact ih (q + 1) (g + 1) _ _ _ (by omega) hl hP hD hS (by omega) (by rw [hc1, ← hg]) (Or.inr ⟨by omega, by omega, rw_bn (by omega) (by rw [Nat.add_sub_cancel]; exact h104)⟩)
                      · refine lv_iconst (v := nI 1) hx hb d_Mo_run_107 (by decide) ?_
                        refine lv_goto hx hb d_Mo_run_108 (tgt := 112) (by decide) ?_
                        refine lv_istore hx hb d_Mo_run_112 hl (by decide) rfl (fun ls hl => ?_)
                        have hl : lv_has ls 8 [(7, .int (nI 1)), (5, .int (nI g)), (6, .int (nI q)), (4, .int (nI mm)), (0, .ref mo), (1, .int (nI k)), (2, .int (nI j)), (3, .int (nI 1))] := hl
                        refine lv_iload hx hb d_Mo_run_114 (lv_at hl 1 rfl) ?_
                        refine lv_iload_n hx hb d_Mo_run_116 rfl (lv_at hl 6 rfl) ?_
                        refine x_icmp_ne hx hb d_Mo_run_117 (tgt := 137) (by decide) (by omega) (by omega) (fun h117 => ?_) (fun h117 => ?_)
                        · refine lv_iinc (v := nI (q + 1)) hx hb d_Mo_run_137 hl (k := 2) rfl (ii_p _ 1) (by decide) rfl (fun ls hl => ?_)
                          have hl : lv_has ls 8 [(6, .int (nI (q + 1))), (7, .int (nI 1)), (5, .int (nI g)), (4, .int (nI mm)), (0, .ref mo), (1, .int (nI k)), (2, .int (nI j)), (3, .int (nI 1))] := hl
                          refine lv_goto hx hb d_Mo_run_140 (tgt := 33) (by decide) ?_
                          have hl := lv_sub hl [0, 2, 3, 4, 5, 6, 7] rfl
                          rw [show nI g = oI (g + 1) from rfl] at hl
                          exact ih (q + 1) (g + 1) _ _ _ (by omega) hl hP hD hS (by omega) (by rw [hc1, ← hg]) (by rcases hin with y | ⟨-, -, y⟩; exact Or.inl (by omega); exact absurd hyb y)
                        · refine lv_iload_n hx hb d_Mo_run_120 rfl (lv_at hl 7 rfl) ?_
                          refine lv_if_eq hx hb d_Mo_run_121 (tgt := 129) (by decide) (fun h => absurd h (by decide)) (fun _ => ?_)
                          refine lv_iload hx hb d_Mo_run_124 (lv_at hl 0 rfl) ?_
                          refine lv_if_eq hx hb d_Mo_run_126 (tgt := 137) (by decide) (fun h => absurd h (by decide)) (fun _ => ?_)
                          refine lv_aload_n hx hb d_Mo_run_129 rfl (lv_at hl 4 rfl) ?_
                          refine y_get S hk hP 0 rfl f_Mo_20 rfl d_Mo_run_130 ?_
                          refine lv_iload hx hb d_Mo_run_133 (lv_at hl 2 rfl) ?_
                          refine y_ald hx hb hk hP 3 rfl (by omega) (by decide) d_Mo_run_135 ?_
                          exact hret _ _ _ v _ _ rfl (by obtain ⟨l1, l2⟩ := run_l1 hs (by omega) (by rw [← hg]; exact h117) hyb; exact ⟨Or.inl ⟨k, j, hk', rfl, hj', rfl, hcc, Or.inr ⟨rfl, by rw [hwk, run_last hs hcc' (by omega) hj' l1 l2 (Or.inr ⟨by omega, h104⟩)]; rfl⟩⟩, hbv, hbx⟩) hP hD hS d_Mo_run_136
        · refine lv_iconst (v := (-1)) hx hb d_Mo_run_25 (by decide) ?_
          exact hret _ _ _ v _ _ rfl (by first | (subst hv; exact ⟨Or.inr ⟨fun y => q1 ⟨y.1, y.2.1⟩, rfl⟩, hK, hX⟩) | exact ⟨Or.inr ⟨fun y => y.2.2.1 hi0, rfl⟩, hbv, hbx⟩ | exact ⟨Or.inr ⟨fun y => (by rcases y.2.2.2 with rfl | rfl <;> exact nI_pos (by omega) hw0), rfl⟩, hbv, hbx⟩ | exact ⟨Or.inr ⟨fun y => (by rcases y.2.2.2 with e | e <;> (rw [nI_eq (by omega) (by omega)] at e; omega)), rfl⟩, hbv, hbx⟩) hP hD hS d_Mo_run_26
      · have hP : va_P G.1 cls [(mo, .inr (4, [.int (nI L), .int (nI n), .ref mc_, .ref mv_, .int (nI x0), .int (nI y0), .int (nI x1), .int (nI y1), .ref mk_, .ref mx_])), (mc_, .inl (G.2.1, 500, .inl (fun zz => nI (C zz)))), (mv_, .inl (G.2.1, 500, .inl (fun zz => nI (V zz)))), (mk_, .inl (G.2.1, 4096, .inl (fun zz => nI (v.1 zz)))), (mx_, .inl (G.2.1, 4096, .inl (fun zz => nI (v.2 zz))))] H := hP
        have hD : va_D A [(mo, .inr (4, [.int (nI L), .int (nI n), .ref mc_, .ref mv_, .int (nI x0), .int (nI y0), .int (nI x1), .int (nI y1), .ref mk_, .ref mx_])), (mc_, .inl (G.2.1, 500, .inl (fun zz => nI (C zz)))), (mv_, .inl (G.2.1, 500, .inl (fun zz => nI (V zz)))), (mk_, .inl (G.2.1, 4096, .inl (fun zz => nI (v.1 zz)))), (mx_, .inl (G.2.1, 4096, .inl (fun zz => nI (v.2 zz))))] := hD
        refine lv_istore hx hb d_Mo_run_5 hl (by decide) rfl (fun ls hl => ?_)
        have hl : lv_has ls 8 [(4, .int (-1)), (0, .ref mo), (1, .int x), (2, .int (nI j)), (3, .int (nI z))] := hl
        refine lv_iload hx hb d_Mo_run_7 (lv_at hl 0 rfl) ?_
        refine lv_if_lt hx hb d_Mo_run_9 (tgt := 25) (by decide) (fun _ => ?_) (fun h => absurd (by decide) h)
        refine lv_iconst (v := (-1)) hx hb d_Mo_run_25 (by decide) ?_
        exact hret _ _ _ v _ _ rfl (by first | (subst hv; exact ⟨Or.inr ⟨fun y => q1 ⟨y.1, y.2.1⟩, rfl⟩, hK, hX⟩) | exact ⟨Or.inr ⟨fun y => y.2.2.1 hi0, rfl⟩, hbv, hbx⟩ | exact ⟨Or.inr ⟨fun y => (by rcases y.2.2.2 with rfl | rfl <;> exact nI_pos (by omega) hw0), rfl⟩, hbv, hbx⟩ | exact ⟨Or.inr ⟨fun y => (by rcases y.2.2.2 with e | e <;> (rw [nI_eq (by omega) (by omega)] at e; omega)), rfl⟩, hbv, hbx⟩) hP hD hS d_Mo_run_26
