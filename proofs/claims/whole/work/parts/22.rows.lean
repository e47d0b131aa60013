/-! the class's rows (laid by gen/m3.py) -/
set_option maxHeartbeats 4000000 in
set_option maxRecDepth 100000 in
theorem c_Row_clear (la : Launch) (G : gG) (ro ak ac av n : Nat)  : MetV la y_Row_clear b_Row_clear 1 0 0 0 0 [.ref ro] G [(ro, .inr (1, [.ref ak, .ref ac, .ref av, .int (nI n)]))] (S := Unit) (fun _ => True) (fun _ => [(ro, .inr (1, [.ref ak, .ref ac, .ref av, .int (nI 0)]))]) := by
  refine MetV.mk (by decide +kernel) (Nat.le_of_ble_eq_true rfl) ?_
  intro p e s m below meth c Q A ls S hin hP hD hA hS hk hs hret hl
  have hx := S.1
  have hb := S.2.1
  have hP : va_P G.1 cls [(ro, .inr (1, [.ref ak, .ref ac, .ref av, .int (nI n)]))] s.heap := hP
  have hD : va_D A [(ro, .inr (1, [.ref ak, .ref ac, .ref av, .int (nI n)]))] := hD
  have hl : lv_has ls 1 [(0, .ref ro)] := hl
  refine lv_aload_n hx hb d_Row_clear_0 rfl (lv_at hl 0 rfl) ?_
  refine lv_iconst (v := nI 0) hx hb d_Row_clear_1 (by decide) ?_
  refine y_put S hk hP hD hS 0 rfl f_Row_21 T_1 M_1_3 rfl rfl (Nat.le_of_ble_eq_true rfl) d_Row_clear_2 (fun H locs hP hD hS => ?_)
  have hP : va_P G.1 cls [(ro, .inr (1, [.ref ak, .ref ac, .ref av, .int (nI 0)]))] H := hP
  have hD : va_D A [(ro, .inr (1, [.ref ak, .ref ac, .ref av, .int (nI 0)]))] := hD
  exact hret _ _ () _ _ (trivial) hP hD hS d_Row_clear_5
set_option maxHeartbeats 4000000 in
set_option maxRecDepth 100000 in
theorem c_Row_isFull (la : Launch) (G : gG) (ro ak ac av n : Nat) (hn : n ≤ 500) : MetR la y_Row_isFull b_Row_isFull 1 .boolean 0 0 [.ref ro] G [(ro, .inr (1, [.ref ak, .ref ac, .ref av, .int (nI n)]))] (fun r => (r = 1 ∧ 500 ≤ n) ∨ (r = 0 ∧ n < 500)) := by
  refine MetR.mk (by decide +kernel) (Nat.le_of_ble_eq_true rfl) ?_
  intro p e s m below meth c Q ls S hP hk hs hret hl
  have hx := S.1
  have hb := S.2.1
  have hl : lv_has ls 1 [(0, .ref ro)] := hl
  refine lv_aload_n hx hb d_Row_isFull_0 rfl (lv_at hl 0 rfl) ?_
  refine y_get S hk hP 0 rfl f_Row_21 rfl d_Row_isFull_1 ?_
  refine lv_sipush (v := nI 500) hx hb d_Row_isFull_4 (by decide) ?_
  refine x_icmp_lt hx hb d_Row_isFull_7 (tgt := 14) (by decide) (by omega) (by omega) (fun h7 => ?_) (fun h7 => ?_)
  · refine lv_iconst (v := nI 0) hx hb d_Row_isFull_14 (by decide) ?_
    exact hret _ _ _ (by decide) (Or.inr ⟨by decide, by omega⟩) d_Row_isFull_15
  · refine lv_iconst (v := nI 1) hx hb d_Row_isFull_10 (by decide) ?_
    refine lv_goto hx hb d_Row_isFull_11 (tgt := 15) (by decide) ?_
    exact hret _ _ _ (by decide) (Or.inl ⟨by decide, by omega⟩) d_Row_isFull_15
set_option maxHeartbeats 4000000 in
set_option maxRecDepth 100000 in
theorem c_Row_placeOf (la : Launch) (G : gG) (ro ak ac av n : Nat) (K : Nat → Nat) (key : Nat) (hn : n ≤ 500) (hK : bd K) (hkey : key < 2147483648) : MetR la y_Row_placeOf b_Row_placeOf 3 .int 0 0 [.ref ro, .int (nI key)] G [(ro, .inr (1, [.ref ak, .ref ac, .ref av, .int (nI n)])), (ak, .inl (G.2.1, 500, .inl (fun zz => nI (K zz))))] (fun r => ∃ p, atp n K key p ∧ r = nI p) := by
  refine MetR.mk (by decide +kernel) (Nat.le_of_ble_eq_true rfl) ?_
  intro p e s m below meth c Q ls S hP hk hs hret hl
  have hx := S.1
  have hb := S.2.1
  have hl : lv_has ls 3 [(0, .ref ro), (1, .int (nI key))] := hl
  refine lv_iconst (v := nI 0) hx hb d_Row_placeOf_0 (by decide) ?_
  refine lv_istore_n hx hb d_Row_placeOf_1 rfl hl (by decide) rfl (fun ls hl => ?_)
  have hl : lv_has ls 3 [(2, .int (nI 0)), (0, .ref ro), (1, .int (nI key))] := hl
  refine (?_ : ∀ (d : Nat) (q : Nat) (ls : Array Slot), n - q < d → lv_has ls 3 [(2, .int (nI q)), (0, .ref ro), (1, .int (nI key))] → (q ≤ n) → (∀ i, i < q → K i < key) → W p la e _ s m _ below meth c s.heap [] 0 0 Q (F0 m 2 ls [])) (n - 0 + 1) 0 ls (Nat.lt_succ_self _) hl (Nat.zero_le _) (fun i h => absurd h (Nat.not_lt_zero _))
  intro d
  induction d with
  | zero => intro q ls hd; exact absurd hd (Nat.not_lt_zero _)
  | succ d ih =>
    intro q ls hd hl hq hlt
    refine lv_iload_n hx hb d_Row_placeOf_2 rfl (lv_at hl 0 rfl) ?_
    refine lv_aload_n hx hb d_Row_placeOf_3 rfl (lv_at hl 1 rfl) ?_
    refine y_get S hk hP 0 rfl f_Row_21 rfl d_Row_placeOf_4 ?_
    refine x_icmp_ge hx hb d_Row_placeOf_7 (tgt := 26) (by decide) (by omega) (by omega) (fun h7 => ?_) (fun h7 => ?_)
    · refine lv_iload_n hx hb d_Row_placeOf_26 rfl (lv_at hl 0 rfl) ?_
      exact hret _ _ _ rfl (⟨q, ⟨hq, hlt, fun h => by first | exact absurd h (by omega) | exact h17⟩, rfl⟩) d_Row_placeOf_27
    · refine lv_aload_n hx hb d_Row_placeOf_10 rfl (lv_at hl 1 rfl) ?_
      refine y_get S hk hP 0 rfl f_Row_9 rfl d_Row_placeOf_11 ?_
      refine lv_iload_n hx hb d_Row_placeOf_14 rfl (lv_at hl 0 rfl) ?_
      refine y_ald hx hb hk hP 1 rfl (by omega) (by decide) d_Row_placeOf_15 ?_
      refine lv_iload_n hx hb d_Row_placeOf_16 rfl (lv_at hl 2 rfl) ?_
      refine x_icmp_ge hx hb d_Row_placeOf_17 (tgt := 26) (by decide) (hK _) (hkey) (fun h17 => ?_) (fun h17 => ?_)
      · refine lv_iload_n hx hb d_Row_placeOf_26 rfl (lv_at hl 0 rfl) ?_
        exact hret _ _ _ rfl (⟨q, ⟨hq, hlt, fun h => by first | exact absurd h (by omega) | exact h17⟩, rfl⟩) d_Row_placeOf_27
      · refine lv_iinc (v := nI (q + 1)) hx hb d_Row_placeOf_20 hl (k := 0) rfl (ii_p _ 1) (by decide) rfl (fun ls hl => ?_)
        have hl : lv_has ls 3 [(2, .int (nI (q + 1))), (0, .ref ro), (1, .int (nI key))] := hl
        refine lv_goto hx hb d_Row_placeOf_23 (tgt := 2) (by decide) ?_
        have hl := lv_sub hl [0, 1, 2] rfl
        exact ih (q + 1) _ (by omega) hl (by omega) (fun i h => by rcases Nat.lt_or_ge i q with g | g; exact hlt i g; obtain rfl : i = q := (by omega); exact h17)
set_option maxHeartbeats 4000000 in
set_option maxRecDepth 100000 in
theorem c_Row_isKeyAt (la : Launch) (G : gG) (ro ak ac av n : Nat) (K : Nat → Nat) (q key : Nat) (hn : n ≤ 500) (hK : bd K) (hq : q ≤ n) (hkey : key < 2147483648) : MetR la y_Row_isKeyAt b_Row_isKeyAt 3 .boolean 0 0 [.ref ro, .int (nI q), .int (nI key)] G [(ro, .inr (1, [.ref ak, .ref ac, .ref av, .int (nI n)])), (ak, .inl (G.2.1, 500, .inl (fun zz => nI (K zz))))] (fun r => (r = 1 ∧ q < n ∧ K q = key) ∨ (r = 0 ∧ ¬ (q < n ∧ K q = key))) := by
  refine MetR.mk (by decide +kernel) (Nat.le_of_ble_eq_true rfl) ?_
  intro p e s m below meth c Q ls S hP hk hs hret hl
  have hx := S.1
  have hb := S.2.1
  have hl : lv_has ls 3 [(0, .ref ro), (1, .int (nI q)), (2, .int (nI key))] := hl
  refine lv_iload_n hx hb d_Row_isKeyAt_0 rfl (lv_at hl 1 rfl) ?_
  refine lv_aload_n hx hb d_Row_isKeyAt_1 rfl (lv_at hl 0 rfl) ?_
  refine y_get S hk hP 0 rfl f_Row_21 rfl d_Row_isKeyAt_2 ?_
  refine x_icmp_ge hx hb d_Row_isKeyAt_5 (tgt := 22) (by decide) (by omega) (by omega) (fun h5 => ?_) (fun h5 => ?_)
  · refine lv_iconst (v := nI 0) hx hb d_Row_isKeyAt_22 (by decide) ?_
    exact hret _ _ _ (by decide) (Or.inr ⟨by decide, by first | exact fun z => h15 z.2 | exact fun z => absurd z.1 (by omega)⟩) d_Row_isKeyAt_23
  · refine lv_aload_n hx hb d_Row_isKeyAt_8 rfl (lv_at hl 0 rfl) ?_
    refine y_get S hk hP 0 rfl f_Row_9 rfl d_Row_isKeyAt_9 ?_
    refine lv_iload_n hx hb d_Row_isKeyAt_12 rfl (lv_at hl 1 rfl) ?_
    refine y_ald hx hb hk hP 1 rfl (by omega) (by decide) d_Row_isKeyAt_13 ?_
    refine lv_iload_n hx hb d_Row_isKeyAt_14 rfl (lv_at hl 2 rfl) ?_
    refine x_icmp_ne hx hb d_Row_isKeyAt_15 (tgt := 22) (by decide) (hK _) (hkey) (fun h15 => ?_) (fun h15 => ?_)
    · refine lv_iconst (v := nI 0) hx hb d_Row_isKeyAt_22 (by decide) ?_
      exact hret _ _ _ (by decide) (Or.inr ⟨by decide, by first | exact fun z => h15 z.2 | exact fun z => absurd z.1 (by omega)⟩) d_Row_isKeyAt_23
    · refine lv_iconst (v := nI 1) hx hb d_Row_isKeyAt_18 (by decide) ?_
      refine lv_goto hx hb d_Row_isKeyAt_19 (tgt := 23) (by decide) ?_
      exact hret _ _ _ (by decide) (Or.inl ⟨by decide, by omega, h15⟩) d_Row_isKeyAt_23
set_option maxHeartbeats 4000000 in
set_option maxRecDepth 100000 in
theorem c_Row_weightOf (la : Launch) (G : gG) (ro ak ac av n : Nat) (K V : Nat → Nat) (key : Nat) (hn : n ≤ 500) (hK : bd K) (hkey : key < 2147483648) : MetR la y_Row_weightOf b_Row_weightOf 3 .int 1 22 [.ref ro, .int (nI key)] G [(ro, .inr (1, [.ref ak, .ref ac, .ref av, .int (nI n)])), (ak, .inl (G.2.1, 500, .inl (fun zz => nI (K zz)))), (av, .inl (G.2.1, 500, .inl (fun zz => nI (V zz))))] (fun r => ∃ p, atp n K key p ∧ ((p < n ∧ K p = key ∧ r = nI (V p)) ∨ (¬ (p < n ∧ K p = key) ∧ r = nI 0))) := by
  refine MetR.mk (by decide +kernel) (Nat.le_of_ble_eq_true rfl) ?_
  intro p e s m below meth c Q ls S hP hk hs hret hl
  have hx := S.1
  have hb := S.2.1
  have hl : lv_has ls 3 [(0, .ref ro), (1, .int (nI key))] := hl
  refine lv_aload_n hx hb d_Row_weightOf_0 rfl (lv_at hl 0 rfl) ?_
  refine lv_iload_n hx hb d_Row_weightOf_1 rfl (lv_at hl 1 rfl) ?_
  refine vp_callSi (va_Run.run (run_V S v_Row_25 (c_Row_placeOf la G ro ak ac av n K key hn hK hkey) ⟨rfl, rfl⟩ ⟨Nat.le_of_ble_eq_true rfl, Nat.le_of_ble_eq_true rfl⟩ (preR_V hP hk hs [0, 1] rfl 0 rfl rfl) (rest := []) rfl hl.1 rfl (Nat.le_of_ble_eq_true rfl) d_Row_weightOf_2 ⟨Nat.le_refl _, Nat.le_refl _⟩)) (fun r1 hr1 => ?_)
  obtain ⟨q, hat, rfl⟩ := hr1
  have hq := hat.1
  refine lv_istore_n hx hb d_Row_weightOf_5 rfl hl (by decide) rfl (fun ls hl => ?_)
  have hl : lv_has ls 3 [(2, .int (nI q)), (0, .ref ro), (1, .int (nI key))] := hl
  refine lv_aload_n hx hb d_Row_weightOf_6 rfl (lv_at hl 1 rfl) ?_
  refine lv_iload_n hx hb d_Row_weightOf_7 rfl (lv_at hl 0 rfl) ?_
  refine lv_iload_n hx hb d_Row_weightOf_8 rfl (lv_at hl 2 rfl) ?_
  refine vp_callSi (va_Run.run (run_V S v_Row_29 (c_Row_isKeyAt la G ro ak ac av n K q key hn hK hq hkey) ⟨rfl, rfl⟩ ⟨Nat.le_of_ble_eq_true rfl, Nat.le_of_ble_eq_true rfl⟩ (preR_V hP hk hs [0, 1] rfl 0 rfl rfl) (rest := []) rfl hl.1 rfl (Nat.le_of_ble_eq_true rfl) d_Row_weightOf_9 ⟨Nat.le_refl _, Nat.le_refl _⟩)) (fun r2 hr2 => ?_)
  rcases hr2 with ⟨rfl, q1, q2⟩ | ⟨rfl, q1⟩
  · refine lv_if_eq hx hb d_Row_weightOf_12 (tgt := 24) (by decide) (fun h => absurd h (by decide)) (fun _ => ?_)
    refine lv_aload_n hx hb d_Row_weightOf_15 rfl (lv_at hl 1 rfl) ?_
    refine y_get S hk hP 0 rfl f_Row_18 rfl d_Row_weightOf_16 ?_
    refine lv_iload_n hx hb d_Row_weightOf_19 rfl (lv_at hl 0 rfl) ?_
    refine y_ald hx hb hk hP 2 rfl (by omega) (by decide) d_Row_weightOf_20 ?_
    refine lv_goto hx hb d_Row_weightOf_21 (tgt := 25) (by decide) ?_
    exact hret _ _ _ rfl (⟨q, hat, Or.inl ⟨q1, q2, rfl⟩⟩) d_Row_weightOf_25
  · refine lv_if_eq hx hb d_Row_weightOf_12 (tgt := 24) (by decide) (fun _ => ?_) (fun h => absurd (by decide) h)
    refine lv_iconst (v := nI 0) hx hb d_Row_weightOf_24 (by decide) ?_
    exact hret _ _ _ rfl (⟨q, hat, Or.inr ⟨q1, rfl⟩⟩) d_Row_weightOf_25
set_option maxHeartbeats 4000000 in
set_option maxRecDepth 100000 in
theorem c_Row_moveTail (la : Launch) (G : gG) (ro ak ac av n : Nat) (K C V : Nat → Nat) (i j : Nat) (hn : n ≤ 500) (hi : i ≤ n) (hj : j + (n - i) ≤ 500) : MetV la y_Row_moveTail b_Row_moveTail 4 1 60 0 0 [.ref ro, .int (nI i), .int (nI j)] G [(ro, .inr (1, [.ref ak, .ref ac, .ref av, .int (nI n)])), (ak, .inl (G.2.1, 500, .inl (fun zz => nI (K zz)))), (ac, .inl (G.2.1, 500, .inl (fun zz => nI (C zz)))), (av, .inl (G.2.1, 500, .inl (fun zz => nI (V zz))))] (S := Unit) (fun _ => True) (fun _ => [(ro, .inr (1, [.ref ak, .ref ac, .ref av, .int (nI n)])), (ak, .inl (G.2.1, 500, .inl (fun zz => nI ((va_cpy K K i j (n - i)) zz)))), (ac, .inl (G.2.1, 500, .inl (fun zz => nI ((va_cpy C C i j (n - i)) zz)))), (av, .inl (G.2.1, 500, .inl (fun zz => nI ((va_cpy V V i j (n - i)) zz))))]) := by
  refine MetV.mk (by decide +kernel) (Nat.le_of_ble_eq_true rfl) ?_
  intro p e s m below meth c Q A ls S hin hP hD hA hS hk hs hret hl
  have hx := S.1
  have hb := S.2.1
  have hP : va_P G.1 cls [(ro, .inr (1, [.ref ak, .ref ac, .ref av, .int (nI n)])), (ak, .inl (G.2.1, 500, .inl (fun zz => nI (K zz)))), (ac, .inl (G.2.1, 500, .inl (fun zz => nI (C zz)))), (av, .inl (G.2.1, 500, .inl (fun zz => nI (V zz))))] s.heap := hP
  have hD : va_D A [(ro, .inr (1, [.ref ak, .ref ac, .ref av, .int (nI n)])), (ak, .inl (G.2.1, 500, .inl (fun zz => nI (K zz)))), (ac, .inl (G.2.1, 500, .inl (fun zz => nI (C zz)))), (av, .inl (G.2.1, 500, .inl (fun zz => nI (V zz))))] := hD
  have hl : lv_has ls 4 [(0, .ref ro), (1, .int (nI i)), (2, .int (nI j))] := hl
  refine lv_aload_n hx hb d_Row_moveTail_0 rfl (lv_at hl 0 rfl) ?_
  refine y_get S hk hP 0 rfl f_Row_21 rfl d_Row_moveTail_1 ?_
  refine lv_iload_n hx hb d_Row_moveTail_4 rfl (lv_at hl 1 rfl) ?_
  refine x_isub hx hb d_Row_moveTail_5 (by omega) ?_
  refine lv_istore_n hx hb d_Row_moveTail_6 rfl hl (by decide) rfl (fun ls hl => ?_)
  have hl : lv_has ls 4 [(3, .int (nI (n - i))), (0, .ref ro), (1, .int (nI i)), (2, .int (nI j))] := hl
  refine lv_aload_n hx hb d_Row_moveTail_7 rfl (lv_at hl 1 rfl) ?_
  refine y_get S hk hP 0 rfl f_Row_9 rfl d_Row_moveTail_8 ?_
  refine lv_iload_n hx hb d_Row_moveTail_11 rfl (lv_at hl 2 rfl) ?_
  refine lv_aload_n hx hb d_Row_moveTail_12 rfl (lv_at hl 1 rfl) ?_
  refine y_get S hk hP 0 rfl f_Row_9 rfl d_Row_moveTail_13 ?_
  refine lv_iload_n hx hb d_Row_moveTail_16 rfl (lv_at hl 3 rfl) ?_
  refine lv_iload_n hx hb d_Row_moveTail_17 rfl (lv_at hl 0 rfl) ?_
  refine y_cpy S hl.1 hk hP hD hS 1 rfl (wq 140 (by decide +kernel)) (wq 142 (by decide +kernel)) (wq 141 (by decide +kernel)) (wq 37 (by decide +kernel)) (by omega) (by omega) (by decide) (Nat.le_of_ble_eq_true rfl) (Nat.le_of_ble_eq_true rfl) d_Row_moveTail_18 (fun H locs hP hD hS => ?_)
  have hP : va_P G.1 cls [(ro, .inr (1, [.ref ak, .ref ac, .ref av, .int (nI n)])), (ak, .inl (G.2.1, 500, .inl (fun zz => nI ((va_cpy K K i j (n - i)) zz)))), (ac, .inl (G.2.1, 500, .inl (fun zz => nI (C zz)))), (av, .inl (G.2.1, 500, .inl (fun zz => nI (V zz))))] H := hP
  have hD : va_D A [(ro, .inr (1, [.ref ak, .ref ac, .ref av, .int (nI n)])), (ak, .inl (G.2.1, 500, .inl (fun zz => nI ((va_cpy K K i j (n - i)) zz)))), (ac, .inl (G.2.1, 500, .inl (fun zz => nI (C zz)))), (av, .inl (G.2.1, 500, .inl (fun zz => nI (V zz))))] := hD
  refine lv_aload_n hx hb d_Row_moveTail_21 rfl (lv_at hl 1 rfl) ?_
  refine y_get S hk hP 0 rfl f_Row_15 rfl d_Row_moveTail_22 ?_
  refine lv_iload_n hx hb d_Row_moveTail_25 rfl (lv_at hl 2 rfl) ?_
  refine lv_aload_n hx hb d_Row_moveTail_26 rfl (lv_at hl 1 rfl) ?_
  refine y_get S hk hP 0 rfl f_Row_15 rfl d_Row_moveTail_27 ?_
  refine lv_iload_n hx hb d_Row_moveTail_30 rfl (lv_at hl 3 rfl) ?_
  refine lv_iload_n hx hb d_Row_moveTail_31 rfl (lv_at hl 0 rfl) ?_
  refine y_cpy S hl.1 hk hP hD hS 2 rfl (wq 140 (by decide +kernel)) (wq 142 (by decide +kernel)) (wq 141 (by decide +kernel)) (wq 37 (by decide +kernel)) (by omega) (by omega) (by decide) (Nat.le_of_ble_eq_true rfl) (Nat.le_of_ble_eq_true rfl) d_Row_moveTail_32 (fun H locs hP hD hS => ?_)
  have hP : va_P G.1 cls [(ro, .inr (1, [.ref ak, .ref ac, .ref av, .int (nI n)])), (ak, .inl (G.2.1, 500, .inl (fun zz => nI ((va_cpy K K i j (n - i)) zz)))), (ac, .inl (G.2.1, 500, .inl (fun zz => nI ((va_cpy C C i j (n - i)) zz)))), (av, .inl (G.2.1, 500, .inl (fun zz => nI (V zz))))] H := hP
  have hD : va_D A [(ro, .inr (1, [.ref ak, .ref ac, .ref av, .int (nI n)])), (ak, .inl (G.2.1, 500, .inl (fun zz => nI ((va_cpy K K i j (n - i)) zz)))), (ac, .inl (G.2.1, 500, .inl (fun zz => nI ((va_cpy C C i j (n - i)) zz)))), (av, .inl (G.2.1, 500, .inl (fun zz => nI (V zz))))] := hD
  refine lv_aload_n hx hb d_Row_moveTail_35 rfl (lv_at hl 1 rfl) ?_
  refine y_get S hk hP 0 rfl f_Row_18 rfl d_Row_moveTail_36 ?_
  refine lv_iload_n hx hb d_Row_moveTail_39 rfl (lv_at hl 2 rfl) ?_
  refine lv_aload_n hx hb d_Row_moveTail_40 rfl (lv_at hl 1 rfl) ?_
  refine y_get S hk hP 0 rfl f_Row_18 rfl d_Row_moveTail_41 ?_
  refine lv_iload_n hx hb d_Row_moveTail_44 rfl (lv_at hl 3 rfl) ?_
  refine lv_iload_n hx hb d_Row_moveTail_45 rfl (lv_at hl 0 rfl) ?_
  refine y_cpy S hl.1 hk hP hD hS 3 rfl (wq 140 (by decide +kernel)) (wq 142 (by decide +kernel)) (wq 141 (by decide +kernel)) (wq 37 (by decide +kernel)) (by omega) (by omega) (by decide) (Nat.le_of_ble_eq_true rfl) (Nat.le_of_ble_eq_true rfl) d_Row_moveTail_46 (fun H locs hP hD hS => ?_)
  have hP : va_P G.1 cls [(ro, .inr (1, [.ref ak, .ref ac, .ref av, .int (nI n)])), (ak, .inl (G.2.1, 500, .inl (fun zz => nI ((va_cpy K K i j (n - i)) zz)))), (ac, .inl (G.2.1, 500, .inl (fun zz => nI ((va_cpy C C i j (n - i)) zz)))), (av, .inl (G.2.1, 500, .inl (fun zz => nI ((va_cpy V V i j (n - i)) zz))))] H := hP
  have hD : va_D A [(ro, .inr (1, [.ref ak, .ref ac, .ref av, .int (nI n)])), (ak, .inl (G.2.1, 500, .inl (fun zz => nI ((va_cpy K K i j (n - i)) zz)))), (ac, .inl (G.2.1, 500, .inl (fun zz => nI ((va_cpy C C i j (n - i)) zz)))), (av, .inl (G.2.1, 500, .inl (fun zz => nI ((va_cpy V V i j (n - i)) zz))))] := hD
  exact hret _ _ () _ _ (trivial) hP hD hS d_Row_moveTail_49
set_option maxHeartbeats 4000000 in
set_option maxRecDepth 100000 in
theorem c_Row_keep (la : Launch) (G : gG) (ro ak ac av n : Nat) (K C V : Nat → Nat) (key cn w : Nat) (hn : n ≤ 500) (hK : bd K) (hkey : key < 2147483648) : MetV la y_Row_keep b_Row_keep 5 2 83 0 0 [.ref ro, .int (nI key), .int (nI cn), .int (nI w)] G [(ro, .inr (1, [.ref ak, .ref ac, .ref av, .int (nI n)])), (ak, .inl (G.2.1, 500, .inl (fun zz => nI (K zz)))), (ac, .inl (G.2.1, 500, .inl (fun zz => nI (C zz)))), (av, .inl (G.2.1, 500, .inl (fun zz => nI (V zz))))] (S := rS) (fun u => keepR n K C V key cn w u) (fun u => [(ro, .inr (1, [.ref ak, .ref ac, .ref av, .int (nI u.1)])), (ak, .inl (G.2.1, 500, .inl (fun zz => nI (u.2.1 zz)))), (ac, .inl (G.2.1, 500, .inl (fun zz => nI (u.2.2.1 zz)))), (av, .inl (G.2.1, 500, .inl (fun zz => nI (u.2.2.2 zz))))]) := by
  refine MetV.mk (by decide +kernel) (Nat.le_of_ble_eq_true rfl) ?_
  intro p e s m below meth c Q A ls S hin hP hD hA hS hk hs hret hl
  have hx := S.1
  have hb := S.2.1
  have hP : va_P G.1 cls [(ro, .inr (1, [.ref ak, .ref ac, .ref av, .int (nI n)])), (ak, .inl (G.2.1, 500, .inl (fun zz => nI (K zz)))), (ac, .inl (G.2.1, 500, .inl (fun zz => nI (C zz)))), (av, .inl (G.2.1, 500, .inl (fun zz => nI (V zz))))] s.heap := hP
  have hD : va_D A [(ro, .inr (1, [.ref ak, .ref ac, .ref av, .int (nI n)])), (ak, .inl (G.2.1, 500, .inl (fun zz => nI (K zz)))), (ac, .inl (G.2.1, 500, .inl (fun zz => nI (C zz)))), (av, .inl (G.2.1, 500, .inl (fun zz => nI (V zz))))] := hD
  have hl : lv_has ls 5 [(0, .ref ro), (1, .int (nI key)), (2, .int (nI cn)), (3, .int (nI w))] := hl
  refine lv_aload_n hx hb d_Row_keep_0 rfl (lv_at hl 0 rfl) ?_
  refine lv_iload_n hx hb d_Row_keep_1 rfl (lv_at hl 1 rfl) ?_
  refine vp_callSi (va_Run.run (run_V S v_Row_25 (c_Row_placeOf la G ro ak ac av n K key hn hK hkey) ⟨rfl, rfl⟩ ⟨Nat.le_of_ble_eq_true rfl, Nat.le_of_ble_eq_true rfl⟩ (preR_V hP hk (hs.kept (fun a h1 h2 => hS.2.1 a h1 h2)) [0, 1] rfl 0 rfl rfl) (rest := []) rfl hl.1 rfl (Nat.le_of_ble_eq_true rfl) d_Row_keep_2 ⟨Nat.le_of_ble_eq_true rfl, Nat.le_of_ble_eq_true rfl⟩)) (fun r1 hr1 => ?_)
  obtain ⟨q, hat, rfl⟩ := hr1
  have hq := hat.1
  refine lv_istore hx hb d_Row_keep_5 hl (by decide) rfl (fun ls hl => ?_)
  have hl : lv_has ls 5 [(4, .int (nI q)), (0, .ref ro), (1, .int (nI key)), (2, .int (nI cn)), (3, .int (nI w))] := hl
  refine lv_aload_n hx hb d_Row_keep_7 rfl (lv_at hl 1 rfl) ?_
  refine lv_iload hx hb d_Row_keep_8 (lv_at hl 0 rfl) ?_
  refine lv_iload_n hx hb d_Row_keep_10 rfl (lv_at hl 2 rfl) ?_
  refine vp_callSi (va_Run.run (run_V S v_Row_29 (c_Row_isKeyAt la G ro ak ac av n K q key hn hK hq hkey) ⟨rfl, rfl⟩ ⟨Nat.le_of_ble_eq_true rfl, Nat.le_of_ble_eq_true rfl⟩ (preR_V hP hk (hs.kept (fun a h1 h2 => hS.2.1 a h1 h2)) [0, 1] rfl 0 rfl rfl) (rest := []) rfl hl.1 rfl (Nat.le_of_ble_eq_true rfl) d_Row_keep_11 ⟨Nat.le_of_ble_eq_true rfl, Nat.le_of_ble_eq_true rfl⟩)) (fun r2 hr2 => ?_)
  rcases hr2 with ⟨rfl, q1, q2⟩ | ⟨rfl, q1⟩
  · refine lv_if_ne hx hb d_Row_keep_14 (tgt := 45) (by decide) (fun _ => ?_) (fun h => absurd h (by decide))
    refine lv_aload_n hx hb d_Row_keep_45 rfl (lv_at hl 1 rfl) ?_
    refine y_get S hk hP 0 rfl f_Row_9 rfl d_Row_keep_46 ?_
    refine lv_iload hx hb d_Row_keep_49 (lv_at hl 0 rfl) ?_
    refine lv_iload_n hx hb d_Row_keep_51 rfl (lv_at hl 2 rfl) ?_
    refine y_ast hx hb hk hP hD hS 1 rfl (by omega) (by decide) d_Row_keep_52 (fun H locs hP hD hS => ?_)
    have hP : va_P G.1 cls [(ro, .inr (1, [.ref ak, .ref ac, .ref av, .int (nI n)])), (ak, .inl (G.2.1, 500, .inl (fun zz => nI ((va_up K q key) zz)))), (ac, .inl (G.2.1, 500, .inl (fun zz => nI (C zz)))), (av, .inl (G.2.1, 500, .inl (fun zz => nI (V zz))))] H := hP
    have hD : va_D A [(ro, .inr (1, [.ref ak, .ref ac, .ref av, .int (nI n)])), (ak, .inl (G.2.1, 500, .inl (fun zz => nI ((va_up K q key) zz)))), (ac, .inl (G.2.1, 500, .inl (fun zz => nI (C zz)))), (av, .inl (G.2.1, 500, .inl (fun zz => nI (V zz))))] := hD
    refine lv_aload_n hx hb d_Row_keep_53 rfl (lv_at hl 1 rfl) ?_
    refine y_get S hk hP 0 rfl f_Row_15 rfl d_Row_keep_54 ?_
    refine lv_iload hx hb d_Row_keep_57 (lv_at hl 0 rfl) ?_
    refine lv_iload_n hx hb d_Row_keep_59 rfl (lv_at hl 3 rfl) ?_
    refine y_ast hx hb hk hP hD hS 2 rfl (by omega) (by decide) d_Row_keep_60 (fun H locs hP hD hS => ?_)
    have hP : va_P G.1 cls [(ro, .inr (1, [.ref ak, .ref ac, .ref av, .int (nI n)])), (ak, .inl (G.2.1, 500, .inl (fun zz => nI ((va_up K q key) zz)))), (ac, .inl (G.2.1, 500, .inl (fun zz => nI ((va_up C q cn) zz)))), (av, .inl (G.2.1, 500, .inl (fun zz => nI (V zz))))] H := hP
    have hD : va_D A [(ro, .inr (1, [.ref ak, .ref ac, .ref av, .int (nI n)])), (ak, .inl (G.2.1, 500, .inl (fun zz => nI ((va_up K q key) zz)))), (ac, .inl (G.2.1, 500, .inl (fun zz => nI ((va_up C q cn) zz)))), (av, .inl (G.2.1, 500, .inl (fun zz => nI (V zz))))] := hD
    refine lv_aload_n hx hb d_Row_keep_61 rfl (lv_at hl 1 rfl) ?_
    refine y_get S hk hP 0 rfl f_Row_18 rfl d_Row_keep_62 ?_
    refine lv_iload hx hb d_Row_keep_65 (lv_at hl 0 rfl) ?_
    refine lv_iload_n hx hb d_Row_keep_67 rfl (lv_at hl 4 rfl) ?_
    refine y_ast hx hb hk hP hD hS 3 rfl (by omega) (by decide) d_Row_keep_68 (fun H locs hP hD hS => ?_)
    have hP : va_P G.1 cls [(ro, .inr (1, [.ref ak, .ref ac, .ref av, .int (nI n)])), (ak, .inl (G.2.1, 500, .inl (fun zz => nI ((va_up K q key) zz)))), (ac, .inl (G.2.1, 500, .inl (fun zz => nI ((va_up C q cn) zz)))), (av, .inl (G.2.1, 500, .inl (fun zz => nI ((va_up V q w) zz))))] H := hP
    have hD : va_D A [(ro, .inr (1, [.ref ak, .ref ac, .ref av, .int (nI n)])), (ak, .inl (G.2.1, 500, .inl (fun zz => nI ((va_up K q key) zz)))), (ac, .inl (G.2.1, 500, .inl (fun zz => nI ((va_up C q cn) zz)))), (av, .inl (G.2.1, 500, .inl (fun zz => nI ((va_up V q w) zz))))] := hD
    exact hret _ _ (n, (va_up K q key), (va_up C q cn), (va_up V q w)) _ _ (⟨q, hat, by first | exact Or.inl ⟨q1, q2, rfl⟩ | exact Or.inr (Or.inl ⟨q1, q3, rfl⟩) | exact Or.inr (Or.inr ⟨q1, q3, rfl⟩)⟩) hP hD hS d_Row_keep_69
  · refine lv_if_ne hx hb d_Row_keep_14 (tgt := 45) (by decide) (fun h => absurd rfl h) (fun _ => ?_)
    refine lv_aload_n hx hb d_Row_keep_17 rfl (lv_at hl 1 rfl) ?_
    refine vp_callSi (va_Run.run (run_V S v_Row_33 (c_Row_isFull la G ro ak ac av n hn) ⟨rfl, rfl⟩ ⟨Nat.le_of_ble_eq_true rfl, Nat.le_of_ble_eq_true rfl⟩ (preR_V hP hk (hs.kept (fun a h1 h2 => hS.2.1 a h1 h2)) [0] rfl 0 rfl rfl) (rest := []) rfl hl.1 rfl (Nat.le_of_ble_eq_true rfl) d_Row_keep_18 ⟨Nat.le_of_ble_eq_true rfl, Nat.le_of_ble_eq_true rfl⟩)) (fun r3 hr3 => ?_)
    rcases hr3 with ⟨rfl, q3⟩ | ⟨rfl, q3⟩
    · refine lv_if_eq hx hb d_Row_keep_21 (tgt := 25) (by decide) (fun h => absurd h (by decide)) (fun _ => ?_)
      exact hret _ _ (n, K, C, V) _ _ (⟨q, hat, by first | exact Or.inl ⟨q1, q2, rfl⟩ | exact Or.inr (Or.inl ⟨q1, q3, rfl⟩) | exact Or.inr (Or.inr ⟨q1, q3, rfl⟩)⟩) hP hD hS d_Row_keep_24
    · refine lv_if_eq hx hb d_Row_keep_21 (tgt := 25) (by decide) (fun _ => ?_) (fun h => absurd (by decide) h)
      refine lv_aload_n hx hb d_Row_keep_25 rfl (lv_at hl 1 rfl) ?_
      refine lv_iload hx hb d_Row_keep_26 (lv_at hl 0 rfl) ?_
      refine lv_iload hx hb d_Row_keep_28 (lv_at hl 0 rfl) ?_
      refine lv_iconst (v := nI 1) hx hb d_Row_keep_30 (by decide) ?_
      refine x_iadd hx hb d_Row_keep_31 ?_
      refine eff_V (wr := []) (run_V S v_Row_37 (c_Row_moveTail la G ro ak ac av n K C V q (q + 1) hn (by omega) (by omega) _) ⟨rfl, rfl⟩ ⟨Nat.le_of_ble_eq_true rfl, Nat.le_of_ble_eq_true rfl⟩ (preW_V hP hD hA hS hk hs [0, 1, 2, 3] (by decide) rfl 0 rfl rfl) (rest := []) rfl hl.1 rfl (Nat.le_of_ble_eq_true rfl) d_Row_keep_32 ⟨Nat.le_of_ble_eq_true rfl, Nat.le_of_ble_eq_true rfl⟩) hP hD hA hS [0, 1, 2, 3] [] rfl rfl (by decide) (by decide) (fun u H locs hu hP hD hS => ?_)
      have hP : va_P G.1 cls [(ro, .inr (1, [.ref ak, .ref ac, .ref av, .int (nI n)])), (ak, .inl (G.2.1, 500, .inl (fun zz => nI ((va_cpy K K q (q + 1) (n - q)) zz)))), (ac, .inl (G.2.1, 500, .inl (fun zz => nI ((va_cpy C C q (q + 1) (n - q)) zz)))), (av, .inl (G.2.1, 500, .inl (fun zz => nI ((va_cpy V V q (q + 1) (n - q)) zz))))] H := hP
      have hD : va_D A [(ro, .inr (1, [.ref ak, .ref ac, .ref av, .int (nI n)])), (ak, .inl (G.2.1, 500, .inl (fun zz => nI ((va_cpy K K q (q + 1) (n - q)) zz)))), (ac, .inl (G.2.1, 500, .inl (fun zz => nI ((va_cpy C C q (q + 1) (n - q)) zz)))), (av, .inl (G.2.1, 500, .inl (fun zz => nI ((va_cpy V V q (q + 1) (n - q)) zz))))] := hD
      refine lv_aload_n hx hb d_Row_keep_35 rfl (lv_at hl 1 rfl) ?_
      refine lv_dup hx hb d_Row_keep_36 rfl ?_
      refine y_get S hk hP 0 rfl f_Row_21 rfl d_Row_keep_37 ?_
      refine lv_iconst (v := nI 1) hx hb d_Row_keep_40 (by decide) ?_
      refine x_iadd hx hb d_Row_keep_41 ?_
      refine y_put S hk hP hD hS 0 rfl f_Row_21 T_1 M_1_3 rfl rfl (Nat.le_of_ble_eq_true rfl) d_Row_keep_42 (fun H locs hP hD hS => ?_)
      have hP : va_P G.1 cls [(ro, .inr (1, [.ref ak, .ref ac, .ref av, .int (nI (n + 1))])), (ak, .inl (G.2.1, 500, .inl (fun zz => nI ((va_cpy K K q (q + 1) (n - q)) zz)))), (ac, .inl (G.2.1, 500, .inl (fun zz => nI ((va_cpy C C q (q + 1) (n - q)) zz)))), (av, .inl (G.2.1, 500, .inl (fun zz => nI ((va_cpy V V q (q + 1) (n - q)) zz))))] H := hP
      have hD : va_D A [(ro, .inr (1, [.ref ak, .ref ac, .ref av, .int (nI (n + 1))])), (ak, .inl (G.2.1, 500, .inl (fun zz => nI ((va_cpy K K q (q + 1) (n - q)) zz)))), (ac, .inl (G.2.1, 500, .inl (fun zz => nI ((va_cpy C C q (q + 1) (n - q)) zz)))), (av, .inl (G.2.1, 500, .inl (fun zz => nI ((va_cpy V V q (q + 1) (n - q)) zz))))] := hD
      refine lv_aload_n hx hb d_Row_keep_45 rfl (lv_at hl 1 rfl) ?_
      refine y_get S hk hP 0 rfl f_Row_9 rfl d_Row_keep_46 ?_
      refine lv_iload hx hb d_Row_keep_49 (lv_at hl 0 rfl) ?_
      refine lv_iload_n hx hb d_Row_keep_51 rfl (lv_at hl 2 rfl) ?_
      refine y_ast hx hb hk hP hD hS 1 rfl (by omega) (by decide) d_Row_keep_52 (fun H locs hP hD hS => ?_)
      have hP : va_P G.1 cls [(ro, .inr (1, [.ref ak, .ref ac, .ref av, .int (nI (n + 1))])), (ak, .inl (G.2.1, 500, .inl (fun zz => nI ((va_up (va_cpy K K q (q + 1) (n - q)) q key) zz)))), (ac, .inl (G.2.1, 500, .inl (fun zz => nI ((va_cpy C C q (q + 1) (n - q)) zz)))), (av, .inl (G.2.1, 500, .inl (fun zz => nI ((va_cpy V V q (q + 1) (n - q)) zz))))] H := hP
      have hD : va_D A [(ro, .inr (1, [.ref ak, .ref ac, .ref av, .int (nI (n + 1))])), (ak, .inl (G.2.1, 500, .inl (fun zz => nI ((va_up (va_cpy K K q (q + 1) (n - q)) q key) zz)))), (ac, .inl (G.2.1, 500, .inl (fun zz => nI ((va_cpy C C q (q + 1) (n - q)) zz)))), (av, .inl (G.2.1, 500, .inl (fun zz => nI ((va_cpy V V q (q + 1) (n - q)) zz))))] := hD
      refine lv_aload_n hx hb d_Row_keep_53 rfl (lv_at hl 1 rfl) ?_
      refine y_get S hk hP 0 rfl f_Row_15 rfl d_Row_keep_54 ?_
      refine lv_iload hx hb d_Row_keep_57 (lv_at hl 0 rfl) ?_
      refine lv_iload_n hx hb d_Row_keep_59 rfl (lv_at hl 3 rfl) ?_
      refine y_ast hx hb hk hP hD hS 2 rfl (by omega) (by decide) d_Row_keep_60 (fun H locs hP hD hS => ?_)
      have hP : va_P G.1 cls [(ro, .inr (1, [.ref ak, .ref ac, .ref av, .int (nI (n + 1))])), (ak, .inl (G.2.1, 500, .inl (fun zz => nI ((va_up (va_cpy K K q (q + 1) (n - q)) q key) zz)))), (ac, .inl (G.2.1, 500, .inl (fun zz => nI ((va_up (va_cpy C C q (q + 1) (n - q)) q cn) zz)))), (av, .inl (G.2.1, 500, .inl (fun zz => nI ((va_cpy V V q (q + 1) (n - q)) zz))))] H := hP
      have hD : va_D A [(ro, .inr (1, [.ref ak, .ref ac, .ref av, .int (nI (n + 1))])), (ak, .inl (G.2.1, 500, .inl (fun zz => nI ((va_up (va_cpy K K q (q + 1) (n - q)) q key) zz)))), (ac, .inl (G.2.1, 500, .inl (fun zz => nI ((va_up (va_cpy C C q (q + 1) (n - q)) q cn) zz)))), (av, .inl (G.2.1, 500, .inl (fun zz => nI ((va_cpy V V q (q + 1) (n - q)) zz))))] := hD
      refine lv_aload_n hx hb d_Row_keep_61 rfl (lv_at hl 1 rfl) ?_
      refine y_get S hk hP 0 rfl f_Row_18 rfl d_Row_keep_62 ?_
      refine lv_iload hx hb d_Row_keep_65 (lv_at hl 0 rfl) ?_
      refine lv_iload_n hx hb d_Row_keep_67 rfl (lv_at hl 4 rfl) ?_
      refine y_ast hx hb hk hP hD hS 3 rfl (by omega) (by decide) d_Row_keep_68 (fun H locs hP hD hS => ?_)
      have hP : va_P G.1 cls [(ro, .inr (1, [.ref ak, .ref ac, .ref av, .int (nI (n + 1))])), (ak, .inl (G.2.1, 500, .inl (fun zz => nI ((va_up (va_cpy K K q (q + 1) (n - q)) q key) zz)))), (ac, .inl (G.2.1, 500, .inl (fun zz => nI ((va_up (va_cpy C C q (q + 1) (n - q)) q cn) zz)))), (av, .inl (G.2.1, 500, .inl (fun zz => nI ((va_up (va_cpy V V q (q + 1) (n - q)) q w) zz))))] H := hP
      have hD : va_D A [(ro, .inr (1, [.ref ak, .ref ac, .ref av, .int (nI (n + 1))])), (ak, .inl (G.2.1, 500, .inl (fun zz => nI ((va_up (va_cpy K K q (q + 1) (n - q)) q key) zz)))), (ac, .inl (G.2.1, 500, .inl (fun zz => nI ((va_up (va_cpy C C q (q + 1) (n - q)) q cn) zz)))), (av, .inl (G.2.1, 500, .inl (fun zz => nI ((va_up (va_cpy V V q (q + 1) (n - q)) q w) zz))))] := hD
      exact hret _ _ (n + 1, (va_up (va_cpy K K q (q + 1) (n - q)) q key), (va_up (va_cpy C C q (q + 1) (n - q)) q cn), (va_up (va_cpy V V q (q + 1) (n - q)) q w)) _ _ (⟨q, hat, by first | exact Or.inl ⟨q1, q2, rfl⟩ | exact Or.inr (Or.inl ⟨q1, q3, rfl⟩) | exact Or.inr (Or.inr ⟨q1, q3, rfl⟩)⟩) hP hD hS d_Row_keep_69
set_option maxHeartbeats 4000000 in
set_option maxRecDepth 100000 in
theorem c_Row_drop (la : Launch) (G : gG) (ro ak ac av n : Nat) (K C V : Nat → Nat) (key : Nat) (hn : n ≤ 500) (hK : bd K) (hkey : key < 2147483648) : MetV la y_Row_drop b_Row_drop 3 2 83 0 0 [.ref ro, .int (nI key)] G [(ro, .inr (1, [.ref ak, .ref ac, .ref av, .int (nI n)])), (ak, .inl (G.2.1, 500, .inl (fun zz => nI (K zz)))), (ac, .inl (G.2.1, 500, .inl (fun zz => nI (C zz)))), (av, .inl (G.2.1, 500, .inl (fun zz => nI (V zz))))] (S := rS) (fun u => dropR n K C V key u) (fun u => [(ro, .inr (1, [.ref ak, .ref ac, .ref av, .int (nI u.1)])), (ak, .inl (G.2.1, 500, .inl (fun zz => nI (u.2.1 zz)))), (ac, .inl (G.2.1, 500, .inl (fun zz => nI (u.2.2.1 zz)))), (av, .inl (G.2.1, 500, .inl (fun zz => nI (u.2.2.2 zz))))]) := by
  refine MetV.mk (by decide +kernel) (Nat.le_of_ble_eq_true rfl) ?_
  intro p e s m below meth c Q A ls S hin hP hD hA hS hk hs hret hl
  have hx := S.1
  have hb := S.2.1
  have hP : va_P G.1 cls [(ro, .inr (1, [.ref ak, .ref ac, .ref av, .int (nI n)])), (ak, .inl (G.2.1, 500, .inl (fun zz => nI (K zz)))), (ac, .inl (G.2.1, 500, .inl (fun zz => nI (C zz)))), (av, .inl (G.2.1, 500, .inl (fun zz => nI (V zz))))] s.heap := hP
  have hD : va_D A [(ro, .inr (1, [.ref ak, .ref ac, .ref av, .int (nI n)])), (ak, .inl (G.2.1, 500, .inl (fun zz => nI (K zz)))), (ac, .inl (G.2.1, 500, .inl (fun zz => nI (C zz)))), (av, .inl (G.2.1, 500, .inl (fun zz => nI (V zz))))] := hD
  have hl : lv_has ls 3 [(0, .ref ro), (1, .int (nI key))] := hl
  refine lv_aload_n hx hb d_Row_drop_0 rfl (lv_at hl 0 rfl) ?_
  refine lv_iload_n hx hb d_Row_drop_1 rfl (lv_at hl 1 rfl) ?_
  refine vp_callSi (va_Run.run (run_V S v_Row_25 (c_Row_placeOf la G ro ak ac av n K key hn hK hkey) ⟨rfl, rfl⟩ ⟨Nat.le_of_ble_eq_true rfl, Nat.le_of_ble_eq_true rfl⟩ (preR_V hP hk (hs.kept (fun a h1 h2 => hS.2.1 a h1 h2)) [0, 1] rfl 0 rfl rfl) (rest := []) rfl hl.1 rfl (Nat.le_of_ble_eq_true rfl) d_Row_drop_2 ⟨Nat.le_of_ble_eq_true rfl, Nat.le_of_ble_eq_true rfl⟩)) (fun r1 hr1 => ?_)
  obtain ⟨q, hat, rfl⟩ := hr1
  have hq := hat.1
  refine lv_istore_n hx hb d_Row_drop_5 rfl hl (by decide) rfl (fun ls hl => ?_)
  have hl : lv_has ls 3 [(2, .int (nI q)), (0, .ref ro), (1, .int (nI key))] := hl
  refine lv_aload_n hx hb d_Row_drop_6 rfl (lv_at hl 1 rfl) ?_
  refine lv_iload_n hx hb d_Row_drop_7 rfl (lv_at hl 0 rfl) ?_
  refine lv_iload_n hx hb d_Row_drop_8 rfl (lv_at hl 2 rfl) ?_
  refine vp_callSi (va_Run.run (run_V S v_Row_29 (c_Row_isKeyAt la G ro ak ac av n K q key hn hK hq hkey) ⟨rfl, rfl⟩ ⟨Nat.le_of_ble_eq_true rfl, Nat.le_of_ble_eq_true rfl⟩ (preR_V hP hk (hs.kept (fun a h1 h2 => hS.2.1 a h1 h2)) [0, 1] rfl 0 rfl rfl) (rest := []) rfl hl.1 rfl (Nat.le_of_ble_eq_true rfl) d_Row_drop_9 ⟨Nat.le_of_ble_eq_true rfl, Nat.le_of_ble_eq_true rfl⟩)) (fun r2 hr2 => ?_)
  rcases hr2 with ⟨rfl, q1, q2⟩ | ⟨rfl, q1⟩
  · refine lv_if_eq hx hb d_Row_drop_12 (tgt := 33) (by decide) (fun h => absurd h (by decide)) (fun _ => ?_)
    refine lv_aload_n hx hb d_Row_drop_15 rfl (lv_at hl 1 rfl) ?_
    refine lv_iload_n hx hb d_Row_drop_16 rfl (lv_at hl 0 rfl) ?_
    refine lv_iconst (v := nI 1) hx hb d_Row_drop_17 (by decide) ?_
    refine x_iadd hx hb d_Row_drop_18 ?_
    refine lv_iload_n hx hb d_Row_drop_19 rfl (lv_at hl 0 rfl) ?_
    refine eff_V (wr := []) (run_V S v_Row_37 (c_Row_moveTail la G ro ak ac av n K C V (q + 1) q hn (by omega) (by omega) _) ⟨rfl, rfl⟩ ⟨Nat.le_of_ble_eq_true rfl, Nat.le_of_ble_eq_true rfl⟩ (preW_V hP hD hA hS hk hs [0, 1, 2, 3] (by decide) rfl 0 rfl rfl) (rest := []) rfl hl.1 rfl (Nat.le_of_ble_eq_true rfl) d_Row_drop_20 ⟨Nat.le_of_ble_eq_true rfl, Nat.le_of_ble_eq_true rfl⟩) hP hD hA hS [0, 1, 2, 3] [] rfl rfl (by decide) (by decide) (fun u H locs hu hP hD hS => ?_)
    have hP : va_P G.1 cls [(ro, .inr (1, [.ref ak, .ref ac, .ref av, .int (nI n)])), (ak, .inl (G.2.1, 500, .inl (fun zz => nI ((va_cpy K K (q + 1) q (n - (q + 1))) zz)))), (ac, .inl (G.2.1, 500, .inl (fun zz => nI ((va_cpy C C (q + 1) q (n - (q + 1))) zz)))), (av, .inl (G.2.1, 500, .inl (fun zz => nI ((va_cpy V V (q + 1) q (n - (q + 1))) zz))))] H := hP
    have hD : va_D A [(ro, .inr (1, [.ref ak, .ref ac, .ref av, .int (nI n)])), (ak, .inl (G.2.1, 500, .inl (fun zz => nI ((va_cpy K K (q + 1) q (n - (q + 1))) zz)))), (ac, .inl (G.2.1, 500, .inl (fun zz => nI ((va_cpy C C (q + 1) q (n - (q + 1))) zz)))), (av, .inl (G.2.1, 500, .inl (fun zz => nI ((va_cpy V V (q + 1) q (n - (q + 1))) zz))))] := hD
    refine lv_aload_n hx hb d_Row_drop_23 rfl (lv_at hl 1 rfl) ?_
    refine lv_dup hx hb d_Row_drop_24 rfl ?_
    refine y_get S hk hP 0 rfl f_Row_21 rfl d_Row_drop_25 ?_
    refine lv_iconst (v := nI 1) hx hb d_Row_drop_28 (by decide) ?_
    refine x_isub hx hb d_Row_drop_29 (by omega) ?_
    refine y_put S hk hP hD hS 0 rfl f_Row_21 T_1 M_1_3 rfl rfl (Nat.le_of_ble_eq_true rfl) d_Row_drop_30 (fun H locs hP hD hS => ?_)
    have hP : va_P G.1 cls [(ro, .inr (1, [.ref ak, .ref ac, .ref av, .int (nI (n - 1))])), (ak, .inl (G.2.1, 500, .inl (fun zz => nI ((va_cpy K K (q + 1) q (n - (q + 1))) zz)))), (ac, .inl (G.2.1, 500, .inl (fun zz => nI ((va_cpy C C (q + 1) q (n - (q + 1))) zz)))), (av, .inl (G.2.1, 500, .inl (fun zz => nI ((va_cpy V V (q + 1) q (n - (q + 1))) zz))))] H := hP
    have hD : va_D A [(ro, .inr (1, [.ref ak, .ref ac, .ref av, .int (nI (n - 1))])), (ak, .inl (G.2.1, 500, .inl (fun zz => nI ((va_cpy K K (q + 1) q (n - (q + 1))) zz)))), (ac, .inl (G.2.1, 500, .inl (fun zz => nI ((va_cpy C C (q + 1) q (n - (q + 1))) zz)))), (av, .inl (G.2.1, 500, .inl (fun zz => nI ((va_cpy V V (q + 1) q (n - (q + 1))) zz))))] := hD
    exact hret _ _ (n - 1, (va_cpy K K (q + 1) q (n - (q + 1))), (va_cpy C C (q + 1) q (n - (q + 1))), (va_cpy V V (q + 1) q (n - (q + 1)))) _ _ (⟨q, hat, by first | exact Or.inl ⟨q1, q2, rfl⟩ | exact Or.inr ⟨q1, rfl⟩⟩) hP hD hS d_Row_drop_33
  · refine lv_if_eq hx hb d_Row_drop_12 (tgt := 33) (by decide) (fun _ => ?_) (fun h => absurd (by decide) h)
    exact hret _ _ (n, K, C, V) _ _ (⟨q, hat, by first | exact Or.inl ⟨q1, q2, rfl⟩ | exact Or.inr ⟨q1, rfl⟩⟩) hP hD hS d_Row_drop_33
