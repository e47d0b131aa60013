/-! the law's script -/
theorem gt5 {sl i : Nat} (h1 : sl ≤ 2560) (h2 : i ≤ 2560) (h : ¬ nI sl - nI 5 < nI i) : i + 5 ≤ sl := by
  rw [Int32.lt_iff_toInt_lt, pk_sub_toInt (by omega) (by omega), nI_toInt (by omega)] at h
  omega
theorem and15 (x : Int32) : ∃ j : Nat, j < 16 ∧ x &&& nI 15 = nI j := pk_andE x 4 (by decide)
section XS
variable {p : Program} {la : Launch} {e : Env} {R : Room} {s : State} {m : MethodId} {args : Array Value} {below : List Frame} {meth : Method} {c : Code} {H : Heap} {locs : List Loc} {cells slots : Nat} {Q : State → Prop}
variable {cc : ByteArray} {pc : Nat} {ls : Array Slot} {rest : List Value} {A : Nat → Prop} {b sl : Nat} {xs : Nat → Int32}
theorem y_sld (hx : p.tables.exec = Jvm.exec) (hb : c.code = cc) (hX : va_X b sl xs s s.heap) (hbl : b < s.heap.size) (hbA : ¬ A b) (hS : va_S A s.heap H locs) {i : Nat} (hi : i < sl) (hsl : sl ≤ 2560) (hdg : decode cc pc = .ok (.iaload, 1))
    (kk : W p la e R s m args below meth c H locs cells slots Q (F0 m (pc + 1) ls (.int (xs i) :: rest))) : W p la e R s m args below meth c H locs cells slots Q (F0 m pc ls (.int (nI i) :: .ref b :: rest)) := by
  refine va_sld hx hb hX hbl hbA hS (vp_in_nI hi (by omega)) hdg ?_
  rw [nI_clamp (by omega)]
  exact kk
theorem y_slen (hx : p.tables.exec = Jvm.exec) (hb : c.code = cc) (hX : va_X b sl xs s s.heap) (hbl : b < s.heap.size) (hbA : ¬ A b) (hS : va_S A s.heap H locs) (hdg : decode cc pc = .ok (.arraylength, 1))
    (kk : W p la e R s m args below meth c H locs cells slots Q (F0 m (pc + 1) ls (.int (nI sl) :: rest))) : W p la e R s m args below meth c H locs cells slots Q (F0 m pc ls (.ref b :: rest)) := va_slen hx hb hX hbl hbA hS hdg kk
end XS
