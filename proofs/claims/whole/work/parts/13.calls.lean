/-! calls: the words of a call site (wV: own class's or public; wVN: a nest mate's private; wS, wSN static; wI, wIN constructors), and how a call goes -/
theorem good_all {k0 k : Cond} (h : k ∈ wg) (hc : k2_isCode k = true) : GoodIn (k0 :: wg) (k :: wg) := by
  intro w hw
  rcases List.mem_cons.mp hw with rfl | hw
  · exact ⟨List.mem_cons_of_mem _ h, by cases w <;> first | (simp [k2_isCode] at hc; done) | exact Or.inl rfl⟩
  · exact ⟨List.mem_cons_of_mem _ hw, wg_good w hw⟩
abbrev wD (y : MethodName) (n : Nat) : Prop := y.cls ≠ "java/lang/invoke/MethodHandle" ∧ y.cls ≠ "java/lang/invoke/VarHandle" ∧ (parseMethodDescriptor y.desc).map (fun d => d.parameters.length) = some n
abbrev wB (y : MethodName) (cc : ByteArray) (maxL : Nat) (ret : Option FieldType) (n : Nat) : Prop := Cond.initialized y.cls ∈ wg ∧ Cond.code y cc maxL ret ∈ wg ∧ wD y n
def wV (own : String) (idx : Nat) (y : MethodName) (cc : ByteArray) (maxL : Nat) (ret : Option FieldType) (n : Nat) : Prop := wB y cc maxL ret n ∧ Cond.methodLink own idx y ∈ wg ∧ Cond.instanceMethod y ∈ wg ∧ Cond.selects y.cls y y ∈ wg
def wVN (own : String) (idx : Nat) (y : MethodName) (cc : ByteArray) (maxL : Nat) (ret : Option FieldType) (n : Nat) : Prop := wB y cc maxL ret n ∧ Cond.methodLinkNest own idx y R_CI ∈ nws ∧ Cond.instanceMethod y ∈ wg ∧ Cond.selects y.cls y y ∈ wg
def wS (own : String) (idx : Nat) (y : MethodName) (cc : ByteArray) (maxL : Nat) (ret : Option FieldType) (n : Nat) : Prop := wB y cc maxL ret n ∧ Cond.methodLink own idx y ∈ wg ∧ Cond.static y ∈ wg
def wSN (own : String) (idx : Nat) (y : MethodName) (cc : ByteArray) (maxL : Nat) (ret : Option FieldType) (n : Nat) : Prop := wB y cc maxL ret n ∧ Cond.methodLinkNest own idx y R_CI ∈ nws ∧ Cond.static y ∈ wg
def wI (own : String) (idx : Nat) (y : MethodName) (cc : ByteArray) (maxL : Nat) (n : Nat) : Prop := wB y cc maxL none n ∧ Cond.methodLink own idx y ∈ wg ∧ Cond.instanceMethod y ∈ wg ∧ y.name = "<init>"
def wIN (own : String) (idx : Nat) (y : MethodName) (cc : ByteArray) (maxL : Nat) (n : Nat) : Prop := wB y cc maxL none n ∧ Cond.methodLinkNest own idx y R_CI ∈ nws ∧ Cond.instanceMethod y ∈ wg ∧ y.name = "<init>"
section XC
variable {p : Program} {la : Launch} {e : Env} {R : Room} {s : State} {m : MethodId} {args : Array Value} {below : List Frame} {meth : Method} {c : Code} {H : Heap} {locs : List Loc} {cells slots : Nat} {Q : State → Prop}
variable {y : MethodName} {ccY cc : ByteArray} {maxY nL mc ms n idx pc : Nat} {ret : Option FieldType} {rm : Room} {Pc : Array Value → State → Prop} {Qc : Array Value → State → Outcome → State → Prop} {free : Addr → Prop} {k0 : Cond} {own : String} {b : Addr} {As rest st0 : List Value} {ls : Array Slot}
theorem cb_of {k0 : Cond} (ht : ∀ w ∈ k0 :: wg, w.before args s = true) (hw : wB y ccY maxY ret n) (hl : Cond.methodLink own idx y ∈ wg) (hrm : rm.cells = mc ∧ rm.slots = ms) (hR : rm.frames + 1 ≤ R.frames ∧ 8 + (maxY + 11) + rm.locals ≤ R.locals) : CallB R s args own idx y ccY maxY ret (Cond.code y ccY maxY ret :: wg) rm mc ms n :=
  callB_of n ht (good_all hw.2.1 rfl) rfl hrm.1 hrm.2 (ht _ (List.mem_cons_of_mem _ hw.1)) (ht _ (List.mem_cons_of_mem _ hl)) hw.2.2 hR
theorem cn_of {k0 : Cond} {G : gG} (ht : ∀ w ∈ k0 :: wg, w.before args s = true) (hk : kx G s) (hw : wB y ccY maxY ret n) (hl : Cond.methodLinkNest own idx y R_CI ∈ nws) (hrm : rm.cells = mc ∧ rm.slots = ms) (hR : rm.frames + 1 ≤ R.frames ∧ 8 + (maxY + 11) + rm.locals ≤ R.locals) : va_CN R s args own idx y R_CI ccY maxY ret (Cond.code y ccY maxY ret :: wg) rm mc ms n :=
  va_cnB n ht (good_all hw.2.1 rfl) rfl hrm.1 hrm.2 (hk.2 _ hl) (ht _ (List.mem_cons_of_mem _ hw.1)) hw.2.2 hR
theorem run_V (S : CallFix p m c cc nL s args (k0 :: wg) own) (hw : wV own idx y ccY maxY ret n) (hM : Met la y (Cond.code y ccY maxY ret :: wg) rm Pc Qc mc ms free) (hrm : rm.cells = mc ∧ rm.slots = ms) (hR : rm.frames + 1 ≤ R.frames ∧ 8 + (maxY + 11) + rm.locals ≤ R.locals) (hp : PreV s H y.cls b Pc As)
    (hn : As.length = n) (hsize : ls.size = nL) (hst : st0 = As.reverse ++ .ref b :: rest) (hro : (rest.map fun v => v.category).sum ≤ 8) (hdg : decode cc pc = .ok (.invokevirtual idx, 3)) (hf : cells + mc ≤ R.cells ∧ slots + ms ≤ R.slots) :
    va_Run p la e R s m args below meth c H locs cells slots mc ms (F0 m pc ls st0) rest (Qc (Value.ref b :: As).toArray) free :=
  va_runV S hM ⟨cb_of S.2.2.2.2 hw.1 hw.2.1 hrm hR, S.2.2.2.2 _ (List.mem_cons_of_mem _ hw.2.2.1), S.2.2.2.2 _ (List.mem_cons_of_mem _ hw.2.2.2)⟩ hp rfl hn hsize hst (lv_room hro) hdg hf
theorem run_VN {G : gG} (S : CallFix p m c cc nL s args (k0 :: wg) own) (hk : kx G s) (hw : wVN own idx y ccY maxY ret n) (hM : Met la y (Cond.code y ccY maxY ret :: wg) rm Pc Qc mc ms free) (hrm : rm.cells = mc ∧ rm.slots = ms) (hR : rm.frames + 1 ≤ R.frames ∧ 8 + (maxY + 11) + rm.locals ≤ R.locals) (hp : PreV s H y.cls b Pc As)
    (hn : As.length = n) (hsize : ls.size = nL) (hst : st0 = As.reverse ++ .ref b :: rest) (hro : (rest.map fun v => v.category).sum ≤ 8) (hdg : decode cc pc = .ok (.invokevirtual idx, 3)) (hf : cells + mc ≤ R.cells ∧ slots + ms ≤ R.slots) :
    va_Run p la e R s m args below meth c H locs cells slots mc ms (F0 m pc ls st0) rest (Qc (Value.ref b :: As).toArray) free :=
  va_runVN S hM ⟨cn_of S.2.2.2.2 hk hw.1 hw.2.1 hrm hR, S.2.2.2.2 _ (List.mem_cons_of_mem _ hw.2.2.1), S.2.2.2.2 _ (List.mem_cons_of_mem _ hw.2.2.2)⟩ hp rfl hn hsize hst (lv_room hro) hdg hf
theorem run_S (S : CallFix p m c cc nL s args (k0 :: wg) own) (hw : wS own idx y ccY maxY ret n) (hM : Met la y (Cond.code y ccY maxY ret :: wg) rm Pc Qc mc ms free) (hrm : rm.cells = mc ∧ rm.slots = ms) (hR : rm.frames + 1 ≤ R.frames ∧ 8 + (maxY + 11) + rm.locals ≤ R.locals) (hp : PreS s H Pc As)
    (hn : As.length = n) (hsize : ls.size = nL) (hst : st0 = As.reverse ++ rest) (hro : (rest.map fun v => v.category).sum ≤ 8) (hdg : decode cc pc = .ok (.invokestatic idx, 3)) (hf : cells + mc ≤ R.cells ∧ slots + ms ≤ R.slots) :
    va_Run p la e R s m args below meth c H locs cells slots mc ms (F0 m pc ls st0) rest (Qc As.toArray) free :=
  va_runS S hM ⟨cb_of S.2.2.2.2 hw.1 hw.2.1 hrm hR, S.2.2.2.2 _ (List.mem_cons_of_mem _ hw.2.2)⟩ hp rfl hn hsize hst (lv_room hro) hdg hf
theorem run_SN {G : gG} (S : CallFix p m c cc nL s args (k0 :: wg) own) (hk : kx G s) (hw : wSN own idx y ccY maxY ret n) (hM : Met la y (Cond.code y ccY maxY ret :: wg) rm Pc Qc mc ms free) (hrm : rm.cells = mc ∧ rm.slots = ms) (hR : rm.frames + 1 ≤ R.frames ∧ 8 + (maxY + 11) + rm.locals ≤ R.locals) (hp : PreS s H Pc As)
    (hn : As.length = n) (hsize : ls.size = nL) (hst : st0 = As.reverse ++ rest) (hro : (rest.map fun v => v.category).sum ≤ 8) (hdg : decode cc pc = .ok (.invokestatic idx, 3)) (hf : cells + mc ≤ R.cells ∧ slots + ms ≤ R.slots) :
    va_Run p la e R s m args below meth c H locs cells slots mc ms (F0 m pc ls st0) rest (Qc As.toArray) free :=
  va_runSN S hM ⟨cn_of S.2.2.2.2 hk hw.1 hw.2.1 hrm hR, S.2.2.2.2 _ (List.mem_cons_of_mem _ hw.2.2), trivial⟩ hp rfl hn hsize hst (lv_room hro) hdg hf
theorem run_I (S : CallFix p m c cc nL s args (k0 :: wg) own) (hw : wI own idx y ccY maxY n) (hM : Met la y (Cond.code y ccY maxY none :: wg) rm Pc Qc mc ms free) (hrm : rm.cells = mc ∧ rm.slots = ms) (hR : rm.frames + 1 ≤ R.frames ∧ 8 + (maxY + 11) + rm.locals ≤ R.locals) (hp : PreS s H Pc (.ref b :: As))
    (hn : As.length = n) (hsize : ls.size = nL) (hst : st0 = As.reverse ++ .ref b :: rest) (hro : (rest.map fun v => v.category).sum ≤ 8) (hdg : decode cc pc = .ok (.invokespecial idx, 3)) (hf : cells + mc ≤ R.cells ∧ slots + ms ≤ R.slots) :
    va_Run p la e R s m args below meth c H locs cells slots mc ms (F0 m pc ls st0) rest (Qc (Value.ref b :: As).toArray) free :=
  va_runI S hM ⟨cb_of S.2.2.2.2 hw.1 hw.2.1 hrm hR, hw.2.2.2, S.2.2.2.2 _ (List.mem_cons_of_mem _ hw.2.2.1)⟩ hp rfl hn hsize hst (lv_room hro) hdg hf
theorem run_IN {G : gG} (S : CallFix p m c cc nL s args (k0 :: wg) own) (hk : kx G s) (hw : wIN own idx y ccY maxY n) (hM : Met la y (Cond.code y ccY maxY none :: wg) rm Pc Qc mc ms free) (hrm : rm.cells = mc ∧ rm.slots = ms) (hR : rm.frames + 1 ≤ R.frames ∧ 8 + (maxY + 11) + rm.locals ≤ R.locals) (hp : PreS s H Pc (.ref b :: As))
    (hn : As.length = n) (hsize : ls.size = nL) (hst : st0 = As.reverse ++ .ref b :: rest) (hro : (rest.map fun v => v.category).sum ≤ 8) (hdg : decode cc pc = .ok (.invokespecial idx, 3)) (hf : cells + mc ≤ R.cells ∧ slots + ms ≤ R.slots) :
    va_Run p la e R s m args below meth c H locs cells slots mc ms (F0 m pc ls st0) rest (Qc (Value.ref b :: As).toArray) free :=
  va_runIN S hM ⟨cn_of S.2.2.2.2 hk hw.1 hw.2.1 hrm hR, hw.2.2.2, S.2.2.2.2 _ (List.mem_cons_of_mem _ hw.2.2.1)⟩ hp rfl hn hsize hst (lv_room hro) hdg hf
/-- a reading method's start, at a call -/
theorem preR_V {G : gG} {ws wc : va_W} {A : Nat → Prop} {C : String} (hP : va_P G.1 cls ws H) (hk : kx G s) (hs : sx G A s H) (is : List Nat) (his : is.filterMap (fun i => ws[i]?) = wc) (q0 : Nat) {ci : Nat} {fs : List Value} {T : u_T} {N : Nat} (he : ws[q0]? = some (b, .inr (ci, fs))) (hc : cls[ci]? = some (C, T, N)) : PreV s H C b (va_Pc (.ref b :: As) (roP G wc)) As :=
  ⟨roP.blind, va_recv hk.1 hP hc he, fun U hU hW => ⟨rfl, roP.of hP hk hs is his U hU hW⟩⟩
theorem preR_S {G : gG} {ws wc : va_W} {A : Nat → Prop} (hP : va_P G.1 cls ws H) (hk : kx G s) (hs : sx G A s H) (is : List Nat) (his : is.filterMap (fun i => ws[i]?) = wc) : PreS s H (va_Pc As (roP G wc)) As :=
  ⟨roP.blind, fun U hU hW => ⟨rfl, roP.of hP hk hs is his U hU hW⟩⟩
/-- a writing method's -/
theorem woP.of {G : gG} {ws wc : va_W} {A : Nat → Prop} (hP : va_P G.1 cls ws H) (hD : va_D A ws) (hA : ∀ q, s.heap.size ≤ q → A q) (hS : va_S A s.heap H locs) (hk : kx G s) (hs : sx G A s s.heap) (is : List Nat) (hnd : va_nd is = true) (hC : is.map (fun i => ws[i]?) = wc.map some) : ∀ U : State, U.heap = H → s.WarmedH U.vm → woP G wc H.size U := by
  intro U hU hW
  have hC2 : is.filterMap (fun i => ws[i]?) = wc := by
    have h1 : (is.map (fun i => ws[i]?)).filterMap id = wc := by rw [hC]; simp
    rw [← h1, List.filterMap_map]; rfl
  refine ⟨by rw [hU], by rw [hU]; exact hP.sub is hC2, (hD.sub is hnd hC).weaken (fun _ _ _ _ => trivial), hk.warm hW, ?_⟩
  rw [hU]
  exact ((hs.kept (fun a h1 h2 => hS.2.1 a h1 h2)).moved hW.alike).narrow (va_free hD hS hA is hC)
theorem preW_V {G : gG} {ws wc : va_W} {A : Nat → Prop} {C : String} (hP : va_P G.1 cls ws H) (hD : va_D A ws) (hA : ∀ q, s.heap.size ≤ q → A q) (hS : va_S A s.heap H locs) (hk : kx G s) (hs : sx G A s s.heap) (is : List Nat) (hnd : va_nd is = true) (hC : is.map (fun i => ws[i]?) = wc.map some) (q0 : Nat) {ci : Nat} {fs : List Value} {T : u_T} {N : Nat} (he : ws[q0]? = some (b, .inr (ci, fs))) (hc : cls[ci]? = some (C, T, N)) : PreV s H C b (va_Pc (.ref b :: As) (woP G wc H.size)) As :=
  ⟨woP.blind, va_recv hk.1 hP hc he, fun U hU hW => ⟨rfl, woP.of hP hD hA hS hk hs is hnd hC U hU hW⟩⟩
theorem preW_S {G : gG} {ws wc : va_W} {A : Nat → Prop} (hP : va_P G.1 cls ws H) (hD : va_D A ws) (hA : ∀ q, s.heap.size ≤ q → A q) (hS : va_S A s.heap H locs) (hk : kx G s) (hs : sx G A s s.heap) (is : List Nat) (hnd : va_nd is = true) (hC : is.map (fun i => ws[i]?) = wc.map some) : PreS s H (va_Pc As (woP G wc H.size)) As :=
  ⟨woP.blind, fun U hU hW => ⟨rfl, woP.of hP hD hA hS hk hs is hnd hC U hU hW⟩⟩
/-- behind a writing method's call: what it gives stands behind the rest -/
theorem eff_W {G : gG} {ws wc wr : va_W} {A : Nat → Prop} {S : Type} {post : Int32 → S → Prop} {B : S → va_W} {a : Array Value} (hr : va_Run p la e R s m args below meth c H locs cells slots mc ms (F0 m pc ls st0) rest (va_Qi post (woQ G wc H.size B) (va_A wc H.size) a) (va_A wc H.size))
    (hP : va_P G.1 cls ws H) (hD : va_D A ws) (hA : ∀ q, s.heap.size ≤ q → A q) (hS : va_S A s.heap H locs) (isC isR : List Nat) (hC : isC.map (fun i => ws[i]?) = wc.map some) (hR : isR.map (fun i => ws[i]?) = wr.map some) (hn : va_nd isR = true) (hdis : ∀ i ∈ isR, i ∉ isC)
    (kk : ∀ (r : Int32) (u : S) (H1 : Heap) (locs1 : List Loc), post r u → va_P G.1 cls (wr ++ B u) H1 → va_D A (wr ++ B u) → va_S A s.heap H1 locs1 → W p la e R s m args below meth c H1 locs1 (cells + mc) (slots + ms) Q (F0 m (pc + 3) ls (.int r :: rest))) : W p la e R s m args below meth c H locs cells slots Q (F0 m pc ls st0) := by
  have hF := va_free hD hS hA isC hC
  refine va_calli hr hS (fun q _ h => hF q h) hF (fun r u t H1 locs1 ht hvm hp hB hz hk hS1 => ?_)
  obtain ⟨hP1, hD1⟩ := hB
  rw [ht] at hP1
  obtain ⟨h1, h2⟩ := va_join hP hD isC isR hC hR hn hdis hk hF hP1 hD1
  exact kk r u H1 locs1 hp h1 h2 hS1
theorem eff_V {G : gG} {ws wc wr : va_W} {A : Nat → Prop} {S : Type} {post : S → Prop} {B : S → va_W} {a : Array Value} (hr : va_Run p la e R s m args below meth c H locs cells slots mc ms (F0 m pc ls st0) rest (va_Qv post (woQ G wc H.size B) (va_A wc H.size) a) (va_A wc H.size))
    (hP : va_P G.1 cls ws H) (hD : va_D A ws) (hA : ∀ q, s.heap.size ≤ q → A q) (hS : va_S A s.heap H locs) (isC isR : List Nat) (hC : isC.map (fun i => ws[i]?) = wc.map some) (hR : isR.map (fun i => ws[i]?) = wr.map some) (hn : va_nd isR = true) (hdis : ∀ i ∈ isR, i ∉ isC)
    (kk : ∀ (u : S) (H1 : Heap) (locs1 : List Loc), post u → va_P G.1 cls (wr ++ B u) H1 → va_D A (wr ++ B u) → va_S A s.heap H1 locs1 → W p la e R s m args below meth c H1 locs1 (cells + mc) (slots + ms) Q (F0 m (pc + 3) ls rest)) : W p la e R s m args below meth c H locs cells slots Q (F0 m pc ls st0) := by
  have hF := va_free hD hS hA isC hC
  refine va_callv hr hS (fun q _ h => hF q h) hF (fun u t H1 locs1 ht hvm hp hB hz hk hS1 => ?_)
  obtain ⟨hP1, hD1⟩ := hB
  rw [ht] at hP1
  obtain ⟨h1, h2⟩ := va_join hP hD isC isR hC hR hn hdis hk hF hP1 hD1
  exact kk u H1 locs1 hp h1 h2 hS1
end XC
