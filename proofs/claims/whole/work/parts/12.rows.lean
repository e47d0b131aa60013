/-! rows over the kit's: numbers as naturals; contracts of methods that only read (MetR, MetL), of those that write (MetW, MetV), and their calls -/
/-- what one run of the law fixes: the classes' numbers and slots, the class of int arrays, the three static tables' cells -/
abbrev gG : Type := va_G × ClassId × Nat × Nat × Nat
def kx (G : gG) (U : State) : Prop := va_K G.1 cls [(G.2.1, .int)] U ∧ ∀ w ∈ nws, va_Nw w U
def sx1 (n : String) (t : Nat) (f : Nat → Nat) (A : Nat → Prop) (U : State) (H : Heap) : Prop := va_Z R_CI n "[I" (.ref t) A U H ∧ va_T .int t 20 (fun j => .int (nI (f j))) A U H
def sx (G : gG) (A : Nat → Prop) (U : State) (H : Heap) : Prop := sx1 "STEP_OF_QUARTER" G.2.2.1 tSQ A U H ∧ sx1 "QUARTER_OF_STEP" G.2.2.2.1 tQS A U H ∧ sx1 "STATE_AFTER_STEP" G.2.2.2.2 tSS A U H
theorem sx.moved {G : gG} {A : Nat → Prop} {u U : State} {H : Heap} (hvm : u.vm.Alike U.vm) (h : sx G A u H) : sx G A U H := ⟨⟨h.1.1.moved hvm, h.1.2.moved hvm⟩, ⟨h.2.1.1.moved hvm, h.2.1.2.moved hvm⟩, ⟨h.2.2.1.moved hvm, h.2.2.2.moved hvm⟩⟩
theorem sx.kept {G : gG} {A : Nat → Prop} {U : State} {H H1 : Heap} (h : sx G A U H) (hq : ∀ a : Nat, a < H.size → ¬ A a → H1[a]? = H[a]?) : sx G A U H1 := ⟨⟨h.1.1.kept hq, h.1.2.kept hq⟩, ⟨h.2.1.1.kept hq, h.2.1.2.kept hq⟩, ⟨h.2.2.1.kept hq, h.2.2.2.kept hq⟩⟩
theorem sx.narrow {G : gG} {A B : Nat → Prop} {U : State} {H : Heap} (h : sx G A U H) (hAB : ∀ q, B q → A q) : sx G B U H := ⟨⟨h.1.1.narrow hAB, h.1.2.narrow hAB⟩, ⟨h.2.1.1.narrow hAB, h.2.1.2.narrow hAB⟩, ⟨h.2.2.1.narrow hAB, h.2.2.2.narrow hAB⟩⟩
theorem kx.blind {G : gG} {U : State} (h : kx G U) (g : JFrame) (mk : MethodId) (a : Array Value) : kx G (U.calling g mk a) := ⟨va_K.moved (u := U) (U := U.calling g mk a) (Vm.Alike.refl U.vm) h.1, fun w hw => va_Nw.same (nws_tab w hw) (u := U) (U := U.calling g mk a) rfl (h.2 w hw)⟩
theorem kx.warm {G : gG} {s U : State} (hW : s.WarmedH U.vm) (h : kx G s) : kx G U := ⟨va_K.moved hW.alike h.1, fun w hw => nws_warm hW w hw (h.2 w hw)⟩
theorem sx.blind {G : gG} {A : Nat → Prop} {U : State} {H : Heap} (h : sx G A U H) (g : JFrame) (mk : MethodId) (a : Array Value) : sx G A (U.calling g mk a) H := sx.moved (u := U) (U := U.calling g mk a) (Vm.Alike.refl U.vm) h
/-- a reading method's start -/
abbrev roP (G : gG) (wc : va_W) : State → Prop := fun U => va_P G.1 cls wc U.heap ∧ kx G U ∧ sx G (fun _ => False) U U.heap
theorem roP.blind {G : gG} {wc : va_W} {av : List Value} : FrameBlind (va_Pc av (roP G wc)) := fun a U g mk q => ⟨q.1, q.2.1, q.2.2.1.blind g mk a, q.2.2.2.blind g mk a⟩
theorem roP.of {G : gG} {wc ws : va_W} {H : Heap} {s : State} {A : Nat → Prop} (hP : va_P G.1 cls ws H) (hk : kx G s) (hs : sx G A s H) (is : List Nat) (his : is.filterMap (fun i => ws[i]?) = wc) : ∀ U : State, U.heap = H → s.WarmedH U.vm → roP G wc U := fun U hU hW => ⟨by rw [hU]; exact hP.sub is his, hk.warm hW, by rw [hU]; exact (hs.moved hW.alike).narrow (fun _ h => h.elim)⟩
abbrev MetR (la : Launch) (y : MethodName) (cc : ByteArray) (maxL : Nat) (ty : FieldType) (fr lo : Nat) (av : List Value) (G : gG) (wc : va_W) (post : Int32 → Prop) : Prop :=
  Met la y (Cond.code y cc maxL (some ty) :: wg) { frames := fr, cells := 0, slots := 0, locals := lo } (va_Pc av (roP G wc)) (vp_Si post) 0 0 (fun _ => False)
abbrev MetL (la : Launch) (y : MethodName) (cc : ByteArray) (maxL : Nat) (fr lo : Nat) (av : List Value) (G : gG) (wc : va_W) (post : Int64 → Prop) : Prop :=
  Met la y (Cond.code y cc maxL (some .long) :: wg) { frames := fr, cells := 0, slots := 0, locals := lo } (va_Pc av (roP G wc)) (vp_Sl post) 0 0 (fun _ => False)
theorem MetR.mk {la : Launch} {y : MethodName} {cc : ByteArray} {maxL : Nat} {ty : FieldType} {fr lo : Nat} {av : List Value} {G : gG} {wc : va_W} {post : Int32 → Prop} (hy : plainName y.cls = true) (hlen : (lg_sl av).length ≤ maxL)
    (body : ∀ (p : Program) (e : Env) (s : State) (m : MethodId) (below : List Frame) (meth : Method) (c : Code) (Q : State → Prop) (ls : Array Slot),
      CallFix p m c cc maxL s av.toArray (Cond.code y cc maxL (some ty) :: wg) y.cls → va_P G.1 cls wc s.heap → kx G s → sx G (fun _ => False) s s.heap →
      (∀ (pc : Nat) (ls : Array Slot) (v : Int32), narrow ty (.int v) = .int v → post v → decode cc pc = .ok (.ireturn, 1) → W p la e { frames := fr, cells := 0, slots := 0, locals := lo } s m av.toArray below meth c s.heap [] 0 0 Q (F0 m pc ls [.int v])) →
      lv_has ls maxL (lv_args 0 av) → W p la e { frames := fr, cells := 0, slots := 0, locals := lo } s m av.toArray below meth c s.heap [] 0 0 Q (F0 m 0 ls [])) : MetR la y cc maxL ty fr lo av G wc post := by
  refine Met.ofW (cc := cc) (maxL := maxL) (ret := some ty) hy rfl ?_
  intro p e s m args below meth c s₁ B hml hv
  obtain ⟨rfl, hP, hk, hs⟩ := hv
  have hx := B.exec
  have hb := B.bytes
  have hr := B.returns
  have hlocks := B.notSynchronized
  rw [lg_entry_eq]
  exact body p e s m below meth c _ _ ⟨hx, hb, hml, findClass_of_methodNamed B.named, atoms_spec B.pre⟩ hP hk hs (fun pc ls v hn hp hd => W.zret hx hb hr hn (fun t ht _ => ⟨v, rfl, hp, ht⟩) (fun q h => by cases h) hd hlocks) (lv_entry av hlen)
theorem MetL.mk {la : Launch} {y : MethodName} {cc : ByteArray} {maxL : Nat} {fr lo : Nat} {av : List Value} {G : gG} {wc : va_W} {post : Int64 → Prop} (hy : plainName y.cls = true) (hlen : (lg_sl av).length ≤ maxL)
    (body : ∀ (p : Program) (e : Env) (s : State) (m : MethodId) (below : List Frame) (meth : Method) (c : Code) (Q : State → Prop) (ls : Array Slot),
      CallFix p m c cc maxL s av.toArray (Cond.code y cc maxL (some .long) :: wg) y.cls → va_P G.1 cls wc s.heap → kx G s → sx G (fun _ => False) s s.heap →
      (∀ (pc : Nat) (ls : Array Slot) (v : Int64), post v → decode cc pc = .ok (.lreturn, 1) → W p la e { frames := fr, cells := 0, slots := 0, locals := lo } s m av.toArray below meth c s.heap [] 0 0 Q (F0 m pc ls [.long v])) →
      lv_has ls maxL (lv_args 0 av) → W p la e { frames := fr, cells := 0, slots := 0, locals := lo } s m av.toArray below meth c s.heap [] 0 0 Q (F0 m 0 ls [])) : MetL la y cc maxL fr lo av G wc post := by
  refine Met.ofW (cc := cc) (maxL := maxL) (ret := some .long) hy rfl ?_
  intro p e s m args below meth c s₁ B hml hv
  obtain ⟨rfl, hP, hk, hs⟩ := hv
  have hx := B.exec
  have hb := B.bytes
  have hr := B.returns
  have hlocks := B.notSynchronized
  rw [lg_entry_eq]
  exact body p e s m below meth c _ _ ⟨hx, hb, hml, findClass_of_methodNamed B.named, atoms_spec B.pre⟩ hP hk hs (fun pc ls v hp hd => W.lret hx hb hr (fun t ht _ => ⟨v, rfl, hp, ht⟩) (fun q h => by cases h) hd hlocks) (lv_entry av hlen)
/-- a writing method's start and end -/
abbrev woP (G : gG) (wc : va_W) (sz : Nat) : State → Prop := fun U => U.heap.size = sz ∧ va_P G.1 cls wc U.heap ∧ va_D (fun _ => True) wc ∧ kx G U ∧ sx G (va_A wc sz) U U.heap
theorem woP.blind {G : gG} {wc : va_W} {sz : Nat} {av : List Value} : FrameBlind (va_Pc av (woP G wc sz)) := fun a U g mk q => ⟨q.1, q.2.1, q.2.2.1, q.2.2.2.1, q.2.2.2.2.1.blind g mk a, q.2.2.2.2.2.blind g mk a⟩
abbrev woQ {S : Type} (G : gG) (wc : va_W) (sz : Nat) (B : S → va_W) : S → State → Prop := fun u t => va_P G.1 cls (B u) t.heap ∧ va_D (va_A wc sz) (B u)
abbrev MetW (la : Launch) (y : MethodName) (cc : ByteArray) (maxL : Nat) (ty : FieldType) (fr lo mc ms : Nat) (av : List Value) (G : gG) (wc : va_W) {S : Type} (post : Int32 → S → Prop) (B : S → va_W) : Prop :=
  ∀ sz : Nat, Met la y (Cond.code y cc maxL (some ty) :: wg) { frames := fr, cells := mc, slots := ms, locals := lo } (va_Pc av (woP G wc sz)) (va_Qi post (woQ G wc sz B) (va_A wc sz)) mc ms (va_A wc sz)
abbrev MetV (la : Launch) (y : MethodName) (cc : ByteArray) (maxL : Nat) (fr lo mc ms : Nat) (av : List Value) (G : gG) (wc : va_W) {S : Type} (post : S → Prop) (B : S → va_W) : Prop :=
  ∀ sz : Nat, Met la y (Cond.code y cc maxL none :: wg) { frames := fr, cells := mc, slots := ms, locals := lo } (va_Pc av (woP G wc sz)) (va_Qv post (woQ G wc sz B) (va_A wc sz)) mc ms (va_A wc sz)
theorem MetW.mk {la : Launch} {y : MethodName} {cc : ByteArray} {maxL : Nat} {ty : FieldType} {fr lo mc ms : Nat} {av : List Value} {G : gG} {wc : va_W} {S : Type} {post : Int32 → S → Prop} {B : S → va_W} (hy : plainName y.cls = true) (hlen : (lg_sl av).length ≤ maxL)
    (body : ∀ (p : Program) (e : Env) (s : State) (m : MethodId) (below : List Frame) (meth : Method) (c : Code) (Q : State → Prop) (A : Nat → Prop) (ls : Array Slot),
      CallFix p m c cc maxL s av.toArray (Cond.code y cc maxL (some ty) :: wg) y.cls → va_P G.1 cls wc s.heap → va_D A wc → (∀ q, s.heap.size ≤ q → A q) → va_S A s.heap s.heap [] → kx G s → sx G A s s.heap →
      (∀ (pc : Nat) (ls : Array Slot) (v : Int32) (u : S) (H : Heap) (locs : List Loc), narrow ty (.int v) = .int v → post v u → va_P G.1 cls (B u) H → va_D A (B u) → va_S A s.heap H locs → decode cc pc = .ok (.ireturn, 1) → W p la e { frames := fr, cells := mc, slots := ms, locals := lo } s m av.toArray below meth c H locs mc ms Q (F0 m pc ls [.int v])) →
      lv_has ls maxL (lv_args 0 av) → W p la e { frames := fr, cells := mc, slots := ms, locals := lo } s m av.toArray below meth c s.heap [] 0 0 Q (F0 m 0 ls [])) : MetW la y cc maxL ty fr lo mc ms av G wc post B := by
  intro sz
  refine Met.ofW (cc := cc) (maxL := maxL) (ret := some ty) hy rfl ?_
  intro p e s m args below meth c s₁ X hml hv
  obtain ⟨rfl, hsz, hP, hD, hk, hs⟩ := hv
  have hx := X.exec
  have hb := X.bytes
  have hr := X.returns
  have hlocks := X.notSynchronized
  rw [lg_entry_eq]
  subst hsz
  exact body p e s m below meth c _ _ _ ⟨hx, hb, hml, findClass_of_methodNamed X.named, atoms_spec X.pre⟩ hP hD.self (fun q h => Or.inr h) va_S.rf hk hs (fun pc ls v u H locs hn hp hP' hD' hS' hd => W.zret hx hb hr hn (fun t ht _ => ⟨⟨v, u, rfl, hp, by rw [ht]; exact hP', hD'⟩, hS'.F ht⟩) hS'.2.2 hd hlocks) (lv_entry av hlen)
theorem MetV.mk {la : Launch} {y : MethodName} {cc : ByteArray} {maxL : Nat} {fr lo mc ms : Nat} {av : List Value} {G : gG} {wc : va_W} {S : Type} {post : S → Prop} {B : S → va_W} (hy : plainName y.cls = true) (hlen : (lg_sl av).length ≤ maxL)
    (body : ∀ (p : Program) (e : Env) (s : State) (m : MethodId) (below : List Frame) (meth : Method) (c : Code) (Q : State → Prop) (A : Nat → Prop) (ls : Array Slot),
      CallFix p m c cc maxL s av.toArray (Cond.code y cc maxL none :: wg) y.cls → meth.name = y.name → va_P G.1 cls wc s.heap → va_D A wc → (∀ q, s.heap.size ≤ q → A q) → va_S A s.heap s.heap [] → kx G s → sx G A s s.heap →
      (∀ (pc : Nat) (ls : Array Slot) (u : S) (H : Heap) (locs : List Loc), post u → va_P G.1 cls (B u) H → va_D A (B u) → va_S A s.heap H locs → decode cc pc = .ok (.return_, 1) → W p la e { frames := fr, cells := mc, slots := ms, locals := lo } s m av.toArray below meth c H locs mc ms Q (F0 m pc ls [])) →
      lv_has ls maxL (lv_args 0 av) → W p la e { frames := fr, cells := mc, slots := ms, locals := lo } s m av.toArray below meth c s.heap [] 0 0 Q (F0 m 0 ls [])) : MetV la y cc maxL fr lo mc ms av G wc post B := by
  intro sz
  refine Met.ofW (cc := cc) (maxL := maxL) (ret := none) hy rfl ?_
  intro p e s m args below meth c s₁ X hml hv
  obtain ⟨rfl, hsz, hP, hD, hk, hs⟩ := hv
  have hx := X.exec
  have hb := X.bytes
  have hr := X.returns
  have hlocks := X.notSynchronized
  rw [lg_entry_eq]
  subst hsz
  exact body p e s m below meth c _ _ _ ⟨hx, hb, hml, findClass_of_methodNamed X.named, atoms_spec X.pre⟩ (name_of_methodNamed X.named X.method).1 hP hD.self (fun q h => Or.inr h) va_S.rf hk hs (fun pc ls u H locs hp hP' hD' hS' hd => W.vret hx hb hr (fun t ht _ => ⟨⟨u, rfl, hp, by rw [ht]; exact hP', hD'⟩, hS'.F ht⟩) hS'.2.2 hd hlocks) (lv_entry av hlen)
