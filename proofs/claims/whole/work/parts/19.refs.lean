/-! contracts of methods that answer a new object -/
abbrev MetQ (la : Launch) (y : MethodName) (cc : ByteArray) (maxL : Nat) (ty : FieldType) (fr lo mc ms : Nat) (av : List Value) (G : gG) (wc : va_W) {S : Type} (post : S → Prop) (B : S → Nat → va_W) : Prop :=
  ∀ sz : Nat, Met la y (Cond.code y cc maxL (some ty) :: wg) { frames := fr, cells := mc, slots := ms, locals := lo } (va_Pc av (woP G wc sz)) (va_Qr post (fun u a t => va_P G.1 cls (B u a) t.heap ∧ va_D (va_A wc sz) (B u a)) (va_A wc sz)) mc ms (va_A wc sz)
theorem MetQ.mk {la : Launch} {y : MethodName} {cc : ByteArray} {maxL : Nat} {C : String} {fr lo mc ms : Nat} {av : List Value} {G : gG} {wc : va_W} {S : Type} {post : S → Prop} {B : S → Nat → va_W} (hy : plainName y.cls = true) (hlen : (lg_sl av).length ≤ maxL)
    (body : ∀ (p : Program) (e : Env) (s : State) (m : MethodId) (below : List Frame) (meth : Method) (c : Code) (Q : State → Prop) (A : Nat → Prop) (ls : Array Slot),
      CallFix p m c cc maxL s av.toArray (Cond.code y cc maxL (some (.object C)) :: wg) y.cls → va_P G.1 cls wc s.heap → va_D A wc → (∀ q, s.heap.size ≤ q → A q) → va_S A s.heap s.heap [] → kx G s → sx G A s s.heap →
      (∀ (pc : Nat) (ls : Array Slot) (u : S) (a : Nat) (H : Heap) (locs : List Loc), post u → va_P G.1 cls (B u a) H → va_D A (B u a) → va_S A s.heap H locs → decode cc pc = .ok (.areturn, 1) → W p la e { frames := fr, cells := mc, slots := ms, locals := lo } s m av.toArray below meth c H locs mc ms Q (F0 m pc ls [.ref a])) →
      lv_has ls maxL (lv_args 0 av) → W p la e { frames := fr, cells := mc, slots := ms, locals := lo } s m av.toArray below meth c s.heap [] 0 0 Q (F0 m 0 ls [])) : MetQ la y cc maxL (.object C) fr lo mc ms av G wc post B := by
  intro sz
  refine Met.ofW (cc := cc) (maxL := maxL) (ret := some (.object C)) hy rfl ?_
  intro p e s m args below meth c s₁ X hml hv
  obtain ⟨rfl, hsz, hP, hD, hk, hs⟩ := hv
  have hx := X.exec
  have hb := X.bytes
  have hr := X.returns
  have hlocks := X.notSynchronized
  rw [lg_entry_eq]
  subst hsz
  exact body p e s m below meth c _ _ _ ⟨hx, hb, hml, findClass_of_methodNamed X.named, atoms_spec X.pre⟩ hP hD.self (fun q h => Or.inr h) va_S.rf hk hs (fun pc ls u a H locs hp hP' hD' hS' hd => W.aret hx hb hr (Or.inl ⟨C, rfl⟩) (Or.inr ⟨a, rfl⟩) (fun t ht _ => ⟨⟨u, a, rfl, hp, by rw [ht]; exact hP', hD'⟩, hS'.F ht⟩) hS'.2.2 hd hlocks) (lv_entry av hlen)
section XQ
variable {p : Program} {la : Launch} {e : Env} {R : Room} {s : State} {m : MethodId} {args : Array Value} {below : List Frame} {meth : Method} {c : Code} {H : Heap} {locs : List Loc} {cells slots : Nat} {Q : State → Prop} {mc ms pc : Nat} {rest st0 : List Value} {ls : Array Slot}
theorem eff_Q {G : gG} {ws wc wr : va_W} {A : Nat → Prop} {S : Type} {post : S → Prop} {B : S → Nat → va_W} {a : Array Value} (hr : va_Run p la e R s m args below meth c H locs cells slots mc ms (F0 m pc ls st0) rest (va_Qr post (fun u a t => va_P G.1 cls (B u a) t.heap ∧ va_D (va_A wc H.size) (B u a)) (va_A wc H.size) a) (va_A wc H.size))
    (hP : va_P G.1 cls ws H) (hD : va_D A ws) (hA : ∀ q, s.heap.size ≤ q → A q) (hS : va_S A s.heap H locs) (isC isR : List Nat) (hC : isC.map (fun i => ws[i]?) = wc.map some) (hR : isR.map (fun i => ws[i]?) = wr.map some) (hn : va_nd isR = true) (hdis : ∀ i ∈ isR, i ∉ isC)
    (kk : ∀ (b : Nat) (u : S) (H1 : Heap) (locs1 : List Loc), post u → va_P G.1 cls (wr ++ B u b) H1 → va_D A (wr ++ B u b) → va_S A s.heap H1 locs1 → W p la e R s m args below meth c H1 locs1 (cells + mc) (slots + ms) Q (F0 m (pc + 3) ls (.ref b :: rest))) : W p la e R s m args below meth c H locs cells slots Q (F0 m pc ls st0) := by
  have hF := va_free hD hS hA isC hC
  refine va_callr hr hS (fun q _ h => hF q h) hF (fun u b t H1 locs1 ht hvm hp hB hz hk hS1 => ?_)
  obtain ⟨hP1, hD1⟩ := hB
  rw [ht] at hP1
  obtain ⟨h1, h2⟩ := va_join hP hD isC isR hC hR hn hdis hk hF hP1 hD1
  exact kk b u H1 locs1 hp h1 h2 hS1
end XQ
theorem oI_inc1 (n : Nat) : oI n + nI 1 = nI n := oI_inc n
