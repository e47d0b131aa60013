/-! new objects, new arrays, arraycopy -/
def zf : Nat → Nat := fun _ => 0
theorem bd_zf : bd zf := fun _ => by show 0 < 2147483648; omega
theorem i_one {G : gG} {s : State} (hk : kx G s) {cA : ClassId} (h : va_K G.1 cls ([(G.2.1, .int)] ++ [(cA, .int)]) s) : cA = G.2.1 := by
  have h1 : s.vm.findClass ("[" ++ FieldType.int.toString) = some G.2.1 := (hk.1.2 0 (G.2.1, .int) rfl).2
  have h2 : s.vm.findClass ("[" ++ FieldType.int.toString) = some cA := (h.2 1 (cA, .int) rfl).2
  exact Option.some.inj (h2.symm.trans h1)
section XO
variable {p : Program} {la : Launch} {e : Env} {R : Room} {s : State} {m : MethodId} {args : Array Value} {below : List Frame} {meth : Method} {c : Code} {H : Heap} {locs : List Loc} {cells slots : Nat} {Q : State → Prop}
variable {cc : ByteArray} {pc nL idx ci a : Nat} {ls : Array Slot} {rest : List Value} {own : String} {k0 : Cond} {G : gG} {ws : va_W} {A : Nat → Prop}
theorem y_new (S : CallFix p m c cc nL s args (k0 :: wg) own) (hk : kx G s) (hP : va_P G.1 cls ws H) (hD : va_D A ws) (hA : ∀ q, s.heap.size ≤ q → A q) (hS : va_S A s.heap H locs) {C : String} {T : u_T} {N : Nat} (hc : cls[ci]? = some (C, T, N)) (hin : ∀ w ∈ u_ws C T N, w ∈ wg) {ty : Nat → FieldType} (hT : fT ci ty) (hcl : Cond.classLink own idx C ∈ wg) (hinst : Cond.instantiable C N ∈ wg) (hini : Cond.initialized C ∈ wg)
    {fs : List Value} (hfs : ∀ j, j < N → defaultValue (ty j) = vp_V fs j) (hcells : cells + 1 ≤ R.cells) (hslots : slots + N ≤ R.slots) (hdg : decode cc pc = .ok (.new idx, 3))
    (kk : ∀ (q : Nat) (H : Heap), va_P G.1 cls (ws ++ [(q, .inr (ci, fs))]) H → va_D A (ws ++ [(q, .inr (ci, fs))]) → va_S A s.heap H locs → W p la e R s m args below meth c H locs (cells + 1) (slots + N) Q (F0 m (pc + 3) ls (.ref q :: rest))) : W p la e R s m args below meth c H locs cells slots Q (F0 m pc ls rest) := by
  obtain ⟨C', T', N', g1, g2, g3⟩ := hT
  cases hc.symm.trans g1
  exact va_new S.1 S.2.1 S.2.2.2.2 (fun w hw => List.mem_cons_of_mem _ (hin w hw)) ty g2 S.2.2.2.1 (S.2.2.2.2 _ (List.mem_cons_of_mem _ hcl)) (S.2.2.2.2 _ (List.mem_cons_of_mem _ hinst)) (S.2.2.2.2 _ (List.mem_cons_of_mem _ hini)) hk.1 hP hD hS hA hc hfs hcells hslots hdg kk
theorem y_newa (S : CallFix p m c cc nL s args (k0 :: wg) own) (hk : kx G s) (hP : va_P G.1 cls ws H) (hD : va_D A ws) (hA : ∀ q, s.heap.size ≤ q → A q) (hS : va_S A s.heap H locs) (harr : Cond.arrayClass .int ∈ wg) {N : Nat} (hN : N * 4 ≤ 536870912) (hcells : cells + 1 ≤ R.cells) (hslots : slots + N ≤ R.slots) (hdg : decode cc pc = .ok (.newarray .int, 2))
    (kk : ∀ (q : Nat) (H : Heap), va_P G.1 cls (ws ++ [(q, .inl (G.2.1, N, .inl (fun j => nI (zf j))))]) H → va_D A (ws ++ [(q, .inl (G.2.1, N, .inl (fun j => nI (zf j))))]) → va_S A s.heap H locs → W p la e R s m args below meth c H locs (cells + 1) (slots + N) Q (F0 m (pc + 2) ls (.ref q :: rest))) : W p la e R s m args below meth c H locs cells slots Q (F0 m pc ls (.int (nI N) :: rest)) := by
  refine va_newa (atype := .int) (ty := .int) (a0 := (N, .inl (fun j => nI (zf j)))) S.1 S.2.1 (S.2.2.2.2 _ (List.mem_cons_of_mem _ harr)) rfl hk.1 hP hD hS hA (fun cA => rfl) (nI_pos (by omega)) (nI_clamp (by omega)) hN hcells hslots hdg (fun q cA H1 hK1 hP1 hD1 hS1 => ?_)
  cases i_one hk hK1
  exact kk q H1 hP1 hD1 hS1
theorem y_cpy (S : CallFix p m c cc nL s args (k0 :: wg) own) (hsz : ls.size = nL) (hk : kx G s) (hP : va_P G.1 cls ws H) (hD : va_D A ws) (hS : va_S A s.heap H locs) (q0 : Nat) {n0 : Nat} {K : Nat → Nat} (he : ws[q0]? = some (a, .inl (G.2.1, n0, .inl (fun j => nI (K j))))) (hlk : Cond.methodLink own idx arraycopyName ∈ wg) (hnat : Cond.native arraycopyName ∈ wg) (hst : Cond.static arraycopyName ∈ wg) (hini : Cond.initialized "java/lang/System" ∈ wg)
    {sp dp n : Nat} (h1 : sp + n ≤ n0) (h2 : dp + n ≤ n0) (hn : n0 < 2147483648) (hfr : 1 ≤ R.frames) (hlo : (rest.map fun v => v.category).sum + (nativeFrameWords "java/lang/System" "arraycopy" 5 + 11) ≤ R.locals) (hdg : decode cc pc = .ok (.invokestatic idx, 3))
    (kk : ∀ (H : Heap) (locs : List Loc), va_P G.1 cls (ws.set q0 (a, .inl (G.2.1, n0, .inl (fun j => nI (va_cpy K K sp dp n j))))) H → va_D A (ws.set q0 (a, .inl (G.2.1, n0, .inl (fun j => nI (va_cpy K K sp dp n j))))) → va_S A s.heap H locs → W p la e R s m args below meth c H locs cells slots Q (F0 m (pc + 3) ls rest)) : W p la e R s m args below meth c H locs cells slots Q (F0 m pc ls (.int (nI n) :: .int (nI dp) :: .ref a :: .int (nI sp) :: .ref a :: rest)) := by
  refine va_copyi S.1 S.2.1 (S.2.2.1.trans hsz.symm) S.2.2.2.1 (S.2.2.2.2 _ (List.mem_cons_of_mem _ hlk)) (S.2.2.2.2 _ (List.mem_cons_of_mem _ hnat)) (S.2.2.2.2 _ (List.mem_cons_of_mem _ hst)) (S.2.2.2.2 _ (List.mem_cons_of_mem _ hini)) hk.1 hP hD hS q0 q0 0 0 he he (ty := .int) rfl rfl rfl (nI_pos (by omega)) (nI_pos (by omega)) (nI_pos (by omega)) (by rw [nI_clamp (by omega), nI_clamp (by omega)]; exact h1) (by rw [nI_clamp (by omega), nI_clamp (by omega)]; exact h2) (fun i _ => rfl) hfr hlo hdg ?_
  rw [nI_clamp (by omega), nI_clamp (by omega), nI_clamp (by omega), cpy_nI]
  exact kk
theorem y_oinit (S : CallFix p m c cc nL s args (k0 :: wg) own) (hsz : ls.size = nL) (hlk : Cond.methodLink own idx objectInit ∈ wg) (him : Cond.instanceMethod objectInit ∈ wg) (hco : Cond.code objectInit ⟨#[0xb1]⟩ 1 none ∈ wg) (hdg : decode cc pc = .ok (.invokespecial idx, 3)) (hfr : 1 ≤ R.frames) (hlo : (rest.map fun v => v.category).sum + 12 ≤ R.locals)
    (kk : W p la e R s m args below meth c H locs cells slots Q (F0 m (pc + 3) ls rest)) : W p la e R s m args below meth c H locs cells slots Q (F0 m pc ls (.ref a :: rest)) := by
  refine W.objInit S.1 S.2.1 S.2.2.2.1 (S.2.2.2.2 _ (List.mem_cons_of_mem _ hlk)) (S.2.2.2.2 _ (List.mem_cons_of_mem _ him)) (S.2.2.2.2 _ (List.mem_cons_of_mem _ hco)) rfl (hsz.trans S.2.2.1.symm) rfl hdg hfr ?_ kk
  show 2 * 0 + _ + 12 ≤ _
  omega
end XO
