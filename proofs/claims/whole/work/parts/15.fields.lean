/-! fields, arrays, static tables -/
def fO (own : String) (idx ci k : Nat) : Prop := ∃ (C : String) (T : u_T) (N : Nat), cls[ci]? = some (C, T, N) ∧ k < N ∧ (∀ w ∈ u_ws C T N, w ∈ wg) ∧ Cond.fieldLink own idx (T k).1 (T k).2.1 (T k).2.2.1 ∈ wg
def fN (own : String) (idx ci k : Nat) : Prop := ∃ (C : String) (T : u_T) (N : Nat), cls[ci]? = some (C, T, N) ∧ k < N ∧ (∀ w ∈ u_ws C T N, w ∈ wg) ∧ Cond.fieldLinkNest own idx (T k).1 (T k).2.1 (T k).2.2.1 R_CI ∈ nws
def fT (ci : Nat) (ty : Nat → FieldType) : Prop := ∃ (C : String) (T : u_T) (N : Nat), cls[ci]? = some (C, T, N) ∧ (∀ k, k < N → parseFieldDescriptor (T k).2.2.1 = some (ty k)) ∧ (∀ a, a < N → ∀ b, b < N → a ≠ b → (T a).2.1 ≠ (T b).2.1)
def fM (ci k : Nat) (fin : Bool) : Prop := ∃ (C : String) (T : u_T) (N : Nat), cls[ci]? = some (C, T, N) ∧ (T k).2.2.2 = fin ∧ (T k).1 = C
section XF
variable {p : Program} {la : Launch} {e : Env} {R : Room} {s : State} {m : MethodId} {args : Array Value} {below : List Frame} {meth : Method} {c : Code} {H : Heap} {locs : List Loc} {cells slots : Nat} {Q : State → Prop}
variable {cc : ByteArray} {pc nL idx ci a : Nat} {ls : Array Slot} {rest : List Value} {own : String} {k0 : Cond} {G : gG} {ws : va_W} {A : Nat → Prop}
theorem y_get (S : CallFix p m c cc nL s args (k0 :: wg) own) (hk : kx G s) (hP : va_P G.1 cls ws H) (q0 : Nat) {fs : List Value} (he : ws[q0]? = some (a, .inr (ci, fs))) {k : Nat} (hf : fO own idx ci k) {v : Value} (hv : fs[k]? = some v) (hdg : decode cc pc = .ok (.getfield idx, 3))
    (kk : W p la e R s m args below meth c H locs cells slots Q (F0 m (pc + 3) ls (v :: rest))) : W p la e R s m args below meth c H locs cells slots Q (F0 m pc ls (.ref a :: rest)) := by
  obtain ⟨C, T, N, h1, h2, h3, h4⟩ := hf
  exact va_get S.1 S.2.1 S.2.2.2.2 (fun w hw => List.mem_cons_of_mem _ (h3 w hw)) S.2.2.2.1 hk.1 hP q0 he h1 k h2 (S.2.2.2.2 _ (List.mem_cons_of_mem _ h4)) (fun _ h => h) hv hdg kk
theorem y_getN (S : CallFix p m c cc nL s args (k0 :: wg) own) (hk : kx G s) (hP : va_P G.1 cls ws H) (q0 : Nat) {fs : List Value} (he : ws[q0]? = some (a, .inr (ci, fs))) {k : Nat} (hf : fN own idx ci k) {v : Value} (hv : fs[k]? = some v) (hdg : decode cc pc = .ok (.getfield idx, 3))
    (kk : W p la e R s m args below meth c H locs cells slots Q (F0 m (pc + 3) ls (v :: rest))) : W p la e R s m args below meth c H locs cells slots Q (F0 m pc ls (.ref a :: rest)) := by
  obtain ⟨C, T, N, h1, h2, h3, h4⟩ := hf
  exact va_getN S.1 S.2.1 S.2.2.2.2 (fun w hw => List.mem_cons_of_mem _ (h3 w hw)) S.2.2.2.1 hk.1 hP q0 he h1 k h2 (va_Nw.use rfl (hk.2 _ h4)) (fun _ h => h) hv hdg kk
theorem y_put (S : CallFix p m c cc nL s args (k0 :: wg) own) (hk : kx G s) (hP : va_P G.1 cls ws H) (hD : va_D A ws) (hS : va_S A s.heap H locs) (q0 : Nat) {fs : List Value} (he : ws[q0]? = some (a, .inr (ci, fs))) {k : Nat} (hf : fO own idx ci k) {ty : Nat → FieldType} (hT : fT ci ty) (hM : fM ci k false) {v : Value} (hn : narrow (ty k) v = v) (hfit : fits (ty k) v = true) (hl : k < fs.length) (hdg : decode cc pc = .ok (.putfield idx, 3))
    (kk : ∀ (H : Heap) (locs : List Loc), va_P G.1 cls (ws.set q0 (a, .inr (ci, fs.set k v))) H → va_D A (ws.set q0 (a, .inr (ci, fs.set k v))) → va_S A s.heap H locs → W p la e R s m args below meth c H locs cells slots Q (F0 m (pc + 3) ls rest)) : W p la e R s m args below meth c H locs cells slots Q (F0 m pc ls (v :: .ref a :: rest)) := by
  obtain ⟨C, T, N, h1, h2, h3, h4⟩ := hf
  obtain ⟨C', T', N', g1, g2, g3⟩ := hT
  cases h1.symm.trans g1
  obtain ⟨C', T', N', g1, g4, g5⟩ := hM
  cases h1.symm.trans g1
  exact va_put S.1 S.2.1 S.2.2.2.2 (fun w hw => List.mem_cons_of_mem _ (h3 w hw)) ty g2 g3 S.2.2.2.1 hk.1 hP hD hS q0 he h1 k h2 (S.2.2.2.2 _ (List.mem_cons_of_mem _ h4)) (fun _ h => h) g4 (g2 k h2) hn hfit hl hdg kk
/-- a final field, in its constructor -/
theorem y_putF (S : CallFix p m c cc nL s args (k0 :: wg) own) (hin : meth.name = "<init>") (hk : kx G s) (hP : va_P G.1 cls ws H) (hD : va_D A ws) (hS : va_S A s.heap H locs) (q0 : Nat) {fs : List Value} (he : ws[q0]? = some (a, .inr (ci, fs))) {k : Nat} (hf : fO own idx ci k) {ty : Nat → FieldType} (hT : fT ci ty) (hM : fM ci k true) (hown : ∃ (T : u_T) (N : Nat), cls[ci]? = some (own, T, N)) {v : Value} (hn : narrow (ty k) v = v) (hfit : fits (ty k) v = true) (hl : k < fs.length) (hdg : decode cc pc = .ok (.putfield idx, 3))
    (kk : ∀ (H : Heap) (locs : List Loc), va_P G.1 cls (ws.set q0 (a, .inr (ci, fs.set k v))) H → va_D A (ws.set q0 (a, .inr (ci, fs.set k v))) → va_S A s.heap H locs → W p la e R s m args below meth c H locs cells slots Q (F0 m (pc + 3) ls rest)) : W p la e R s m args below meth c H locs cells slots Q (F0 m pc ls (v :: .ref a :: rest)) := by
  obtain ⟨C, T, N, h1, h2, h3, h4⟩ := hf
  obtain ⟨C', T', N', g1, g2, g3⟩ := hT
  cases h1.symm.trans g1
  obtain ⟨C', T', N', g1, g4, g5⟩ := hM
  cases h1.symm.trans g1
  obtain ⟨T', N', g1⟩ := hown
  cases h1.symm.trans g1
  exact va_putF S.1 S.2.1 S.2.2.2.2 (fun w hw => List.mem_cons_of_mem _ (h3 w hw)) ty g2 g3 S.2.2.2.1 hk.1 hP hD hS q0 he h1 k h2 (S.2.2.2.2 _ (List.mem_cons_of_mem _ h4)) (fun _ h => h) g4 hin g5 (g2 k h2) hn hfit hl hdg kk
theorem y_ald (hx : p.tables.exec = Jvm.exec) (hb : c.code = cc) (hk : kx G s) (hP : va_P G.1 cls ws H) (q0 : Nat) {n : Nat} {K : Nat → Nat} (he : ws[q0]? = some (a, .inl (G.2.1, n, .inl (fun j => nI (K j))))) {i : Nat} (hi : i < n) (hn : n < 2147483648) (hdg : decode cc pc = .ok (.iaload, 1))
    (kk : W p la e R s m args below meth c H locs cells slots Q (F0 m (pc + 1) ls (.int (nI (K i)) :: rest))) : W p la e R s m args below meth c H locs cells slots Q (F0 m pc ls (.int (nI i) :: .ref a :: rest)) := by
  refine va_iald hx hb hk.1 hP q0 0 he rfl (vp_in_nI hi hn) hdg ?_
  rw [nI_clamp (by omega)]
  exact kk
theorem y_ast (hx : p.tables.exec = Jvm.exec) (hb : c.code = cc) (hk : kx G s) (hP : va_P G.1 cls ws H) (hD : va_D A ws) (hS : va_S A s.heap H locs) (q0 : Nat) {n : Nat} {K : Nat → Nat} (he : ws[q0]? = some (a, .inl (G.2.1, n, .inl (fun j => nI (K j))))) {i v : Nat} (hi : i < n) (hn : n < 2147483648) (hdg : decode cc pc = .ok (.iastore, 1))
    (kk : ∀ (H : Heap) (locs : List Loc), va_P G.1 cls (ws.set q0 (a, .inl (G.2.1, n, .inl (fun j => nI (va_up K i v j))))) H → va_D A (ws.set q0 (a, .inl (G.2.1, n, .inl (fun j => nI (va_up K i v j))))) → va_S A s.heap H locs → W p la e R s m args below meth c H locs cells slots Q (F0 m (pc + 1) ls rest)) : W p la e R s m args below meth c H locs cells slots Q (F0 m pc ls (.int (nI v) :: .int (nI i) :: .ref a :: rest)) := by
  refine va_iast hx hb hk.1 hP hD hS q0 0 he rfl (vp_in_nI hi hn) hdg ?_
  rw [nI_clamp (by omega), up_nI]
  exact kk
/-- a static table: its cell, and what it holds -/
theorem y_gets (S : CallFix p m c cc nL s args (k0 :: wg) own) {n : String} {t : Nat} {f : Nat → Nat} (hs : sx1 n t f A s s.heap) (hS : va_S A s.heap H locs) (hl : Cond.fieldLink own idx R_CI n "[I" ∈ wg) (hdg : decode cc pc = .ok (.getstatic idx, 3))
    (kk : W p la e R s m args below meth c H locs cells slots Q (F0 m (pc + 3) ls (.ref t :: rest))) : W p la e R s m args below meth c H locs cells slots Q (F0 m pc ls rest) :=
  va_gets S.1 S.2.1 hs.1 hS S.2.2.2.1 (S.2.2.2.2 _ (List.mem_cons_of_mem _ hl)) (fun _ h => h) hdg kk
theorem y_getsN (S : CallFix p m c cc nL s args (k0 :: wg) own) (hk : kx G s) {n : String} {t : Nat} {f : Nat → Nat} (hs : sx1 n t f A s s.heap) (hS : va_S A s.heap H locs) (hl : Cond.fieldLinkNest own idx R_CI n "[I" R_CI ∈ nws) (hdg : decode cc pc = .ok (.getstatic idx, 3))
    (kk : W p la e R s m args below meth c H locs cells slots Q (F0 m (pc + 3) ls (.ref t :: rest))) : W p la e R s m args below meth c H locs cells slots Q (F0 m pc ls rest) :=
  va_getsN S.1 S.2.1 hs.1 hS S.2.2.2.1 (va_Nw.use rfl (hk.2 _ hl)) (fun _ h => h) hdg kk
theorem y_ti (hx : p.tables.exec = Jvm.exec) (hb : c.code = cc) {n : String} {t : Nat} {f : Nat → Nat} (hs : sx1 n t f A s s.heap) (hS : va_S A s.heap H locs) {i : Nat} (hi : i < 20) (hdg : decode cc pc = .ok (.iaload, 1))
    (kk : W p la e R s m args below meth c H locs cells slots Q (F0 m (pc + 1) ls (.int (nI (f i)) :: rest))) : W p la e R s m args below meth c H locs cells slots Q (F0 m pc ls (.int (nI i) :: .ref t :: rest)) :=
  va_ti hx hb hs.2 hS (vp_in_nI hi (by omega)) (by rw [nI_clamp (by omega)]) hdg kk
end XF
