theorem x_bytes {x : Nat} : vp_nar .byte (sb_b x) = sb_b x := pk_vb _
theorem x_clamp {i n : Nat} (hi : i < n) (hn : n < 2 ^ 31) : (nI i).toNatClampNeg = i := nI_clamp (by omega)
theorem x_updI (u : Nat → Nat) (i v : Nat) : upd (fun j => nI (u j)) i (nI v) = fun j => nI (va_up u i v j) := by
  funext j; simp only [upd, va_up]; split <;> rfl
theorem x_updB (u : Nat → Nat) (i v : Nat) : upd (fun j => sb_b (u j)) i (sb_b v) = fun j => sb_b (va_up u i v j) := by
  funext j; simp only [upd, va_up]; split <;> rfl
theorem x_updL (u : Nat → Int64) (i : Nat) (v : Int64) : vp_updL u i v = va_up u i v := rfl
theorem x_updR (u : Nat → Int32) (i : Nat) (v : Int32) : upd u i v = va_up u i v := rfl
section XA
variable {p : Program} {l : Launch} {e : Env} {R : Room} {s : State} {m : MethodId} {args : Array Value} {below : List Frame} {meth : Method} {c : Code} {H : Heap} {locs : List Loc} {cells slots : Nat} {Q : State → Prop}
variable {cc : ByteArray} {pc : Nat} {ls : Array Slot} {rest : List Value} {D : va_G} {cl : List vw_C} {A : Nat → Prop} {a : Nat} {tys : List (ClassId × FieldType)} {ws : va_W} {H0 : Heap}
theorem x_iald (hexec : p.tables.exec = Jvm.exec) (hb : c.code = cc) (hK : va_K D cl tys s) (hP : va_P D cl ws H) (q0 t0 : Nat) {cA : ClassId} {n : Nat} {u : Nat → Nat} (ha : ws[q0]? = some (a, .inl (cA, n, .inl (fun j => nI (u j))))) (ht : tys[t0]? = some (cA, .int)) {i : Nat} (hi : i < n) (hn : n < 2 ^ 31) (hdg : decode cc pc = .ok (.iaload, 1))
    (kk : W p l e R s m args below meth c H locs cells slots Q (F0 m (pc + 1) ls (.int (nI (u i)) :: rest))) : W p l e R s m args below meth c H locs cells slots Q (F0 m pc ls (.int (nI i) :: .ref a :: rest)) :=
  va_iald hexec hb hK hP q0 t0 ha ht (vp_in_nI hi hn) hdg (by rw [x_clamp hi hn]; exact kk)
theorem x_ialdR (hexec : p.tables.exec = Jvm.exec) (hb : c.code = cc) (hK : va_K D cl tys s) (hP : va_P D cl ws H) (q0 t0 : Nat) {cA : ClassId} {n : Nat} {u : Nat → Int32} (ha : ws[q0]? = some (a, .inl (cA, n, .inl u))) (ht : tys[t0]? = some (cA, .int)) {i : Nat} (hi : i < n) (hn : n < 2 ^ 31) (hdg : decode cc pc = .ok (.iaload, 1))
    (kk : W p l e R s m args below meth c H locs cells slots Q (F0 m (pc + 1) ls (.int (u i) :: rest))) : W p l e R s m args below meth c H locs cells slots Q (F0 m pc ls (.int (nI i) :: .ref a :: rest)) :=
  va_iald hexec hb hK hP q0 t0 ha ht (vp_in_nI hi hn) hdg (by rw [x_clamp hi hn]; exact kk)
theorem x_bald (hexec : p.tables.exec = Jvm.exec) (hb : c.code = cc) (hK : va_K D cl tys s) (hP : va_P D cl ws H) (q0 t0 : Nat) {cA : ClassId} {n : Nat} {u : Nat → Nat} (ha : ws[q0]? = some (a, .inl (cA, n, .inl (fun j => sb_b (u j))))) (ht : tys[t0]? = some (cA, .byte)) {i : Nat} (hi : i < n) (hn : n < 2 ^ 31) (hdg : decode cc pc = .ok (.baload, 1))
    (kk : W p l e R s m args below meth c H locs cells slots Q (F0 m (pc + 1) ls (.int (sb_b (u i)) :: rest))) : W p l e R s m args below meth c H locs cells slots Q (F0 m pc ls (.int (nI i) :: .ref a :: rest)) :=
  va_bald hexec hb hK hP q0 t0 ha ht (vp_in_nI hi hn) hdg (by rw [x_clamp hi hn]; exact kk)
theorem x_lald (hexec : p.tables.exec = Jvm.exec) (hb : c.code = cc) (hK : va_K D cl tys s) (hP : va_P D cl ws H) (q0 t0 : Nat) {cA : ClassId} {n : Nat} {u : Nat → Int64} (ha : ws[q0]? = some (a, .inl (cA, n, .inr (.inl u)))) (ht : tys[t0]? = some (cA, .long)) {i : Nat} (hi : i < n) (hn : n < 2 ^ 31) (hdg : decode cc pc = .ok (.laload, 1))
    (kk : W p l e R s m args below meth c H locs cells slots Q (F0 m (pc + 1) ls (.long (u i) :: rest))) : W p l e R s m args below meth c H locs cells slots Q (F0 m pc ls (.int (nI i) :: .ref a :: rest)) :=
  va_lald hexec hb hK hP q0 t0 ha ht (vp_in_nI hi hn) hdg (by rw [x_clamp hi hn]; exact kk)
theorem x_iast (hexec : p.tables.exec = Jvm.exec) (hb : c.code = cc) (hK : va_K D cl tys s) (hP : va_P D cl ws H) (hD : va_D A ws) (hS : va_S A H0 H locs) (q0 t0 : Nat) {cA : ClassId} {n : Nat} {u : Nat → Nat} (ha : ws[q0]? = some (a, .inl (cA, n, .inl (fun j => nI (u j))))) (ht : tys[t0]? = some (cA, .int)) {i v : Nat} (hi : i < n) (hn : n < 2 ^ 31) (hdg : decode cc pc = .ok (.iastore, 1))
    (kk : ∀ (H1 : Heap) (locs1 : List Loc), va_P D cl (ws.set q0 (a, .inl (cA, n, .inl (fun j => nI (va_up u i v j))))) H1 → va_D A (ws.set q0 (a, .inl (cA, n, .inl (fun j => nI (va_up u i v j))))) → va_S A H0 H1 locs1 → W p l e R s m args below meth c H1 locs1 cells slots Q (F0 m (pc + 1) ls rest)) : W p l e R s m args below meth c H locs cells slots Q (F0 m pc ls (.int (nI v) :: .int (nI i) :: .ref a :: rest)) :=
  va_iast hexec hb hK hP hD hS q0 t0 ha ht (vp_in_nI hi hn) hdg (by rw [x_clamp hi hn, x_updI]; exact kk)
theorem x_iastR (hexec : p.tables.exec = Jvm.exec) (hb : c.code = cc) (hK : va_K D cl tys s) (hP : va_P D cl ws H) (hD : va_D A ws) (hS : va_S A H0 H locs) (q0 t0 : Nat) {cA : ClassId} {n : Nat} {u : Nat → Int32} (ha : ws[q0]? = some (a, .inl (cA, n, .inl u))) (ht : tys[t0]? = some (cA, .int)) {i : Nat} {v : Int32} (hi : i < n) (hn : n < 2 ^ 31) (hdg : decode cc pc = .ok (.iastore, 1))
    (kk : ∀ (H1 : Heap) (locs1 : List Loc), va_P D cl (ws.set q0 (a, .inl (cA, n, .inl (va_up u i v)))) H1 → va_D A (ws.set q0 (a, .inl (cA, n, .inl (va_up u i v)))) → va_S A H0 H1 locs1 → W p l e R s m args below meth c H1 locs1 cells slots Q (F0 m (pc + 1) ls rest)) : W p l e R s m args below meth c H locs cells slots Q (F0 m pc ls (.int v :: .int (nI i) :: .ref a :: rest)) :=
  va_iast hexec hb hK hP hD hS q0 t0 ha ht (vp_in_nI hi hn) hdg (by rw [x_clamp hi hn, x_updR]; exact kk)
theorem x_bast (hexec : p.tables.exec = Jvm.exec) (hb : c.code = cc) (hK : va_K D cl tys s) (hP : va_P D cl ws H) (hD : va_D A ws) (hS : va_S A H0 H locs) (q0 t0 : Nat) {cA : ClassId} {n : Nat} {u : Nat → Nat} (ha : ws[q0]? = some (a, .inl (cA, n, .inl (fun j => sb_b (u j))))) (ht : tys[t0]? = some (cA, .byte)) {i v : Nat} (hi : i < n) (hn : n < 2 ^ 31) (hdg : decode cc pc = .ok (.bastore, 1))
    (kk : ∀ (H1 : Heap) (locs1 : List Loc), va_P D cl (ws.set q0 (a, .inl (cA, n, .inl (fun j => sb_b (va_up u i v j))))) H1 → va_D A (ws.set q0 (a, .inl (cA, n, .inl (fun j => sb_b (va_up u i v j))))) → va_S A H0 H1 locs1 → W p l e R s m args below meth c H1 locs1 cells slots Q (F0 m (pc + 1) ls rest)) : W p l e R s m args below meth c H locs cells slots Q (F0 m pc ls (.int (sb_b v) :: .int (nI i) :: .ref a :: rest)) :=
  va_bast hexec hb hK hP hD hS q0 t0 ha ht (vp_in_nI hi hn) hdg (by rw [x_clamp hi hn, x_bytes, x_updB]; exact kk)
theorem x_last (hexec : p.tables.exec = Jvm.exec) (hb : c.code = cc) (hK : va_K D cl tys s) (hP : va_P D cl ws H) (hD : va_D A ws) (hS : va_S A H0 H locs) (q0 t0 : Nat) {cA : ClassId} {n : Nat} {u : Nat → Int64} (ha : ws[q0]? = some (a, .inl (cA, n, .inr (.inl u)))) (ht : tys[t0]? = some (cA, .long)) {i : Nat} {v : Int64} (hi : i < n) (hn : n < 2 ^ 31) (hdg : decode cc pc = .ok (.lastore, 1))
    (kk : ∀ (H1 : Heap) (locs1 : List Loc), va_P D cl (ws.set q0 (a, .inl (cA, n, .inr (.inl (va_up u i v))))) H1 → va_D A (ws.set q0 (a, .inl (cA, n, .inr (.inl (va_up u i v))))) → va_S A H0 H1 locs1 → W p l e R s m args below meth c H1 locs1 cells slots Q (F0 m (pc + 1) ls rest)) : W p l e R s m args below meth c H locs cells slots Q (F0 m pc ls (.long v :: .int (nI i) :: .ref a :: rest)) :=
  va_last hexec hb hK hP hD hS q0 t0 ha ht (vp_in_nI hi hn) hdg (by rw [x_clamp hi hn, x_updL]; exact kk)
theorem x_wP {w1 w2 : va_W} (h : w1 = w2) (hP : va_P D cl w1 H) : va_P D cl w2 H := h ▸ hP
theorem x_wD {w1 w2 : va_W} (h : w1 = w2) (hD : va_D A w1) : va_D A w2 := h ▸ hD
theorem x_lvc {nL : Nat} {l1 l2 : List (Nat × Value)} (h : l1 = l2) (hl : lv_has ls nL l1) : lv_has ls nL l2 := h ▸ hl
end XA
def xPre (NW : State → Prop) (D : va_G) (A : Nat → Prop) (tys : List (ClassId × FieldType)) (ws : va_W) (av : List Value) : Array Value → State → Prop :=
  va_Pc av (fun U => va_P D vwCl ws U.heap ∧ va_K D vwCl tys U ∧ va_D A ws ∧ NW U)
def xBk (D : va_G) (A : Nat → Prop) (ws : va_W) : Unit → State → Prop := fun _ t => va_P D vwCl ws t.heap ∧ va_D A ws
abbrev xQi (D : va_G) (A : Nat → Prop) (r : Int32) (ws : va_W) : Array Value → State → Outcome → State → Prop := va_Qi (fun (r' : Int32) (_ : Unit) => r' = r) (xBk D A ws) A
abbrev xQl (D : va_G) (A : Nat → Prop) (r : Int64) (ws : va_W) : Array Value → State → Outcome → State → Prop := va_Ql (fun (r' : Int64) (_ : Unit) => r' = r) (xBk D A ws) A
abbrev xQv (D : va_G) (A : Nat → Prop) (ws : va_W) : Array Value → State → Outcome → State → Prop := va_Qv (fun (_ : Unit) => True) (xBk D A ws) A
section XM
variable {l : Launch} {y : MethodName} {w w' : List Cond} {rm : Room} {NW : State → Prop} {D : va_G} {A : Nat → Prop} {tys : List (ClassId × FieldType)} {ws ws' : va_W} {av : List Value} {cc : ByteArray} {maxL : Nat}
theorem x_ofWi {r : Int32} (hy : plainName y.cls = true) (hw : w = Cond.code y cc maxL (some .int) :: w') (hn : (lg_sl av).length ≤ maxL)
    (body : ∀ (p : Program) (e : Env) (s : State) (m : MethodId) (args : Array Value) (below : List Frame) (meth : Method) (c : Code) (Q : State → Prop), p.tables.exec = Jvm.exec → c.code = cc → c.maxLocals = maxL → (∀ q ∈ w, q.before args s = true) → s.vm.findClass y.cls = some m.cls → va_K D vwCl tys s → NW s → va_P D vwCl ws s.heap → va_D A ws → va_S A s.heap s.heap [] →
      (∀ {pc : Nat} {ls : Array Slot} {H : Heap} {locs : List Loc} {v : Int32}, decode cc pc = .ok (.ireturn, 1) → v = r → va_P D vwCl ws' H → va_D A ws' → va_S A s.heap H locs → W p l e rm s m args below meth c H locs 0 0 Q (F0 m pc ls [.int v])) →
      ∀ ls : Array Slot, lv_has ls maxL (lv_args 0 av) → W p l e rm s m args below meth c s.heap [] 0 0 Q (F0 m 0 ls [])) : Met l y w rm (xPre NW D A tys ws av) (xQi D A r ws') 0 0 A := by
  refine Met.ofW (cc := cc) (maxL := maxL) (ret := some .int) hy hw ?_
  intro p e s m args below meth c s₁ B hml hv
  obtain ⟨rfl, hP, hK, hD, hN⟩ := hv
  have hlocks := B.notSynchronized
  have hx := B.exec
  have hb := B.bytes
  have hr := B.returns
  rw [lg_entry_eq]
  refine body p e s m _ below meth c _ B.exec B.bytes hml (atoms_spec (ws := w) B.pre) (findClass_of_methodNamed B.named) hK hN hP hD va_S.rf ?_ _ (lv_entry av hn)
  intro pc ls H locs v hd hvr hP hD hS
  exact W.iret hx hb hr (fun t ht hW => ⟨⟨v, (), rfl, hvr, by rw [ht]; exact hP, hD⟩, hS.F ht⟩) hS.2.2 hd
theorem x_ofWz {r : Int32} (hy : plainName y.cls = true) (hw : w = Cond.code y cc maxL (some .boolean) :: w') (hn : (lg_sl av).length ≤ maxL) (hz : narrow .boolean (.int r) = .int r)
    (body : ∀ (p : Program) (e : Env) (s : State) (m : MethodId) (args : Array Value) (below : List Frame) (meth : Method) (c : Code) (Q : State → Prop), p.tables.exec = Jvm.exec → c.code = cc → c.maxLocals = maxL → (∀ q ∈ w, q.before args s = true) → s.vm.findClass y.cls = some m.cls → va_K D vwCl tys s → NW s → va_P D vwCl ws s.heap → va_D A ws → va_S A s.heap s.heap [] →
      (∀ {pc : Nat} {ls : Array Slot} {H : Heap} {locs : List Loc} {v : Int32}, decode cc pc = .ok (.ireturn, 1) → v = r → va_P D vwCl ws' H → va_D A ws' → va_S A s.heap H locs → W p l e rm s m args below meth c H locs 0 0 Q (F0 m pc ls [.int v])) →
      ∀ ls : Array Slot, lv_has ls maxL (lv_args 0 av) → W p l e rm s m args below meth c s.heap [] 0 0 Q (F0 m 0 ls [])) : Met l y w rm (xPre NW D A tys ws av) (xQi D A r ws') 0 0 A := by
  refine Met.ofW (cc := cc) (maxL := maxL) (ret := some .boolean) hy hw ?_
  intro p e s m args below meth c s₁ B hml hv
  obtain ⟨rfl, hP, hK, hD, hN⟩ := hv
  have hlocks := B.notSynchronized
  have hx := B.exec
  have hb := B.bytes
  have hr := B.returns
  rw [lg_entry_eq]
  refine body p e s m _ below meth c _ B.exec B.bytes hml (atoms_spec (ws := w) B.pre) (findClass_of_methodNamed B.named) hK hN hP hD va_S.rf ?_ _ (lv_entry av hn)
  intro pc ls H locs v hd hvr hP hD hS
  exact W.zret hx hb hr (by rw [hvr]; exact hz) (fun t ht hW => ⟨⟨v, (), rfl, hvr, by rw [ht]; exact hP, hD⟩, hS.F ht⟩) hS.2.2 hd
theorem x_ofWl {r : Int64} (hy : plainName y.cls = true) (hw : w = Cond.code y cc maxL (some .long) :: w') (hn : (lg_sl av).length ≤ maxL)
    (body : ∀ (p : Program) (e : Env) (s : State) (m : MethodId) (args : Array Value) (below : List Frame) (meth : Method) (c : Code) (Q : State → Prop), p.tables.exec = Jvm.exec → c.code = cc → c.maxLocals = maxL → (∀ q ∈ w, q.before args s = true) → s.vm.findClass y.cls = some m.cls → va_K D vwCl tys s → NW s → va_P D vwCl ws s.heap → va_D A ws → va_S A s.heap s.heap [] →
      (∀ {pc : Nat} {ls : Array Slot} {H : Heap} {locs : List Loc} {v : Int64}, decode cc pc = .ok (.lreturn, 1) → v = r → va_P D vwCl ws' H → va_D A ws' → va_S A s.heap H locs → W p l e rm s m args below meth c H locs 0 0 Q (F0 m pc ls [.long v])) →
      ∀ ls : Array Slot, lv_has ls maxL (lv_args 0 av) → W p l e rm s m args below meth c s.heap [] 0 0 Q (F0 m 0 ls [])) : Met l y w rm (xPre NW D A tys ws av) (xQl D A r ws') 0 0 A := by
  refine Met.ofW (cc := cc) (maxL := maxL) (ret := some .long) hy hw ?_
  intro p e s m args below meth c s₁ B hml hv
  obtain ⟨rfl, hP, hK, hD, hN⟩ := hv
  have hlocks := B.notSynchronized
  have hx := B.exec
  have hb := B.bytes
  have hr := B.returns
  rw [lg_entry_eq]
  refine body p e s m _ below meth c _ B.exec B.bytes hml (atoms_spec (ws := w) B.pre) (findClass_of_methodNamed B.named) hK hN hP hD va_S.rf ?_ _ (lv_entry av hn)
  intro pc ls H locs v hd hvr hP hD hS
  exact W.lret hx hb hr (fun t ht hW => ⟨⟨v, (), rfl, hvr, by rw [ht]; exact hP, hD⟩, hS.F ht⟩) hS.2.2 hd
theorem x_ofWv (hy : plainName y.cls = true) (hw : w = Cond.code y cc maxL none :: w') (hn : (lg_sl av).length ≤ maxL)
    (body : ∀ (p : Program) (e : Env) (s : State) (m : MethodId) (args : Array Value) (below : List Frame) (meth : Method) (c : Code) (Q : State → Prop), p.tables.exec = Jvm.exec → c.code = cc → c.maxLocals = maxL → (∀ q ∈ w, q.before args s = true) → s.vm.findClass y.cls = some m.cls → va_K D vwCl tys s → NW s → va_P D vwCl ws s.heap → va_D A ws → va_S A s.heap s.heap [] →
      (∀ {pc : Nat} {ls : Array Slot} {H : Heap} {locs : List Loc}, decode cc pc = .ok (.return_, 1) → va_P D vwCl ws' H → va_D A ws' → va_S A s.heap H locs → W p l e rm s m args below meth c H locs 0 0 Q (F0 m pc ls [])) →
      ∀ ls : Array Slot, lv_has ls maxL (lv_args 0 av) → W p l e rm s m args below meth c s.heap [] 0 0 Q (F0 m 0 ls [])) : Met l y w rm (xPre NW D A tys ws av) (xQv D A ws') 0 0 A := by
  refine Met.ofW (cc := cc) (maxL := maxL) (ret := none) hy hw ?_
  intro p e s m args below meth c s₁ B hml hv
  obtain ⟨rfl, hP, hK, hD, hN⟩ := hv
  have hlocks := B.notSynchronized
  have hx := B.exec
  have hb := B.bytes
  have hr := B.returns
  rw [lg_entry_eq]
  refine body p e s m _ below meth c _ B.exec B.bytes hml (atoms_spec (ws := w) B.pre) (findClass_of_methodNamed B.named) hK hN hP hD va_S.rf ?_ _ (lv_entry av hn)
  intro pc ls H locs hd hP hD hS
  exact W.vret hx hb hr (fun t ht hW => ⟨⟨(), rfl, trivial, by rw [ht]; exact hP, hD⟩, hS.F ht⟩) hS.2.2 hd
end XM
section XC
variable {p : Program} {l : Launch} {e : Env} {R : Room} {s : State} {m : MethodId} {args : Array Value} {below : List Frame} {meth : Method} {c : Code} {H : Heap} {locs : List Loc} {cells slots : Nat} {Q : State → Prop}
variable {pc : Nat} {ls : Array Slot} {rest st0 : List Value} {a : Array Value} {D : va_G} {A : Nat → Prop} {ws ws' : va_W} {H0 : Heap} {tys : List (ClassId × FieldType)} {NW : State → Prop}
theorem x_calli {r : Int32} (hr : va_Run p l e R s m args below meth c H locs cells slots 0 0 (F0 m pc ls st0) rest (xQi D A r ws' a) A) (hS : va_S A H0 H locs)
    (kk : ∀ (H1 : Heap) (locs1 : List Loc), va_P D vwCl ws' H1 → va_D A ws' → va_S A H0 H1 locs1 → W p l e R s m args below meth c H1 locs1 cells slots Q (F0 m (pc + 3) ls (.int r :: rest))) : W p l e R s m args below meth c H locs cells slots Q (F0 m pc ls st0) :=
  va_calli hr hS (fun _ _ h => h) (fun _ h => h) (fun _ _ _ H1 locs1 ht _ hp hB _ _ hS1 => by
    subst hp
    exact kk H1 locs1 (ht ▸ hB.1) hB.2 hS1)
theorem x_calll {r : Int64} (hr : va_Run p l e R s m args below meth c H locs cells slots 0 0 (F0 m pc ls st0) rest (xQl D A r ws' a) A) (hS : va_S A H0 H locs)
    (kk : ∀ (H1 : Heap) (locs1 : List Loc), va_P D vwCl ws' H1 → va_D A ws' → va_S A H0 H1 locs1 → W p l e R s m args below meth c H1 locs1 cells slots Q (F0 m (pc + 3) ls (.long r :: rest))) : W p l e R s m args below meth c H locs cells slots Q (F0 m pc ls st0) :=
  va_calll hr hS (fun _ _ h => h) (fun _ h => h) (fun _ _ _ H1 locs1 ht _ hp hB _ _ hS1 => by
    subst hp
    exact kk H1 locs1 (ht ▸ hB.1) hB.2 hS1)
theorem x_callv (hr : va_Run p l e R s m args below meth c H locs cells slots 0 0 (F0 m pc ls st0) rest (xQv D A ws' a) A) (hS : va_S A H0 H locs)
    (kk : ∀ (H1 : Heap) (locs1 : List Loc), va_P D vwCl ws' H1 → va_D A ws' → va_S A H0 H1 locs1 → W p l e R s m args below meth c H1 locs1 cells slots Q (F0 m (pc + 3) ls rest)) : W p l e R s m args below meth c H locs cells slots Q (F0 m pc ls st0) :=
  va_callv hr hS (fun _ _ h => h) (fun _ h => h) (fun _ _ H1 locs1 ht _ _ hB _ _ hS1 => kk H1 locs1 (ht ▸ hB.1) hB.2 hS1)
end XC
def isNest : Cond → Bool
  | .fieldLinkNest .. => true
  | .methodLinkNest .. => true
  | _ => false
theorem isNest_warm {c : Cond} (h : isNest c = true) {s U : State} (hW : s.WarmedH U.vm) (hz : va_Nw c s) : va_Nw c U := by
  unfold isNest at h
  split at h
  · exact va_Nw.warmF hW hz
  · exact va_Nw.warmM hW hz
  · cases h
theorem isNest_tab {c : Cond} (h : isNest c = true) : c.onTables = true := by
  unfold isNest at h
  split at h
  · rfl
  · rfl
  · cases h
def nestW : List Cond := [.methodLinkNest RX5 11 yX0_init "SegmentLog",
  .fieldLinkNest RX5 173 "SegmentLog$Blocks" "size" "I" "SegmentLog",
  .methodLinkNest RX5 20 yX4_init "SegmentLog",
  .methodLinkNest RX5 27 yX2_init "SegmentLog",
  .methodLinkNest RX2 11 yX0_init "SegmentLog",
  .fieldLinkNest RX5 209 "SegmentLog$Queue" "images" "LSegmentLog$Blocks;" "SegmentLog",
  .fieldLinkNest RX5 189 "SegmentLog$Queue" "size" "I" "SegmentLog",
  .methodLinkNest RX5 34 yX3_init "SegmentLog",
  .fieldLinkNest RX5 94 "SegmentLog$Table" "size" "I" "SegmentLog",
  .methodLinkNest RX5 41 yX1_init "SegmentLog",
  .fieldLinkNest RX5 91 "SegmentLog$Head" "files" "I" "SegmentLog",
  .fieldLinkNest RX5 118 "SegmentLog$Head" "generation" "I" "SegmentLog",
  .fieldLinkNest RX5 90 "SegmentLog$Head" "next" "I" "SegmentLog",
  .methodLinkNest RX5 57 yX0_renew "SegmentLog",
  .methodLinkNest RX5 60 yX1_clear "SegmentLog",
  .methodLinkNest RX5 193 yX4_clear "SegmentLog",
  .methodLinkNest RX5 195 yX2_clear "SegmentLog",
  .methodLinkNest RX5 196 yX3_clear "SegmentLog",
  .methodLinkNest RX5 69 yX4_leastFree "SegmentLog",
  .methodLinkNest RX5 73 yX3_insert "SegmentLog",
  .methodLinkNest RX5 205 yX2_append "SegmentLog",
  .methodLinkNest RX2 32 yX0_wipe "SegmentLog",
  .methodLinkNest RX2 35 yX0_put "SegmentLog",
  .methodLinkNest RX5 212 yX0_putNumber "SegmentLog",
  .methodLinkNest RX5 216 yX3_withSequence "SegmentLog",
  .methodLinkNest RX5 148 yX3_key "SegmentLog",
  .methodLinkNest RX5 140 yX3_value "SegmentLog",
  .methodLinkNest RX5 222 yX2_seal "SegmentLog",
  .methodLinkNest RX2 39 yX0_sum "SegmentLog",
  .methodLinkNest RX2 43 yX0_putNumber "SegmentLog",
  .methodLinkNest RX5 225 yX4_mark "SegmentLog",
  .methodLinkNest RX5 83 yX2_bytes "SegmentLog",
  .methodLinkNest RX5 86 yX2_drain "SegmentLog",
  .methodLinkNest RX2 57 yX0_value "SegmentLog",
  .methodLinkNest RX5 101 yX4_leastRun "SegmentLog",
  .methodLinkNest RX5 228 yX1_appendAll "SegmentLog",
  .methodLinkNest RX5 232 yX1_append "SegmentLog",
  .methodLinkNest RX5 157 yX1_field "SegmentLog",
  .methodLinkNest RX5 151 yX3_sequence "SegmentLog",
  .methodLinkNest RX5 238 yX1_fieldAt "SegmentLog",
  .methodLinkNest RX5 244 yX4_turn "SegmentLog",
  .methodLinkNest RX5 248 yX3_settle "SegmentLog",
  .methodLinkNest RX5 251 yX1_read "SegmentLog",
  .methodLinkNest RX1 36 yX0_isWhole "SegmentLog",
  .methodLinkNest RX1 42 yX0_value "SegmentLog",
  .methodLinkNest RX1 45 yX0_number "SegmentLog",
  .methodLinkNest RX1 64 yX5_blocksFor "SegmentLog",
  .methodLinkNest RX5 161 yX0_has "SegmentLog",
  .methodLinkNest RX5 177 yX0_isWhole "SegmentLog",
  .methodLinkNest RX5 167 yX0_value "SegmentLog",
  .methodLinkNest RX5 258 yX0_number "SegmentLog",
  .methodLinkNest RX5 164 yX4_of "SegmentLog",
  .methodLinkNest RX5 277 yX0_wipe "SegmentLog",
  .methodLinkNest RX5 133 yX3_upTo "SegmentLog",
  .methodLinkNest RX5 137 yX3_below "SegmentLog",
  .methodLinkNest RX5 144 yX3_has "SegmentLog",
  .methodLinkNest RX5 169 yX0_put "SegmentLog",
  .methodLinkNest RX5 197 yX2_holds "SegmentLog",
  .methodLinkNest RX5 180 yX2_target "SegmentLog",
  .methodLinkNest RX5 186 yX4_howMany "SegmentLog"]
def Nst (U : State) : Prop := ∀ w ∈ nestW, va_Nw w U
theorem nestW_ok : ∀ w ∈ nestW, isNest w = true := by decide +kernel
theorem Nst.warm {s U : State} (h : Nst s) (hW : s.WarmedH U.vm) : Nst U := fun w hw => isNest_warm (nestW_ok w hw) hW (h w hw)
theorem Nst.call {U : State} (h : Nst U) (g : JFrame) (mk : MethodId) (a : Array Value) : Nst (U.calling g mk a) := fun w hw => va_Nw.same (u := U) (U := U.calling g mk a) (isNest_tab (nestW_ok w hw)) rfl (h w hw)
section XN
variable {s : State} {H : Heap} {D : va_G} {A : Nat → Prop} {tys : List (ClassId × FieldType)} {ws : va_W} {av : List Value}
theorem x_blind : FrameBlind (xPre Nst D A tys ws av) := fun a U g mk h => ⟨h.1, h.2.1, va_K.moved (u := U) (U := U.calling g mk a) (Vm.Alike.refl U.vm) h.2.2.1, h.2.2.2.1, h.2.2.2.2.call g mk a⟩
theorem x_pre (hK : va_K D vwCl tys s) (hP : va_P D vwCl ws H) (hD : va_D A ws) (hN : Nst s) : ∀ U : State, U.heap = H → s.WarmedH U.vm → xPre Nst D A tys ws av av.toArray U := fun U hU hW => ⟨rfl, by rw [hU]; exact hP, va_K.moved hW.alike hK, hD, hN.warm hW⟩
theorem y_blind : FrameBlind (xPre (fun _ => True) D A tys ws av) := fun a U g mk h => ⟨h.1, h.2.1, va_K.moved (u := U) (U := U.calling g mk a) (Vm.Alike.refl U.vm) h.2.2.1, h.2.2.2.1, trivial⟩
theorem y_pre (hK : va_K D vwCl tys s) (hP : va_P D vwCl ws H) (hD : va_D A ws) : ∀ U : State, U.heap = H → s.WarmedH U.vm → xPre (fun _ => True) D A tys ws av av.toArray U := fun U hU hW => ⟨rfl, by rw [hU]; exact hP, va_K.moved hW.alike hK, hD, trivial⟩
end XN
