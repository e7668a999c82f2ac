
theorem tw_aB : Cond.arrayClass .byte ∈ TB := tbX 114 (by decide +kernel) (by decide +kernel)
theorem tw_aI : Cond.arrayClass .int ∈ TB := tbX 139 (by decide +kernel) (by decide +kernel)
theorem tw_aL : Cond.arrayClass .long ∈ TB := tbX 180 (by decide +kernel) (by decide +kernel)
def zPre (NW : State → Prop) (D : va_G) (tys : List (ClassId × FieldType)) (ws0 : va_W) (sz : Nat) (av : List Value) : Array Value → State → Prop :=
  va_Pc av (fun U => U.heap.size = sz ∧ va_P D vwCl ws0 U.heap ∧ va_K D vwCl tys U ∧ va_D (fun _ => True) ws0 ∧ NW U)
def zBk (D : va_G) (A : Nat → Prop) (wf : (Nat → Nat) → va_W) : (Nat → Nat) → State → Prop := fun u t => va_P D vwCl (wf u) t.heap ∧ va_D A (wf u)
abbrev zQ (D : va_G) (ws0 : va_W) (sz : Nat) (wf : (Nat → Nat) → va_W) : Array Value → State → Outcome → State → Prop := va_Qv (fun _ : Nat → Nat => True) (zBk D (va_A ws0 sz) wf) (va_A ws0 sz)
section ZM
variable {l : Launch} {y : MethodName} {w w' : List Cond} {rm : Room} {NW : State → Prop} {D : va_G} {tys : List (ClassId × FieldType)} {ws0 : va_W} {sz mc ms : Nat} {wf : (Nat → Nat) → va_W} {av : List Value} {cc : ByteArray} {maxL : Nat}
theorem z_ofW (hy : plainName y.cls = true) (hw : w = Cond.code y cc maxL none :: w') (hn : (lg_sl av).length ≤ maxL)
    (body : ∀ (p : Program) (e : Env) (s : State) (m : MethodId) (args : Array Value) (below : List Frame) (meth : Method) (c : Code) (Q : State → Prop) (A : Nat → Prop), p.tables.exec = Jvm.exec → c.code = cc → c.maxLocals = maxL → (∀ q ∈ w, q.before args s = true) → s.vm.findClass y.cls = some m.cls → meth.name = y.name → va_K D vwCl tys s → NW s → va_P D vwCl ws0 s.heap → va_D A ws0 → (∀ q : Nat, s.heap.size ≤ q → A q) → va_S A s.heap s.heap [] →
      (∀ {pc : Nat} {ls : Array Slot} {H : Heap} {locs : List Loc} {u : Nat → Nat}, decode cc pc = .ok (.return_, 1) → va_P D vwCl (wf u) H → va_D A (wf u) → va_S A s.heap H locs → W p l e rm s m args below meth c H locs mc ms Q (F0 m pc ls [])) →
      ∀ ls : Array Slot, lv_has ls maxL (lv_args 0 av) → W p l e rm s m args below meth c s.heap [] 0 0 Q (F0 m 0 ls [])) : Met l y w rm (zPre NW D tys ws0 sz av) (zQ D ws0 sz wf) mc ms (va_A ws0 sz) := by
  refine Met.ofW (cc := cc) (maxL := maxL) (ret := none) hy hw ?_
  intro p e s m args below meth c s₁ B hml hv
  obtain ⟨rfl, hsz, hP, hK, hD0, hN⟩ := hv
  subst hsz
  have hlocks := B.notSynchronized
  have hx := B.exec
  have hb := B.bytes
  have hr := B.returns
  rw [lg_entry_eq]
  refine body p e s m _ below meth c _ (va_A ws0 s.heap.size) B.exec B.bytes hml (atoms_spec (ws := w) B.pre) (findClass_of_methodNamed B.named) (name_of_methodNamed B.named B.method).1 hK hN hP (hD0.self (sz := s.heap.size)) (fun q h => Or.inr h) va_S.rf ?_ _ (lv_entry av hn)
  intro pc ls H locs u hd hP hD hS
  exact W.vret hx hb hr (fun t ht hW => ⟨⟨u, rfl, trivial, by rw [ht]; exact hP, hD⟩, hS.F ht⟩) hS.2.2 hd
theorem z_blind : FrameBlind (zPre Nst D tys ws0 sz av) := fun a U g mk h => ⟨h.1, h.2.1, h.2.2.1, va_K.moved (u := U) (U := U.calling g mk a) (Vm.Alike.refl U.vm) h.2.2.2.1, h.2.2.2.2.1, h.2.2.2.2.2.call g mk a⟩
theorem z_pre {s : State} {H : Heap} {A : Nat → Prop} (hK : va_K D vwCl tys s) (hP : va_P D vwCl ws0 H) (hD : va_D A ws0) (hN : Nst s) : ∀ U : State, U.heap = H → s.WarmedH U.vm → zPre Nst D tys ws0 H.size av av.toArray U := fun U hU hW => ⟨rfl, by rw [hU], by rw [hU]; exact hP, va_K.moved hW.alike hK, hD.weaken (fun _ _ _ _ => trivial), hN.warm hW⟩
theorem zM_blind : FrameBlind (zPre (fun _ => True) D tys ws0 sz av) := fun a U g mk h => ⟨h.1, h.2.1, h.2.2.1, va_K.moved (u := U) (U := U.calling g mk a) (Vm.Alike.refl U.vm) h.2.2.2.1, h.2.2.2.2.1, trivial⟩
theorem zM_pre {s : State} {H : Heap} {A : Nat → Prop} (hK : va_K D vwCl tys s) (hP : va_P D vwCl ws0 H) (hD : va_D A ws0) : ∀ U : State, U.heap = H → s.WarmedH U.vm → zPre (fun _ => True) D tys ws0 H.size av av.toArray U := fun U hU hW => ⟨rfl, by rw [hU], by rw [hU]; exact hP, va_K.moved hW.alike hK, hD.weaken (fun _ _ _ _ => trivial), trivial⟩
end ZM
section ZN
variable {p : Program} {l : Launch} {e : Env} {R : Room} {s : State} {m : MethodId} {args : Array Value} {below : List Frame} {meth : Method} {c : Code} {H : Heap} {locs : List Loc} {cells slots : Nat} {Q : State → Prop}
variable {cc : ByteArray} {pc : Nat} {ls : Array Slot} {rest : List Value} {D : va_G} {A : Nat → Prop} {ws : va_W} {H0 : Heap} {cB cI cL : ClassId}
theorem z_newB (hx : p.tables.exec = Jvm.exec) (hb : c.code = cc) (harr : (Cond.arrayClass .byte).before args s = true) (hK : va_K D vwCl (tyS cB cI cL) s) (hP : va_P D vwCl ws H) (hD : va_D A ws) (hS : va_S A H0 H locs) (hA : ∀ q, H0.size ≤ q → A q) {N : Nat} (hN : N < 2 ^ 26) (hcells : cells + 1 ≤ R.cells) (hslots : slots + N ≤ R.slots) (hdg : decode cc pc = .ok (.newarray .byte, 2))
    (kk : ∀ (q : Nat) (H1 : Heap), va_P D vwCl (ws ++ [(q, .inl (cB, N, .inl (fun _ => sb_b 0)))]) H1 → va_D A (ws ++ [(q, .inl (cB, N, .inl (fun _ => sb_b 0)))]) → va_S A H0 H1 locs → W p l e R s m args below meth c H1 locs (cells + 1) (slots + N) Q (F0 m (pc + 2) ls (.ref q :: rest))) : W p l e R s m args below meth c H locs cells slots Q (F0 m pc ls (.int (nI N) :: rest)) := by
  refine va_newa (atype := .byte) hx hb harr rfl hK hP hD hS hA (N' := N) (a0 := (N, .inl (fun _ => sb_b 0))) (fun _ => rfl) (nI_pos (by omega)) (nI_clamp (by omega)) (by show N * 1 ≤ _; omega) hcells hslots hdg (fun q cA H1 hK1 hP1 hD1 hS1 => ?_)
  have e : cA = cB := Option.some.inj ((va_nm_byte (hK1.2 3 (cA, .byte) rfl).2).symm.trans (va_nm_byte (hK1.2 0 (cB, .byte) rfl).2))
  subst e
  exact kk q H1 hP1 hD1 hS1
theorem z_newI (hx : p.tables.exec = Jvm.exec) (hb : c.code = cc) (harr : (Cond.arrayClass .int).before args s = true) (hK : va_K D vwCl (tyS cB cI cL) s) (hP : va_P D vwCl ws H) (hD : va_D A ws) (hS : va_S A H0 H locs) (hA : ∀ q, H0.size ≤ q → A q) {N : Nat} (hN : N < 2 ^ 26) (hcells : cells + 1 ≤ R.cells) (hslots : slots + N ≤ R.slots) (hdg : decode cc pc = .ok (.newarray .int, 2))
    (kk : ∀ (q : Nat) (H1 : Heap), va_P D vwCl (ws ++ [(q, .inl (cI, N, .inl (fun _ => nI 0)))]) H1 → va_D A (ws ++ [(q, .inl (cI, N, .inl (fun _ => nI 0)))]) → va_S A H0 H1 locs → W p l e R s m args below meth c H1 locs (cells + 1) (slots + N) Q (F0 m (pc + 2) ls (.ref q :: rest))) : W p l e R s m args below meth c H locs cells slots Q (F0 m pc ls (.int (nI N) :: rest)) := by
  refine va_newa (atype := .int) hx hb harr rfl hK hP hD hS hA (N' := N) (a0 := (N, .inl (fun _ => nI 0))) (fun _ => rfl) (nI_pos (by omega)) (nI_clamp (by omega)) (by show N * 4 ≤ _; omega) hcells hslots hdg (fun q cA H1 hK1 hP1 hD1 hS1 => ?_)
  have e : cA = cI := Option.some.inj ((va_nm_int (hK1.2 3 (cA, .int) rfl).2).symm.trans (va_nm_int (hK1.2 1 (cI, .int) rfl).2))
  subst e
  exact kk q H1 hP1 hD1 hS1
theorem z_newL (hx : p.tables.exec = Jvm.exec) (hb : c.code = cc) (harr : (Cond.arrayClass .long).before args s = true) (hK : va_K D vwCl (tyS cB cI cL) s) (hP : va_P D vwCl ws H) (hD : va_D A ws) (hS : va_S A H0 H locs) (hA : ∀ q, H0.size ≤ q → A q) {N : Nat} (hN : N < 2 ^ 26) (hcells : cells + 1 ≤ R.cells) (hslots : slots + N ≤ R.slots) (hdg : decode cc pc = .ok (.newarray .long, 2))
    (kk : ∀ (q : Nat) (H1 : Heap), va_P D vwCl (ws ++ [(q, .inl (cL, N, .inr (.inl (fun _ => lN 0))))]) H1 → va_D A (ws ++ [(q, .inl (cL, N, .inr (.inl (fun _ => lN 0))))]) → va_S A H0 H1 locs → W p l e R s m args below meth c H1 locs (cells + 1) (slots + N) Q (F0 m (pc + 2) ls (.ref q :: rest))) : W p l e R s m args below meth c H locs cells slots Q (F0 m pc ls (.int (nI N) :: rest)) := by
  refine va_newa (atype := .long) hx hb harr rfl hK hP hD hS hA (N' := N) (a0 := (N, .inr (.inl (fun _ => lN 0)))) (fun _ => rfl) (nI_pos (by omega)) (nI_clamp (by omega)) (by show N * 8 ≤ _; omega) hcells hslots hdg (fun q cA H1 hK1 hP1 hD1 hS1 => ?_)
  have e : cA = cL := Option.some.inj ((va_nm_long (hK1.2 3 (cA, .long) rfl).2).symm.trans (va_nm_long (hK1.2 2 (cL, .long) rfl).2))
  subst e
  exact kk q H1 hP1 hD1 hS1
end ZN
