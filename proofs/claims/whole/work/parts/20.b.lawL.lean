abbrev SC : Type := Nat × Nat × Nat × Nat × (Bool) × Nat × Nat × Nat × Nat × Nat × (Nat → Nat) × Nat × (Nat → Nat) × Nat × (Nat → Nat) × (Nat → Nat) × Nat × (Nat → Int64) × (Nat → Int64) × (Nat → Nat) × Nat × Nat × Nat × (Nat → Nat) × Nat × Nat × Nat × (Nat → Nat)
abbrev SM : Type := Nat × (Nat → Nat) × Nat × (Nat → Nat) × (Nat → Nat) × Nat × (Bool) × Nat × (Nat → Int64) × (Nat → Int64) × Nat × (Nat → Nat) × (Nat → Nat) × (Nat → Nat) × (Nat → Nat) × Nat × (Nat → Nat) × (Nat → Nat) × Nat × Nat × Nat × Nat
abbrev c_h1 (S : SC) : Nat := S.1
abbrev c_h2 (S : SC) : Nat := S.2.1
abbrev c_s1 (S : SC) : Nat := S.2.2.1
abbrev c_s2 (S : SC) : Nat := S.2.2.2.1
abbrev c_op (S : SC) : Bool := S.2.2.2.2.1
abbrev c_nx (S : SC) : Nat := S.2.2.2.2.2.1
abbrev c_wt (S : SC) : Nat := S.2.2.2.2.2.2.1
abbrev c_sf (S : SC) : Nat := S.2.2.2.2.2.2.2.1
abbrev c_lf (S : SC) : Nat := S.2.2.2.2.2.2.2.2.1
abbrev c_dn (S : SC) : Nat := S.2.2.2.2.2.2.2.2.2.1
abbrev c_dg (S : SC) : Nat → Nat := S.2.2.2.2.2.2.2.2.2.2.1
abbrev c_un (S : SC) : Nat := S.2.2.2.2.2.2.2.2.2.2.2.1
abbrev c_ug (S : SC) : Nat → Nat := S.2.2.2.2.2.2.2.2.2.2.2.2.1
abbrev c_qn (S : SC) : Nat := S.2.2.2.2.2.2.2.2.2.2.2.2.2.1
abbrev c_qt (S : SC) : Nat → Nat := S.2.2.2.2.2.2.2.2.2.2.2.2.2.2.1
abbrev c_qg (S : SC) : Nat → Nat := S.2.2.2.2.2.2.2.2.2.2.2.2.2.2.2.1
abbrev c_tn (S : SC) : Nat := S.2.2.2.2.2.2.2.2.2.2.2.2.2.2.2.2.1
abbrev c_tk (S : SC) : Nat → Int64 := S.2.2.2.2.2.2.2.2.2.2.2.2.2.2.2.2.2.1
abbrev c_tv (S : SC) : Nat → Int64 := S.2.2.2.2.2.2.2.2.2.2.2.2.2.2.2.2.2.2.1
abbrev c_ts (S : SC) : Nat → Nat := S.2.2.2.2.2.2.2.2.2.2.2.2.2.2.2.2.2.2.2.1
abbrev c_ef (S : SC) : Nat := S.2.2.2.2.2.2.2.2.2.2.2.2.2.2.2.2.2.2.2.2.1
abbrev c_eg (S : SC) : Nat := S.2.2.2.2.2.2.2.2.2.2.2.2.2.2.2.2.2.2.2.2.2.1
abbrev c_ex (S : SC) : Nat := S.2.2.2.2.2.2.2.2.2.2.2.2.2.2.2.2.2.2.2.2.2.2.1
abbrev c_eF (S : SC) : Nat → Nat := S.2.2.2.2.2.2.2.2.2.2.2.2.2.2.2.2.2.2.2.2.2.2.2.1
abbrev c_pf (S : SC) : Nat := S.2.2.2.2.2.2.2.2.2.2.2.2.2.2.2.2.2.2.2.2.2.2.2.2.1
abbrev c_pg (S : SC) : Nat := S.2.2.2.2.2.2.2.2.2.2.2.2.2.2.2.2.2.2.2.2.2.2.2.2.2.1
abbrev c_px (S : SC) : Nat := S.2.2.2.2.2.2.2.2.2.2.2.2.2.2.2.2.2.2.2.2.2.2.2.2.2.2.1
abbrev c_pF (S : SC) : Nat → Nat := S.2.2.2.2.2.2.2.2.2.2.2.2.2.2.2.2.2.2.2.2.2.2.2.2.2.2.2
abbrev m_rb (S : SM) : Nat := S.1
abbrev m_rd (S : SM) : Nat → Nat := S.2.1
abbrev m_rq (S : SM) : Nat := S.2.2.1
abbrev m_rQ (S : SM) : Nat → Nat := S.2.2.2.1
abbrev m_rw (S : SM) : Nat → Nat := S.2.2.2.2.1
abbrev m_ra (S : SM) : Nat := S.2.2.2.2.2.1
abbrev m_ro (S : SM) : Bool := S.2.2.2.2.2.2.1
abbrev m_rn (S : SM) : Nat := S.2.2.2.2.2.2.2.1
abbrev m_rk (S : SM) : Nat → Int64 := S.2.2.2.2.2.2.2.2.1
abbrev m_rv (S : SM) : Nat → Int64 := S.2.2.2.2.2.2.2.2.2.1
abbrev m_rf (S : SM) : Nat := S.2.2.2.2.2.2.2.2.2.2.1
abbrev m_fN (S : SM) : Nat → Nat := S.2.2.2.2.2.2.2.2.2.2.2.1
abbrev m_fF (S : SM) : Nat → Nat := S.2.2.2.2.2.2.2.2.2.2.2.2.1
abbrev m_fB (S : SM) : Nat → Nat := S.2.2.2.2.2.2.2.2.2.2.2.2.2.1
abbrev m_fR (S : SM) : Nat → Nat := S.2.2.2.2.2.2.2.2.2.2.2.2.2.2.1
abbrev m_rl (S : SM) : Nat := S.2.2.2.2.2.2.2.2.2.2.2.2.2.2.2.1
abbrev m_lB (S : SM) : Nat → Nat := S.2.2.2.2.2.2.2.2.2.2.2.2.2.2.2.2.1
abbrev m_lR (S : SM) : Nat → Nat := S.2.2.2.2.2.2.2.2.2.2.2.2.2.2.2.2.2.1
abbrev m_rt (S : SM) : Nat := S.2.2.2.2.2.2.2.2.2.2.2.2.2.2.2.2.2.2.1
abbrev m_rg (S : SM) : Nat := S.2.2.2.2.2.2.2.2.2.2.2.2.2.2.2.2.2.2.2.1
abbrev m_rx (S : SM) : Nat := S.2.2.2.2.2.2.2.2.2.2.2.2.2.2.2.2.2.2.2.2.1
abbrev m_rz (S : SM) : Nat := S.2.2.2.2.2.2.2.2.2.2.2.2.2.2.2.2.2.2.2.2.2
def vS (a : Nat → Nat) (cB cI cL : ClassId) (S : SC) : va_W := wS a cB cI cL (c_h1 S) (c_h2 S) (c_s1 S) (c_s2 S) (c_op S) (c_nx S) (c_wt S) (c_sf S) (c_lf S) (c_dn S) (c_dg S) (c_un S) (c_ug S) (c_qn S) (c_qt S) (c_qg S) (c_tn S) (c_tk S) (c_tv S) (c_ts S) (c_ef S) (c_eg S) (c_ex S) (c_eF S) (c_pf S) (c_pg S) (c_px S) (c_pF S)
def vM (b : Nat → Nat) (cB cI cL : ClassId) (M : SM) : va_W := wM b cB cI cL (m_rb M) (m_rd M) (m_rq M) (m_rQ M) (m_rw M) (m_ra M) (m_ro M) (m_rn M) (m_rk M) (m_rv M) (m_rf M) (m_fN M) (m_fF M) (m_fB M) (m_fR M) (m_rl M) (m_lB M) (m_lR M) (m_rt M) (m_rg M) (m_rx M) (m_rz M)
def PrI (Rel : Nat → SC → SM → Prop) (l : Launch) (yc : MethodName) (wc : List Cond) (rc : Room) (ym : MethodName) (wm : List Cond) (rm : Room) (av : List Value) : Prop :=
  ∀ (dC : Nat → ClassId) (dI : Nat → Nat → Nat) (cB cI cL : ClassId) (a b : Nat → Nat) (k : Nat) (S : SC) (M : SM), k < 512 → Rel k S M → ∃ (S' : SC) (M' : SM) (r : Int32), Rel (k + 1) S' M' ∧
    (∀ A : Nat → Prop, Met l yc wc rc (xPre Nst (dC, dI) A (tyS cB cI cL) (vS a cB cI cL S) (.ref (a 0) :: av)) (xQi (dC, dI) A r (vS a cB cI cL S')) 0 0 A) ∧
    (∀ A : Nat → Prop, Met l ym wm rm (xPre (fun _ => True) (dC, dI) A (tyS cB cI cL) (vM b cB cI cL M) (.ref (b 0) :: av)) (xQi (dC, dI) A r (vM b cB cI cL M')) 0 0 A)
def PrJ (Rel : Nat → SC → SM → Prop) (l : Launch) (yc : MethodName) (wc : List Cond) (rc : Room) (ym : MethodName) (wm : List Cond) (rm : Room) (av : List Value) : Prop :=
  ∀ (dC : Nat → ClassId) (dI : Nat → Nat → Nat) (cB cI cL : ClassId) (a b : Nat → Nat) (k : Nat) (S : SC) (M : SM), k < 512 → Rel k S M → ∃ (S' : SC) (M' : SM) (r : Int64), Rel (k + 1) S' M' ∧
    (∀ A : Nat → Prop, Met l yc wc rc (xPre Nst (dC, dI) A (tyS cB cI cL) (vS a cB cI cL S) (.ref (a 0) :: av)) (xQl (dC, dI) A r (vS a cB cI cL S')) 0 0 A) ∧
    (∀ A : Nat → Prop, Met l ym wm rm (xPre (fun _ => True) (dC, dI) A (tyS cB cI cL) (vM b cB cI cL M) (.ref (b 0) :: av)) (xQl (dC, dI) A r (vM b cB cI cL M')) 0 0 A)
def Pairs (Rel : Nat → SC → SM → Prop) (l : Launch) : Prop :=
  (∀ (k : Nat) (S : SC) (M : SM), k < 512 → Rel k S M → Rel (k + 1) S M)
  ∧ (∀ (z0 : Int32), PrI Rel l yX5_format (Cond.code yX5_format cX5_format 2 (some .int) :: TB) { frames := 4, cells := 0, slots := 0, locals := 89 } yX6_format (Cond.code yX6_format cX6_format 3 (some .int) :: TB) { frames := 1, cells := 0, slots := 0, locals := 25 } [.int z0])
  ∧ (∀ (z0 : Int64) (z1 : Int64), PrI Rel l yX5_add (Cond.code yX5_add cX5_add 7 (some .int) :: TB) { frames := 5, cells := 0, slots := 0, locals := 121 } yX6_add (Cond.code yX6_add cX6_add 5 (some .int) :: TB) { frames := 4, cells := 0, slots := 0, locals := 89 } [.long z0, .long z1])
  ∧ (PrI Rel l yX5_flush (Cond.code yX5_flush cX5_flush 3 (some .int) :: TB) { frames := 5, cells := 0, slots := 0, locals := 121 } yX6_flush (Cond.code yX6_flush cX6_flush 2 (some .int) :: TB) { frames := 4, cells := 0, slots := 0, locals := 89 } [])
  ∧ (PrI Rel l yX5_sync (Cond.code yX5_sync cX5_sync 1 (some .int) :: TB) { frames := 3, cells := 0, slots := 0, locals := 71 } yX6_sync (Cond.code yX6_sync cX6_sync 1 (some .int) :: TB) { frames := 1, cells := 0, slots := 0, locals := 28 } [])
  ∧ (∀ (z0 : Int32), PrI Rel l yX5_commit (Cond.code yX5_commit cX5_commit 7 (some .int) :: TB) { frames := 5, cells := 0, slots := 0, locals := 124 } yX6_commit (Cond.code yX6_commit cX6_commit 10 (some .int) :: TB) { frames := 3, cells := 0, slots := 0, locals := 72 } [.int z0])
  ∧ (∀ (z0 : Int32), PrI Rel l yX5_crash (Cond.code yX5_crash cX5_crash 2 (some .int) :: TB) { frames := 3, cells := 0, slots := 0, locals := 71 } yX6_crash (Cond.code yX6_crash cX6_crash 3 (some .int) :: TB) { frames := 2, cells := 0, slots := 0, locals := 40 } [.int z0])
  ∧ (PrI Rel l yX5_open (Cond.code yX5_open cX5_open 3 (some .int) :: TB) { frames := 6, cells := 0, slots := 0, locals := 145 } yX6_open (Cond.code yX6_open cX6_open 3 (some .int) :: TB) { frames := 4, cells := 0, slots := 0, locals := 95 } [])
  ∧ (PrI Rel l yX5_acknowledged (Cond.code yX5_acknowledged cX5_acknowledged 1 (some .int) :: TB) { frames := 0, cells := 0, slots := 0, locals := 0 } yX6_acknowledged (Cond.code yX6_acknowledged cX6_acknowledged 4 (some .int) :: TB) { frames := 1, cells := 0, slots := 0, locals := 22 } [])
  ∧ (∀ (z0 : Int64), PrJ Rel l yX5_get (Cond.code yX5_get cX5_get 5 (some .long) :: TB) { frames := 2, cells := 0, slots := 0, locals := 42 } yX6_get (Cond.code yX6_get cX6_get 6 (some .long) :: TB) { frames := 0, cells := 0, slots := 0, locals := 0 } [.long z0])
  ∧ (∀ (z0 : Int64), PrI Rel l yX5_times (Cond.code yX5_times cX5_times 3 (some .int) :: TB) { frames := 1, cells := 0, slots := 0, locals := 24 } yX6_times (Cond.code yX6_times cX6_times 5 (some .int) :: TB) { frames := 0, cells := 0, slots := 0, locals := 0 } [.long z0])
  ∧ (∀ (z0 : Int32) (z1 : Int32), PrJ Rel l yX5_record (Cond.code yX5_record cX5_record 3 (some .long) :: TB) { frames := 2, cells := 0, slots := 0, locals := 42 } yX6_record (Cond.code yX6_record cX6_record 6 (some .long) :: TB) { frames := 1, cells := 0, slots := 0, locals := 25 } [.int z0, .int z1])
  ∧ (∀ (z0 : Int32) (z1 : Int32), PrI Rel l yX5_file (Cond.code yX5_file cX5_file 3 (some .int) :: TB) { frames := 1, cells := 0, slots := 0, locals := 23 } yX6_file (Cond.code yX6_file cX6_file 3 (some .int) :: TB) { frames := 1, cells := 0, slots := 0, locals := 25 } [.int z0, .int z1])
  ∧ (∀ (z0 : Int32), PrI Rel l yX5_use (Cond.code yX5_use cX5_use 2 (some .int) :: TB) { frames := 1, cells := 0, slots := 0, locals := 22 } yX6_use (Cond.code yX6_use cX6_use 2 (some .int) :: TB) { frames := 2, cells := 0, slots := 0, locals := 44 } [.int z0])
  ∧ (∀ (z0 : Int32) (z1 : Int32), PrI Rel l yX5_octet (Cond.code yX5_octet cX5_octet 3 (some .int) :: TB) { frames := 2, cells := 0, slots := 0, locals := 44 } yX6_octet (Cond.code yX6_octet cX6_octet 3 (some .int) :: TB) { frames := 1, cells := 0, slots := 0, locals := 25 } [.int z0, .int z1])
  ∧ (∀ (z0 : Int32) (z1 : Int32) (z2 : Int32), PrI Rel l yX5_poke (Cond.code yX5_poke cX5_poke 4 (some .int) :: TB) { frames := 2, cells := 0, slots := 0, locals := 45 } yX6_poke (Cond.code yX6_poke cX6_poke 4 (some .int) :: TB) { frames := 1, cells := 0, slots := 0, locals := 25 } [.int z0, .int z1, .int z2])
  ∧ (PrI Rel l yX5_bad (Cond.code yX5_bad cX5_bad 2 (some .int) :: TB) { frames := 4, cells := 0, slots := 0, locals := 92 } yX6_bad (Cond.code yX6_bad cX6_bad 4 (some .int) :: TB) { frames := 2, cells := 0, slots := 0, locals := 46 } [])
  ∧ (∀ (z0 : Int32), PrI Rel l yX5_queued (Cond.code yX5_queued cX5_queued 2 (some .int) :: TB) { frames := 1, cells := 0, slots := 0, locals := 21 } yX6_queued (Cond.code yX6_queued cX6_queued 2 (some .int) :: TB) { frames := 1, cells := 0, slots := 0, locals := 25 } [.int z0])
  ∧ (∀ (z0 : Int32), PrI Rel l yX5_count (Cond.code yX5_count cX5_count 2 (some .int) :: TB) { frames := 2, cells := 0, slots := 0, locals := 44 } yX6_count (Cond.code yX6_count cX6_count 4 (some .int) :: TB) { frames := 2, cells := 0, slots := 0, locals := 44 } [.int z0])
theorem tbIn {w : Cond} (h : w ∈ TB) : w ∈ lw_tbl := (List.mem_filter.mp h).1
theorem tbGL {b : Cond} (hb : b ∈ TB) : GoodIn lw_tbl (b :: TB) := fun w hw => (List.mem_cons.mp hw).elim (fun e => e ▸ ⟨tbIn hb, tb_good hb⟩) (fun h => ⟨tbIn h, tb_good h⟩)
theorem tbVL {b : Cond} {own : String} {idx : Nat} {C : String} {y : MethodName} (h1 : .methodLink own idx y ∈ TB) (h2 : .instanceMethod y ∈ TB) (h3 : .selects C y y ∈ TB) (h4 : .initialized C ∈ TB) (hb : b ∈ TB) : GoodIn lw_tbl (wsV own idx C y (b :: TB)) := fun w hw => by
  obtain ⟨q1, q2⟩ := tbV (c := b) h1 h2 h3 h4 hb w hw
  exact ⟨(List.mem_cons.mp q1).elim (fun e => e ▸ tbIn hb) tbIn, q2⟩
theorem nst_of {A : Array Value} {s : State} (h : ∀ w ∈ lw_tbl, w.before A s = true) : Nst s := fun w hw => va_Nw.of (isNest_tab (nestW_ok w hw)) (h w ((by decide +kernel : ∀ w ∈ nestW, w ∈ lw_tbl) w hw))
theorem arr_of {A : Array Value} {s : State} {ty : FieldType} (hty : ty = .byte ∨ ty = .int ∨ ty = .long) (h : (Cond.arrayClass ty).before A s = true) : ∃ c : ClassId, ArrOfT s c ty ∧ va_RA s c ty := by
  obtain ⟨c, k, comp, h1, h2, h3⟩ := Cond.arrayClass_spec h
  refine ⟨c, fun n z => ⟨fun k h => (by cases h), k, h2, comp, h3⟩, ?_⟩
  rcases hty with rfl | rfl | rfl <;> exact h1
section JC
variable {p : Program} {l : Launch} {e : Env} {R : Room} {s : State} {m : MethodId} {args : Array Value} {below : List Frame} {meth : Method} {c : Code} {H : Heap} {locs : List Loc} {cells slots : Nat} {Q : State → Prop}
variable {pc : Nat} {ls : Array Slot} {rest st0 : List Value} {arr : Array Value} {D : va_G} {A0 : Nat → Prop} {H0 : Heap} {a b : Nat → Nat} {cB cI cL : ClassId} {S S' : SC} {M M' : SM}
theorem jS_I {r : Int32} (hP : va_P D vwCl (vS a cB cI cL S ++ vM b cB cI cL M) H) (hD : va_D A0 (vS a cB cI cL S ++ vM b cB cI cL M)) (hS : va_S A0 H0 H locs) (hA : ∀ q, H0.size ≤ q → A0 q)
    (hr : ∀ A : Nat → Prop, va_P D vwCl (vS a cB cI cL S) H → va_D A (vS a cB cI cL S) → va_Run p l e R s m args below meth c H locs cells slots 0 0 (F0 m pc ls st0) rest (xQi D A r (vS a cB cI cL S') arr) A)
    (kk : ∀ (H1 : Heap) (locs1 : List Loc), va_P D vwCl (vM b cB cI cL M ++ vS a cB cI cL S') H1 → va_D A0 (vM b cB cI cL M ++ vS a cB cI cL S') → va_S A0 H0 H1 locs1 → W p l e R s m args below meth c H1 locs1 cells slots Q (F0 m (pc + 3) ls (.int r :: rest))) : W p l e R s m args below meth c H locs cells slots Q (F0 m pc ls st0) := by
  have hPc := hP.sub (ws' := vS a cB cI cL S) [0, 1, 2, 3, 4, 5, 6, 7, 8, 9, 10, 11, 12, 13, 14, 15, 16] rfl
  have hDc := hD.sub (ws' := vS a cB cI cL S) [0, 1, 2, 3, 4, 5, 6, 7, 8, 9, 10, 11, 12, 13, 14, 15, 16] (by decide) rfl
  have hFc := va_free (wc := vS a cB cI cL S) hD hS hA [0, 1, 2, 3, 4, 5, 6, 7, 8, 9, 10, 11, 12, 13, 14, 15, 16] rfl
  refine va_calli (hr _ hPc (hDc.self (sz := H.size))) hS (fun q _ h => hFc q h) hFc (fun r1 u t H1 locs1 ht hvm hp hB hz hk hS1 => ?_)
  subst hp
  obtain ⟨hP1, hD1⟩ := hB
  rw [ht] at hP1
  obtain ⟨hP2, hD2⟩ := va_join (wr := vM b cB cI cL M) (w1 := vS a cB cI cL S') hP hD [0, 1, 2, 3, 4, 5, 6, 7, 8, 9, 10, 11, 12, 13, 14, 15, 16] [17, 18, 19, 20, 21, 22, 23, 24, 25, 26, 27, 28] rfl rfl (by decide) (by decide) hk hFc hP1 hD1
  exact kk H1 locs1 hP2 hD2 hS1
theorem jM_I {r : Int32} (hP : va_P D vwCl (vM b cB cI cL M ++ vS a cB cI cL S) H) (hD : va_D A0 (vM b cB cI cL M ++ vS a cB cI cL S)) (hS : va_S A0 H0 H locs) (hA : ∀ q, H0.size ≤ q → A0 q)
    (hr : ∀ A : Nat → Prop, va_P D vwCl (vM b cB cI cL M) H → va_D A (vM b cB cI cL M) → va_Run p l e R s m args below meth c H locs cells slots 0 0 (F0 m pc ls st0) rest (xQi D A r (vM b cB cI cL M') arr) A)
    (kk : ∀ (H1 : Heap) (locs1 : List Loc), va_P D vwCl (vS a cB cI cL S ++ vM b cB cI cL M') H1 → va_D A0 (vS a cB cI cL S ++ vM b cB cI cL M') → va_S A0 H0 H1 locs1 → W p l e R s m args below meth c H1 locs1 cells slots Q (F0 m (pc + 3) ls (.int r :: rest))) : W p l e R s m args below meth c H locs cells slots Q (F0 m pc ls st0) := by
  have hPc := hP.sub (ws' := vM b cB cI cL M) [0, 1, 2, 3, 4, 5, 6, 7, 8, 9, 10, 11] rfl
  have hDc := hD.sub (ws' := vM b cB cI cL M) [0, 1, 2, 3, 4, 5, 6, 7, 8, 9, 10, 11] (by decide) rfl
  have hFc := va_free (wc := vM b cB cI cL M) hD hS hA [0, 1, 2, 3, 4, 5, 6, 7, 8, 9, 10, 11] rfl
  refine va_calli (hr _ hPc (hDc.self (sz := H.size))) hS (fun q _ h => hFc q h) hFc (fun r1 u t H1 locs1 ht hvm hp hB hz hk hS1 => ?_)
  subst hp
  obtain ⟨hP1, hD1⟩ := hB
  rw [ht] at hP1
  obtain ⟨hP2, hD2⟩ := va_join (wr := vS a cB cI cL S) (w1 := vM b cB cI cL M') hP hD [0, 1, 2, 3, 4, 5, 6, 7, 8, 9, 10, 11] [12, 13, 14, 15, 16, 17, 18, 19, 20, 21, 22, 23, 24, 25, 26, 27, 28] rfl rfl (by decide) (by decide) hk hFc hP1 hD1
  exact kk H1 locs1 hP2 hD2 hS1
theorem jS_J {r : Int64} (hP : va_P D vwCl (vS a cB cI cL S ++ vM b cB cI cL M) H) (hD : va_D A0 (vS a cB cI cL S ++ vM b cB cI cL M)) (hS : va_S A0 H0 H locs) (hA : ∀ q, H0.size ≤ q → A0 q)
    (hr : ∀ A : Nat → Prop, va_P D vwCl (vS a cB cI cL S) H → va_D A (vS a cB cI cL S) → va_Run p l e R s m args below meth c H locs cells slots 0 0 (F0 m pc ls st0) rest (xQl D A r (vS a cB cI cL S') arr) A)
    (kk : ∀ (H1 : Heap) (locs1 : List Loc), va_P D vwCl (vM b cB cI cL M ++ vS a cB cI cL S') H1 → va_D A0 (vM b cB cI cL M ++ vS a cB cI cL S') → va_S A0 H0 H1 locs1 → W p l e R s m args below meth c H1 locs1 cells slots Q (F0 m (pc + 3) ls (.long r :: rest))) : W p l e R s m args below meth c H locs cells slots Q (F0 m pc ls st0) := by
  have hPc := hP.sub (ws' := vS a cB cI cL S) [0, 1, 2, 3, 4, 5, 6, 7, 8, 9, 10, 11, 12, 13, 14, 15, 16] rfl
  have hDc := hD.sub (ws' := vS a cB cI cL S) [0, 1, 2, 3, 4, 5, 6, 7, 8, 9, 10, 11, 12, 13, 14, 15, 16] (by decide) rfl
  have hFc := va_free (wc := vS a cB cI cL S) hD hS hA [0, 1, 2, 3, 4, 5, 6, 7, 8, 9, 10, 11, 12, 13, 14, 15, 16] rfl
  refine va_calll (hr _ hPc (hDc.self (sz := H.size))) hS (fun q _ h => hFc q h) hFc (fun r1 u t H1 locs1 ht hvm hp hB hz hk hS1 => ?_)
  subst hp
  obtain ⟨hP1, hD1⟩ := hB
  rw [ht] at hP1
  obtain ⟨hP2, hD2⟩ := va_join (wr := vM b cB cI cL M) (w1 := vS a cB cI cL S') hP hD [0, 1, 2, 3, 4, 5, 6, 7, 8, 9, 10, 11, 12, 13, 14, 15, 16] [17, 18, 19, 20, 21, 22, 23, 24, 25, 26, 27, 28] rfl rfl (by decide) (by decide) hk hFc hP1 hD1
  exact kk H1 locs1 hP2 hD2 hS1
theorem jM_J {r : Int64} (hP : va_P D vwCl (vM b cB cI cL M ++ vS a cB cI cL S) H) (hD : va_D A0 (vM b cB cI cL M ++ vS a cB cI cL S)) (hS : va_S A0 H0 H locs) (hA : ∀ q, H0.size ≤ q → A0 q)
    (hr : ∀ A : Nat → Prop, va_P D vwCl (vM b cB cI cL M) H → va_D A (vM b cB cI cL M) → va_Run p l e R s m args below meth c H locs cells slots 0 0 (F0 m pc ls st0) rest (xQl D A r (vM b cB cI cL M') arr) A)
    (kk : ∀ (H1 : Heap) (locs1 : List Loc), va_P D vwCl (vS a cB cI cL S ++ vM b cB cI cL M') H1 → va_D A0 (vS a cB cI cL S ++ vM b cB cI cL M') → va_S A0 H0 H1 locs1 → W p l e R s m args below meth c H1 locs1 cells slots Q (F0 m (pc + 3) ls (.long r :: rest))) : W p l e R s m args below meth c H locs cells slots Q (F0 m pc ls st0) := by
  have hPc := hP.sub (ws' := vM b cB cI cL M) [0, 1, 2, 3, 4, 5, 6, 7, 8, 9, 10, 11] rfl
  have hDc := hD.sub (ws' := vM b cB cI cL M) [0, 1, 2, 3, 4, 5, 6, 7, 8, 9, 10, 11] (by decide) rfl
  have hFc := va_free (wc := vM b cB cI cL M) hD hS hA [0, 1, 2, 3, 4, 5, 6, 7, 8, 9, 10, 11] rfl
  refine va_calll (hr _ hPc (hDc.self (sz := H.size))) hS (fun q _ h => hFc q h) hFc (fun r1 u t H1 locs1 ht hvm hp hB hz hk hS1 => ?_)
  subst hp
  obtain ⟨hP1, hD1⟩ := hB
  rw [ht] at hP1
  obtain ⟨hP2, hD2⟩ := va_join (wr := vS a cB cI cL S) (w1 := vM b cB cI cL M') hP hD [0, 1, 2, 3, 4, 5, 6, 7, 8, 9, 10, 11] [12, 13, 14, 15, 16, 17, 18, 19, 20, 21, 22, 23, 24, 25, 26, 27, 28] rfl rfl (by decide) (by decide) hk hFc hP1 hD1
  exact kk H1 locs1 hP2 hD2 hS1
theorem j_sld {cc : ByteArray} (hexec : p.tables.exec = Jvm.exec) (hb : c.code = cc) {b0 L : Nat} {xs : Nat → Int32} (hX : va_X b0 L xs s H0) (hbl : b0 < H0.size) (hbA : ¬ A0 b0) (hS : va_S A0 H0 H locs) {i : Nat} (hi : i < L) (hL : L < 2 ^ 31) (hdg : decode cc pc = .ok (.iaload, 1))
    (kk : W p l e R s m args below meth c H locs cells slots Q (F0 m (pc + 1) ls (.int (xs i) :: rest))) : W p l e R s m args below meth c H locs cells slots Q (F0 m pc ls (.int (nI i) :: .ref b0 :: rest)) :=
  va_sld hexec hb hX hbl hbA hS (vp_in_nI hi hL) hdg (by rw [nI_clamp (by omega)]; exact kk)
end JC
theorem j_gt {i L : Nat} (hi : i < 2 ^ 30) (hL : L < 2 ^ 30) (h : ¬ nI L - nI 5 < nI i) : i + 5 ≤ L := by
  rcases Nat.lt_or_ge L 5 with q | q
  · exact absurd (by
      rw [Int32.lt_iff_toInt_lt, nI_toInt (by omega)]
      have e : (nI L - nI 5).toInt < 0 := by
        rcases (show L = 0 ∨ L = 1 ∨ L = 2 ∨ L = 3 ∨ L = 4 by omega) with rfl | rfl | rfl | rfl | rfl <;> decide
      omega) h
  · rw [pk_sub (by omega), nI_ltI (by omega) (by omega)] at h
    omega
theorem dL_0 : decode code 0 = .ok (.new 7, 3) := by decide +kernel
theorem dL_3 : decode code 3 = .ok (.dup, 1) := by decide +kernel
theorem dL_4 : decode code 4 = .ok (.invokespecial 9, 3) := by decide +kernel
theorem dL_7 : decode code 7 = .ok (.astore_n 1, 1) := by decide +kernel
theorem dL_8 : decode code 8 = .ok (.new 10, 3) := by decide +kernel
theorem dL_11 : decode code 11 = .ok (.dup, 1) := by decide +kernel
theorem dL_12 : decode code 12 = .ok (.invokespecial 12, 3) := by decide +kernel
theorem dL_15 : decode code 15 = .ok (.astore_n 2, 1) := by decide +kernel
theorem dL_16 : decode code 16 = .ok (.iconst 0, 1) := by decide +kernel
theorem dL_17 : decode code 17 = .ok (.istore_n 3, 1) := by decide +kernel
theorem dL_18 : decode code 18 = .ok (.iload_n 3, 1) := by decide +kernel
theorem dL_19 : decode code 19 = .ok (.aload_n 0, 1) := by decide +kernel
theorem dL_20 : decode code 20 = .ok (.arraylength, 1) := by decide +kernel
theorem dL_21 : decode code 21 = .ok (.iconst 5, 1) := by decide +kernel
theorem dL_22 : decode code 22 = .ok (.isub, 1) := by decide +kernel
theorem dL_23 : decode code 23 = .ok (.if_icmp .gt 649, 3) := by decide +kernel
theorem dL_26 : decode code 26 = .ok (.aload_n 0, 1) := by decide +kernel
theorem dL_27 : decode code 27 = .ok (.iload_n 3, 1) := by decide +kernel
theorem dL_28 : decode code 28 = .ok (.iaload, 1) := by decide +kernel
theorem dL_29 : decode code 29 = .ok (.bipush 31, 2) := by decide +kernel
theorem dL_31 : decode code 31 = .ok (.iand, 1) := by decide +kernel
theorem dL_32 : decode code 32 = .ok (.tableswitch 634 0 17 #[88, 111, 204, 217, 230, 253, 276, 289, 302, 356, 409, 443, 476, 499, 532, 575, 588, 611], 88) := by decide +kernel
theorem dL_120 : decode code 120 = .ok (.aload_n 1, 1) := by decide +kernel
theorem dL_121 : decode code 121 = .ok (.aload_n 0, 1) := by decide +kernel
theorem dL_122 : decode code 122 = .ok (.iload_n 3, 1) := by decide +kernel
theorem dL_123 : decode code 123 = .ok (.iconst 1, 1) := by decide +kernel
theorem dL_124 : decode code 124 = .ok (.iadd, 1) := by decide +kernel
theorem dL_125 : decode code 125 = .ok (.iaload, 1) := by decide +kernel
theorem dL_126 : decode code 126 = .ok (.invokevirtual 13, 3) := by decide +kernel
theorem dL_129 : decode code 129 = .ok (.aload_n 2, 1) := by decide +kernel
theorem dL_130 : decode code 130 = .ok (.aload_n 0, 1) := by decide +kernel
theorem dL_131 : decode code 131 = .ok (.iload_n 3, 1) := by decide +kernel
theorem dL_132 : decode code 132 = .ok (.iconst 1, 1) := by decide +kernel
theorem dL_133 : decode code 133 = .ok (.iadd, 1) := by decide +kernel
theorem dL_134 : decode code 134 = .ok (.iaload, 1) := by decide +kernel
theorem dL_135 : decode code 135 = .ok (.invokevirtual 17, 3) := by decide +kernel
theorem dL_138 : decode code 138 = .ok (.if_icmp .eq 528, 3) := by decide +kernel
theorem dL_141 : decode code 141 = .ok (.iconst 0, 1) := by decide +kernel
theorem dL_142 : decode code 142 = .ok (.ireturn, 1) := by decide +kernel
theorem dL_143 : decode code 143 = .ok (.aload_n 1, 1) := by decide +kernel
theorem dL_144 : decode code 144 = .ok (.aload_n 0, 1) := by decide +kernel
theorem dL_145 : decode code 145 = .ok (.iload_n 3, 1) := by decide +kernel
theorem dL_146 : decode code 146 = .ok (.iconst 1, 1) := by decide +kernel
theorem dL_147 : decode code 147 = .ok (.iadd, 1) := by decide +kernel
theorem dL_148 : decode code 148 = .ok (.iaload, 1) := by decide +kernel
theorem dL_149 : decode code 149 = .ok (.i2l, 1) := by decide +kernel
theorem dL_150 : decode code 150 = .ok (.bipush 32, 2) := by decide +kernel
theorem dL_152 : decode code 152 = .ok (.lshl, 1) := by decide +kernel
theorem dL_153 : decode code 153 = .ok (.aload_n 0, 1) := by decide +kernel
theorem dL_154 : decode code 154 = .ok (.iload_n 3, 1) := by decide +kernel
theorem dL_155 : decode code 155 = .ok (.iconst 2, 1) := by decide +kernel
theorem dL_156 : decode code 156 = .ok (.iadd, 1) := by decide +kernel
theorem dL_157 : decode code 157 = .ok (.iaload, 1) := by decide +kernel
theorem dL_158 : decode code 158 = .ok (.i2l, 1) := by decide +kernel
theorem dL_159 : decode code 159 = .ok (.ldc2_w 18, 3) := by decide +kernel
theorem dL_162 : decode code 162 = .ok (.land, 1) := by decide +kernel
theorem dL_163 : decode code 163 = .ok (.lor, 1) := by decide +kernel
theorem dL_164 : decode code 164 = .ok (.aload_n 0, 1) := by decide +kernel
theorem dL_165 : decode code 165 = .ok (.iload_n 3, 1) := by decide +kernel
theorem dL_166 : decode code 166 = .ok (.iconst 3, 1) := by decide +kernel
theorem dL_167 : decode code 167 = .ok (.iadd, 1) := by decide +kernel
theorem dL_168 : decode code 168 = .ok (.iaload, 1) := by decide +kernel
theorem dL_169 : decode code 169 = .ok (.i2l, 1) := by decide +kernel
theorem dL_170 : decode code 170 = .ok (.bipush 32, 2) := by decide +kernel
theorem dL_172 : decode code 172 = .ok (.lshl, 1) := by decide +kernel
theorem dL_173 : decode code 173 = .ok (.aload_n 0, 1) := by decide +kernel
theorem dL_174 : decode code 174 = .ok (.iload_n 3, 1) := by decide +kernel
theorem dL_175 : decode code 175 = .ok (.iconst 4, 1) := by decide +kernel
theorem dL_176 : decode code 176 = .ok (.iadd, 1) := by decide +kernel
theorem dL_177 : decode code 177 = .ok (.iaload, 1) := by decide +kernel
theorem dL_178 : decode code 178 = .ok (.i2l, 1) := by decide +kernel
theorem dL_179 : decode code 179 = .ok (.ldc2_w 18, 3) := by decide +kernel
theorem dL_182 : decode code 182 = .ok (.land, 1) := by decide +kernel
theorem dL_183 : decode code 183 = .ok (.lor, 1) := by decide +kernel
theorem dL_184 : decode code 184 = .ok (.invokevirtual 20, 3) := by decide +kernel
theorem dL_187 : decode code 187 = .ok (.aload_n 2, 1) := by decide +kernel
theorem dL_188 : decode code 188 = .ok (.aload_n 0, 1) := by decide +kernel
theorem dL_189 : decode code 189 = .ok (.iload_n 3, 1) := by decide +kernel
theorem dL_190 : decode code 190 = .ok (.iconst 1, 1) := by decide +kernel
theorem dL_191 : decode code 191 = .ok (.iadd, 1) := by decide +kernel
theorem dL_192 : decode code 192 = .ok (.iaload, 1) := by decide +kernel
theorem dL_193 : decode code 193 = .ok (.i2l, 1) := by decide +kernel
theorem dL_194 : decode code 194 = .ok (.bipush 32, 2) := by decide +kernel
theorem dL_196 : decode code 196 = .ok (.lshl, 1) := by decide +kernel
theorem dL_197 : decode code 197 = .ok (.aload_n 0, 1) := by decide +kernel
theorem dL_198 : decode code 198 = .ok (.iload_n 3, 1) := by decide +kernel
theorem dL_199 : decode code 199 = .ok (.iconst 2, 1) := by decide +kernel
theorem dL_200 : decode code 200 = .ok (.iadd, 1) := by decide +kernel
theorem dL_201 : decode code 201 = .ok (.iaload, 1) := by decide +kernel
theorem dL_202 : decode code 202 = .ok (.i2l, 1) := by decide +kernel
theorem dL_203 : decode code 203 = .ok (.ldc2_w 18, 3) := by decide +kernel
theorem dL_206 : decode code 206 = .ok (.land, 1) := by decide +kernel
theorem dL_207 : decode code 207 = .ok (.lor, 1) := by decide +kernel
theorem dL_208 : decode code 208 = .ok (.aload_n 0, 1) := by decide +kernel
theorem dL_209 : decode code 209 = .ok (.iload_n 3, 1) := by decide +kernel
theorem dL_210 : decode code 210 = .ok (.iconst 3, 1) := by decide +kernel
theorem dL_211 : decode code 211 = .ok (.iadd, 1) := by decide +kernel
theorem dL_212 : decode code 212 = .ok (.iaload, 1) := by decide +kernel
theorem dL_213 : decode code 213 = .ok (.i2l, 1) := by decide +kernel
theorem dL_214 : decode code 214 = .ok (.bipush 32, 2) := by decide +kernel
theorem dL_216 : decode code 216 = .ok (.lshl, 1) := by decide +kernel
theorem dL_217 : decode code 217 = .ok (.aload_n 0, 1) := by decide +kernel
theorem dL_218 : decode code 218 = .ok (.iload_n 3, 1) := by decide +kernel
theorem dL_219 : decode code 219 = .ok (.iconst 4, 1) := by decide +kernel
theorem dL_220 : decode code 220 = .ok (.iadd, 1) := by decide +kernel
theorem dL_221 : decode code 221 = .ok (.iaload, 1) := by decide +kernel
theorem dL_222 : decode code 222 = .ok (.i2l, 1) := by decide +kernel
theorem dL_223 : decode code 223 = .ok (.ldc2_w 18, 3) := by decide +kernel
theorem dL_226 : decode code 226 = .ok (.land, 1) := by decide +kernel
theorem dL_227 : decode code 227 = .ok (.lor, 1) := by decide +kernel
theorem dL_228 : decode code 228 = .ok (.invokevirtual 24, 3) := by decide +kernel
theorem dL_231 : decode code 231 = .ok (.if_icmp .eq 435, 3) := by decide +kernel
theorem dL_234 : decode code 234 = .ok (.iconst 0, 1) := by decide +kernel
theorem dL_235 : decode code 235 = .ok (.ireturn, 1) := by decide +kernel
theorem dL_236 : decode code 236 = .ok (.aload_n 1, 1) := by decide +kernel
theorem dL_237 : decode code 237 = .ok (.invokevirtual 25, 3) := by decide +kernel
theorem dL_240 : decode code 240 = .ok (.aload_n 2, 1) := by decide +kernel
theorem dL_241 : decode code 241 = .ok (.invokevirtual 29, 3) := by decide +kernel
theorem dL_244 : decode code 244 = .ok (.if_icmp .eq 422, 3) := by decide +kernel
theorem dL_247 : decode code 247 = .ok (.iconst 0, 1) := by decide +kernel
theorem dL_248 : decode code 248 = .ok (.ireturn, 1) := by decide +kernel
theorem dL_249 : decode code 249 = .ok (.aload_n 1, 1) := by decide +kernel
theorem dL_250 : decode code 250 = .ok (.invokevirtual 30, 3) := by decide +kernel
theorem dL_253 : decode code 253 = .ok (.aload_n 2, 1) := by decide +kernel
theorem dL_254 : decode code 254 = .ok (.invokevirtual 33, 3) := by decide +kernel
theorem dL_257 : decode code 257 = .ok (.if_icmp .eq 409, 3) := by decide +kernel
theorem dL_260 : decode code 260 = .ok (.iconst 0, 1) := by decide +kernel
theorem dL_261 : decode code 261 = .ok (.ireturn, 1) := by decide +kernel
theorem dL_262 : decode code 262 = .ok (.aload_n 1, 1) := by decide +kernel
theorem dL_263 : decode code 263 = .ok (.aload_n 0, 1) := by decide +kernel
theorem dL_264 : decode code 264 = .ok (.iload_n 3, 1) := by decide +kernel
theorem dL_265 : decode code 265 = .ok (.iconst 1, 1) := by decide +kernel
theorem dL_266 : decode code 266 = .ok (.iadd, 1) := by decide +kernel
theorem dL_267 : decode code 267 = .ok (.iaload, 1) := by decide +kernel
theorem dL_268 : decode code 268 = .ok (.invokevirtual 34, 3) := by decide +kernel
theorem dL_271 : decode code 271 = .ok (.aload_n 2, 1) := by decide +kernel
theorem dL_272 : decode code 272 = .ok (.aload_n 0, 1) := by decide +kernel
theorem dL_273 : decode code 273 = .ok (.iload_n 3, 1) := by decide +kernel
theorem dL_274 : decode code 274 = .ok (.iconst 1, 1) := by decide +kernel
theorem dL_275 : decode code 275 = .ok (.iadd, 1) := by decide +kernel
theorem dL_276 : decode code 276 = .ok (.iaload, 1) := by decide +kernel
theorem dL_277 : decode code 277 = .ok (.invokevirtual 37, 3) := by decide +kernel
theorem dL_280 : decode code 280 = .ok (.if_icmp .eq 386, 3) := by decide +kernel
theorem dL_283 : decode code 283 = .ok (.iconst 0, 1) := by decide +kernel
theorem dL_284 : decode code 284 = .ok (.ireturn, 1) := by decide +kernel
theorem dL_285 : decode code 285 = .ok (.aload_n 1, 1) := by decide +kernel
theorem dL_286 : decode code 286 = .ok (.aload_n 0, 1) := by decide +kernel
theorem dL_287 : decode code 287 = .ok (.iload_n 3, 1) := by decide +kernel
theorem dL_288 : decode code 288 = .ok (.iconst 1, 1) := by decide +kernel
theorem dL_289 : decode code 289 = .ok (.iadd, 1) := by decide +kernel
theorem dL_290 : decode code 290 = .ok (.iaload, 1) := by decide +kernel
theorem dL_291 : decode code 291 = .ok (.invokevirtual 38, 3) := by decide +kernel
theorem dL_294 : decode code 294 = .ok (.aload_n 2, 1) := by decide +kernel
theorem dL_295 : decode code 295 = .ok (.aload_n 0, 1) := by decide +kernel
theorem dL_296 : decode code 296 = .ok (.iload_n 3, 1) := by decide +kernel
theorem dL_297 : decode code 297 = .ok (.iconst 1, 1) := by decide +kernel
theorem dL_298 : decode code 298 = .ok (.iadd, 1) := by decide +kernel
theorem dL_299 : decode code 299 = .ok (.iaload, 1) := by decide +kernel
theorem dL_300 : decode code 300 = .ok (.invokevirtual 41, 3) := by decide +kernel
theorem dL_303 : decode code 303 = .ok (.if_icmp .eq 363, 3) := by decide +kernel
theorem dL_306 : decode code 306 = .ok (.iconst 0, 1) := by decide +kernel
theorem dL_307 : decode code 307 = .ok (.ireturn, 1) := by decide +kernel
theorem dL_308 : decode code 308 = .ok (.aload_n 1, 1) := by decide +kernel
theorem dL_309 : decode code 309 = .ok (.invokevirtual 42, 3) := by decide +kernel
theorem dL_312 : decode code 312 = .ok (.aload_n 2, 1) := by decide +kernel
theorem dL_313 : decode code 313 = .ok (.invokevirtual 45, 3) := by decide +kernel
theorem dL_316 : decode code 316 = .ok (.if_icmp .eq 350, 3) := by decide +kernel
theorem dL_319 : decode code 319 = .ok (.iconst 0, 1) := by decide +kernel
theorem dL_320 : decode code 320 = .ok (.ireturn, 1) := by decide +kernel
theorem dL_321 : decode code 321 = .ok (.aload_n 1, 1) := by decide +kernel
theorem dL_322 : decode code 322 = .ok (.invokevirtual 46, 3) := by decide +kernel
theorem dL_325 : decode code 325 = .ok (.aload_n 2, 1) := by decide +kernel
theorem dL_326 : decode code 326 = .ok (.invokevirtual 49, 3) := by decide +kernel
theorem dL_329 : decode code 329 = .ok (.if_icmp .eq 337, 3) := by decide +kernel
theorem dL_332 : decode code 332 = .ok (.iconst 0, 1) := by decide +kernel
theorem dL_333 : decode code 333 = .ok (.ireturn, 1) := by decide +kernel
theorem dL_334 : decode code 334 = .ok (.aload_n 1, 1) := by decide +kernel
theorem dL_335 : decode code 335 = .ok (.aload_n 0, 1) := by decide +kernel
theorem dL_336 : decode code 336 = .ok (.iload_n 3, 1) := by decide +kernel
theorem dL_337 : decode code 337 = .ok (.iconst 1, 1) := by decide +kernel
theorem dL_338 : decode code 338 = .ok (.iadd, 1) := by decide +kernel
theorem dL_339 : decode code 339 = .ok (.iaload, 1) := by decide +kernel
theorem dL_340 : decode code 340 = .ok (.i2l, 1) := by decide +kernel
theorem dL_341 : decode code 341 = .ok (.bipush 32, 2) := by decide +kernel
theorem dL_343 : decode code 343 = .ok (.lshl, 1) := by decide +kernel
theorem dL_344 : decode code 344 = .ok (.aload_n 0, 1) := by decide +kernel
theorem dL_345 : decode code 345 = .ok (.iload_n 3, 1) := by decide +kernel
theorem dL_346 : decode code 346 = .ok (.iconst 2, 1) := by decide +kernel
theorem dL_347 : decode code 347 = .ok (.iadd, 1) := by decide +kernel
theorem dL_348 : decode code 348 = .ok (.iaload, 1) := by decide +kernel
theorem dL_349 : decode code 349 = .ok (.i2l, 1) := by decide +kernel
theorem dL_350 : decode code 350 = .ok (.ldc2_w 18, 3) := by decide +kernel
theorem dL_353 : decode code 353 = .ok (.land, 1) := by decide +kernel
theorem dL_354 : decode code 354 = .ok (.lor, 1) := by decide +kernel
theorem dL_355 : decode code 355 = .ok (.invokevirtual 50, 3) := by decide +kernel
theorem dL_358 : decode code 358 = .ok (.aload_n 2, 1) := by decide +kernel
theorem dL_359 : decode code 359 = .ok (.aload_n 0, 1) := by decide +kernel
theorem dL_360 : decode code 360 = .ok (.iload_n 3, 1) := by decide +kernel
theorem dL_361 : decode code 361 = .ok (.iconst 1, 1) := by decide +kernel
theorem dL_362 : decode code 362 = .ok (.iadd, 1) := by decide +kernel
theorem dL_363 : decode code 363 = .ok (.iaload, 1) := by decide +kernel
theorem dL_364 : decode code 364 = .ok (.i2l, 1) := by decide +kernel
theorem dL_365 : decode code 365 = .ok (.bipush 32, 2) := by decide +kernel
theorem dL_367 : decode code 367 = .ok (.lshl, 1) := by decide +kernel
theorem dL_368 : decode code 368 = .ok (.aload_n 0, 1) := by decide +kernel
theorem dL_369 : decode code 369 = .ok (.iload_n 3, 1) := by decide +kernel
theorem dL_370 : decode code 370 = .ok (.iconst 2, 1) := by decide +kernel
theorem dL_371 : decode code 371 = .ok (.iadd, 1) := by decide +kernel
theorem dL_372 : decode code 372 = .ok (.iaload, 1) := by decide +kernel
theorem dL_373 : decode code 373 = .ok (.i2l, 1) := by decide +kernel
theorem dL_374 : decode code 374 = .ok (.ldc2_w 18, 3) := by decide +kernel
theorem dL_377 : decode code 377 = .ok (.land, 1) := by decide +kernel
theorem dL_378 : decode code 378 = .ok (.lor, 1) := by decide +kernel
theorem dL_379 : decode code 379 = .ok (.invokevirtual 54, 3) := by decide +kernel
theorem dL_382 : decode code 382 = .ok (.lcmp, 1) := by decide +kernel
theorem dL_383 : decode code 383 = .ok (.ifCond .eq 283, 3) := by decide +kernel
theorem dL_386 : decode code 386 = .ok (.iconst 0, 1) := by decide +kernel
theorem dL_387 : decode code 387 = .ok (.ireturn, 1) := by decide +kernel
theorem dL_388 : decode code 388 = .ok (.aload_n 1, 1) := by decide +kernel
theorem dL_389 : decode code 389 = .ok (.aload_n 0, 1) := by decide +kernel
theorem dL_390 : decode code 390 = .ok (.iload_n 3, 1) := by decide +kernel
theorem dL_391 : decode code 391 = .ok (.iconst 1, 1) := by decide +kernel
theorem dL_392 : decode code 392 = .ok (.iadd, 1) := by decide +kernel
theorem dL_393 : decode code 393 = .ok (.iaload, 1) := by decide +kernel
theorem dL_394 : decode code 394 = .ok (.i2l, 1) := by decide +kernel
theorem dL_395 : decode code 395 = .ok (.bipush 32, 2) := by decide +kernel
theorem dL_397 : decode code 397 = .ok (.lshl, 1) := by decide +kernel
theorem dL_398 : decode code 398 = .ok (.aload_n 0, 1) := by decide +kernel
theorem dL_399 : decode code 399 = .ok (.iload_n 3, 1) := by decide +kernel
theorem dL_400 : decode code 400 = .ok (.iconst 2, 1) := by decide +kernel
theorem dL_401 : decode code 401 = .ok (.iadd, 1) := by decide +kernel
theorem dL_402 : decode code 402 = .ok (.iaload, 1) := by decide +kernel
theorem dL_403 : decode code 403 = .ok (.i2l, 1) := by decide +kernel
theorem dL_404 : decode code 404 = .ok (.ldc2_w 18, 3) := by decide +kernel
theorem dL_407 : decode code 407 = .ok (.land, 1) := by decide +kernel
theorem dL_408 : decode code 408 = .ok (.lor, 1) := by decide +kernel
theorem dL_409 : decode code 409 = .ok (.invokevirtual 55, 3) := by decide +kernel
theorem dL_412 : decode code 412 = .ok (.aload_n 2, 1) := by decide +kernel
theorem dL_413 : decode code 413 = .ok (.aload_n 0, 1) := by decide +kernel
theorem dL_414 : decode code 414 = .ok (.iload_n 3, 1) := by decide +kernel
theorem dL_415 : decode code 415 = .ok (.iconst 1, 1) := by decide +kernel
theorem dL_416 : decode code 416 = .ok (.iadd, 1) := by decide +kernel
theorem dL_417 : decode code 417 = .ok (.iaload, 1) := by decide +kernel
theorem dL_418 : decode code 418 = .ok (.i2l, 1) := by decide +kernel
theorem dL_419 : decode code 419 = .ok (.bipush 32, 2) := by decide +kernel
theorem dL_421 : decode code 421 = .ok (.lshl, 1) := by decide +kernel
theorem dL_422 : decode code 422 = .ok (.aload_n 0, 1) := by decide +kernel
theorem dL_423 : decode code 423 = .ok (.iload_n 3, 1) := by decide +kernel
theorem dL_424 : decode code 424 = .ok (.iconst 2, 1) := by decide +kernel
theorem dL_425 : decode code 425 = .ok (.iadd, 1) := by decide +kernel
theorem dL_426 : decode code 426 = .ok (.iaload, 1) := by decide +kernel
theorem dL_427 : decode code 427 = .ok (.i2l, 1) := by decide +kernel
theorem dL_428 : decode code 428 = .ok (.ldc2_w 18, 3) := by decide +kernel
theorem dL_431 : decode code 431 = .ok (.land, 1) := by decide +kernel
theorem dL_432 : decode code 432 = .ok (.lor, 1) := by decide +kernel
theorem dL_433 : decode code 433 = .ok (.invokevirtual 59, 3) := by decide +kernel
theorem dL_436 : decode code 436 = .ok (.if_icmp .eq 230, 3) := by decide +kernel
theorem dL_439 : decode code 439 = .ok (.iconst 0, 1) := by decide +kernel
theorem dL_440 : decode code 440 = .ok (.ireturn, 1) := by decide +kernel
theorem dL_441 : decode code 441 = .ok (.aload_n 1, 1) := by decide +kernel
theorem dL_442 : decode code 442 = .ok (.aload_n 0, 1) := by decide +kernel
theorem dL_443 : decode code 443 = .ok (.iload_n 3, 1) := by decide +kernel
theorem dL_444 : decode code 444 = .ok (.iconst 1, 1) := by decide +kernel
theorem dL_445 : decode code 445 = .ok (.iadd, 1) := by decide +kernel
theorem dL_446 : decode code 446 = .ok (.iaload, 1) := by decide +kernel
theorem dL_447 : decode code 447 = .ok (.aload_n 0, 1) := by decide +kernel
theorem dL_448 : decode code 448 = .ok (.iload_n 3, 1) := by decide +kernel
theorem dL_449 : decode code 449 = .ok (.iconst 2, 1) := by decide +kernel
theorem dL_450 : decode code 450 = .ok (.iadd, 1) := by decide +kernel
theorem dL_451 : decode code 451 = .ok (.iaload, 1) := by decide +kernel
theorem dL_452 : decode code 452 = .ok (.invokevirtual 60, 3) := by decide +kernel
theorem dL_455 : decode code 455 = .ok (.aload_n 2, 1) := by decide +kernel
theorem dL_456 : decode code 456 = .ok (.aload_n 0, 1) := by decide +kernel
theorem dL_457 : decode code 457 = .ok (.iload_n 3, 1) := by decide +kernel
theorem dL_458 : decode code 458 = .ok (.iconst 1, 1) := by decide +kernel
theorem dL_459 : decode code 459 = .ok (.iadd, 1) := by decide +kernel
theorem dL_460 : decode code 460 = .ok (.iaload, 1) := by decide +kernel
theorem dL_461 : decode code 461 = .ok (.aload_n 0, 1) := by decide +kernel
theorem dL_462 : decode code 462 = .ok (.iload_n 3, 1) := by decide +kernel
theorem dL_463 : decode code 463 = .ok (.iconst 2, 1) := by decide +kernel
theorem dL_464 : decode code 464 = .ok (.iadd, 1) := by decide +kernel
theorem dL_465 : decode code 465 = .ok (.iaload, 1) := by decide +kernel
theorem dL_466 : decode code 466 = .ok (.invokevirtual 64, 3) := by decide +kernel
theorem dL_469 : decode code 469 = .ok (.lcmp, 1) := by decide +kernel
theorem dL_470 : decode code 470 = .ok (.ifCond .eq 196, 3) := by decide +kernel
theorem dL_473 : decode code 473 = .ok (.iconst 0, 1) := by decide +kernel
theorem dL_474 : decode code 474 = .ok (.ireturn, 1) := by decide +kernel
theorem dL_475 : decode code 475 = .ok (.aload_n 1, 1) := by decide +kernel
theorem dL_476 : decode code 476 = .ok (.aload_n 0, 1) := by decide +kernel
theorem dL_477 : decode code 477 = .ok (.iload_n 3, 1) := by decide +kernel
theorem dL_478 : decode code 478 = .ok (.iconst 1, 1) := by decide +kernel
theorem dL_479 : decode code 479 = .ok (.iadd, 1) := by decide +kernel
theorem dL_480 : decode code 480 = .ok (.iaload, 1) := by decide +kernel
theorem dL_481 : decode code 481 = .ok (.aload_n 0, 1) := by decide +kernel
theorem dL_482 : decode code 482 = .ok (.iload_n 3, 1) := by decide +kernel
theorem dL_483 : decode code 483 = .ok (.iconst 2, 1) := by decide +kernel
theorem dL_484 : decode code 484 = .ok (.iadd, 1) := by decide +kernel
theorem dL_485 : decode code 485 = .ok (.iaload, 1) := by decide +kernel
theorem dL_486 : decode code 486 = .ok (.invokevirtual 65, 3) := by decide +kernel
theorem dL_489 : decode code 489 = .ok (.aload_n 2, 1) := by decide +kernel
theorem dL_490 : decode code 490 = .ok (.aload_n 0, 1) := by decide +kernel
theorem dL_491 : decode code 491 = .ok (.iload_n 3, 1) := by decide +kernel
theorem dL_492 : decode code 492 = .ok (.iconst 1, 1) := by decide +kernel
theorem dL_493 : decode code 493 = .ok (.iadd, 1) := by decide +kernel
theorem dL_494 : decode code 494 = .ok (.iaload, 1) := by decide +kernel
theorem dL_495 : decode code 495 = .ok (.aload_n 0, 1) := by decide +kernel
theorem dL_496 : decode code 496 = .ok (.iload_n 3, 1) := by decide +kernel
theorem dL_497 : decode code 497 = .ok (.iconst 2, 1) := by decide +kernel
theorem dL_498 : decode code 498 = .ok (.iadd, 1) := by decide +kernel
theorem dL_499 : decode code 499 = .ok (.iaload, 1) := by decide +kernel
theorem dL_500 : decode code 500 = .ok (.invokevirtual 69, 3) := by decide +kernel
theorem dL_503 : decode code 503 = .ok (.if_icmp .eq 163, 3) := by decide +kernel
theorem dL_506 : decode code 506 = .ok (.iconst 0, 1) := by decide +kernel
theorem dL_507 : decode code 507 = .ok (.ireturn, 1) := by decide +kernel
theorem dL_508 : decode code 508 = .ok (.aload_n 1, 1) := by decide +kernel
theorem dL_509 : decode code 509 = .ok (.aload_n 0, 1) := by decide +kernel
theorem dL_510 : decode code 510 = .ok (.iload_n 3, 1) := by decide +kernel
theorem dL_511 : decode code 511 = .ok (.iconst 1, 1) := by decide +kernel
theorem dL_512 : decode code 512 = .ok (.iadd, 1) := by decide +kernel
theorem dL_513 : decode code 513 = .ok (.iaload, 1) := by decide +kernel
theorem dL_514 : decode code 514 = .ok (.invokevirtual 70, 3) := by decide +kernel
theorem dL_517 : decode code 517 = .ok (.aload_n 2, 1) := by decide +kernel
theorem dL_518 : decode code 518 = .ok (.aload_n 0, 1) := by decide +kernel
theorem dL_519 : decode code 519 = .ok (.iload_n 3, 1) := by decide +kernel
theorem dL_520 : decode code 520 = .ok (.iconst 1, 1) := by decide +kernel
theorem dL_521 : decode code 521 = .ok (.iadd, 1) := by decide +kernel
theorem dL_522 : decode code 522 = .ok (.iaload, 1) := by decide +kernel
theorem dL_523 : decode code 523 = .ok (.invokevirtual 73, 3) := by decide +kernel
theorem dL_526 : decode code 526 = .ok (.if_icmp .eq 140, 3) := by decide +kernel
theorem dL_529 : decode code 529 = .ok (.iconst 0, 1) := by decide +kernel
theorem dL_530 : decode code 530 = .ok (.ireturn, 1) := by decide +kernel
theorem dL_531 : decode code 531 = .ok (.aload_n 1, 1) := by decide +kernel
theorem dL_532 : decode code 532 = .ok (.aload_n 0, 1) := by decide +kernel
theorem dL_533 : decode code 533 = .ok (.iload_n 3, 1) := by decide +kernel
theorem dL_534 : decode code 534 = .ok (.iconst 1, 1) := by decide +kernel
theorem dL_535 : decode code 535 = .ok (.iadd, 1) := by decide +kernel
theorem dL_536 : decode code 536 = .ok (.iaload, 1) := by decide +kernel
theorem dL_537 : decode code 537 = .ok (.aload_n 0, 1) := by decide +kernel
theorem dL_538 : decode code 538 = .ok (.iload_n 3, 1) := by decide +kernel
theorem dL_539 : decode code 539 = .ok (.iconst 2, 1) := by decide +kernel
theorem dL_540 : decode code 540 = .ok (.iadd, 1) := by decide +kernel
theorem dL_541 : decode code 541 = .ok (.iaload, 1) := by decide +kernel
theorem dL_542 : decode code 542 = .ok (.invokevirtual 74, 3) := by decide +kernel
theorem dL_545 : decode code 545 = .ok (.aload_n 2, 1) := by decide +kernel
theorem dL_546 : decode code 546 = .ok (.aload_n 0, 1) := by decide +kernel
theorem dL_547 : decode code 547 = .ok (.iload_n 3, 1) := by decide +kernel
theorem dL_548 : decode code 548 = .ok (.iconst 1, 1) := by decide +kernel
theorem dL_549 : decode code 549 = .ok (.iadd, 1) := by decide +kernel
theorem dL_550 : decode code 550 = .ok (.iaload, 1) := by decide +kernel
theorem dL_551 : decode code 551 = .ok (.aload_n 0, 1) := by decide +kernel
theorem dL_552 : decode code 552 = .ok (.iload_n 3, 1) := by decide +kernel
theorem dL_553 : decode code 553 = .ok (.iconst 2, 1) := by decide +kernel
theorem dL_554 : decode code 554 = .ok (.iadd, 1) := by decide +kernel
theorem dL_555 : decode code 555 = .ok (.iaload, 1) := by decide +kernel
theorem dL_556 : decode code 556 = .ok (.invokevirtual 77, 3) := by decide +kernel
theorem dL_559 : decode code 559 = .ok (.if_icmp .eq 107, 3) := by decide +kernel
theorem dL_562 : decode code 562 = .ok (.iconst 0, 1) := by decide +kernel
theorem dL_563 : decode code 563 = .ok (.ireturn, 1) := by decide +kernel
theorem dL_564 : decode code 564 = .ok (.aload_n 1, 1) := by decide +kernel
theorem dL_565 : decode code 565 = .ok (.aload_n 0, 1) := by decide +kernel
theorem dL_566 : decode code 566 = .ok (.iload_n 3, 1) := by decide +kernel
theorem dL_567 : decode code 567 = .ok (.iconst 1, 1) := by decide +kernel
theorem dL_568 : decode code 568 = .ok (.iadd, 1) := by decide +kernel
theorem dL_569 : decode code 569 = .ok (.iaload, 1) := by decide +kernel
theorem dL_570 : decode code 570 = .ok (.aload_n 0, 1) := by decide +kernel
theorem dL_571 : decode code 571 = .ok (.iload_n 3, 1) := by decide +kernel
theorem dL_572 : decode code 572 = .ok (.iconst 2, 1) := by decide +kernel
theorem dL_573 : decode code 573 = .ok (.iadd, 1) := by decide +kernel
theorem dL_574 : decode code 574 = .ok (.iaload, 1) := by decide +kernel
theorem dL_575 : decode code 575 = .ok (.aload_n 0, 1) := by decide +kernel
theorem dL_576 : decode code 576 = .ok (.iload_n 3, 1) := by decide +kernel
theorem dL_577 : decode code 577 = .ok (.iconst 3, 1) := by decide +kernel
theorem dL_578 : decode code 578 = .ok (.iadd, 1) := by decide +kernel
theorem dL_579 : decode code 579 = .ok (.iaload, 1) := by decide +kernel
theorem dL_580 : decode code 580 = .ok (.invokevirtual 78, 3) := by decide +kernel
theorem dL_583 : decode code 583 = .ok (.aload_n 2, 1) := by decide +kernel
theorem dL_584 : decode code 584 = .ok (.aload_n 0, 1) := by decide +kernel
theorem dL_585 : decode code 585 = .ok (.iload_n 3, 1) := by decide +kernel
theorem dL_586 : decode code 586 = .ok (.iconst 1, 1) := by decide +kernel
theorem dL_587 : decode code 587 = .ok (.iadd, 1) := by decide +kernel
theorem dL_588 : decode code 588 = .ok (.iaload, 1) := by decide +kernel
theorem dL_589 : decode code 589 = .ok (.aload_n 0, 1) := by decide +kernel
theorem dL_590 : decode code 590 = .ok (.iload_n 3, 1) := by decide +kernel
theorem dL_591 : decode code 591 = .ok (.iconst 2, 1) := by decide +kernel
theorem dL_592 : decode code 592 = .ok (.iadd, 1) := by decide +kernel
theorem dL_593 : decode code 593 = .ok (.iaload, 1) := by decide +kernel
theorem dL_594 : decode code 594 = .ok (.aload_n 0, 1) := by decide +kernel
theorem dL_595 : decode code 595 = .ok (.iload_n 3, 1) := by decide +kernel
theorem dL_596 : decode code 596 = .ok (.iconst 3, 1) := by decide +kernel
theorem dL_597 : decode code 597 = .ok (.iadd, 1) := by decide +kernel
theorem dL_598 : decode code 598 = .ok (.iaload, 1) := by decide +kernel
theorem dL_599 : decode code 599 = .ok (.invokevirtual 82, 3) := by decide +kernel
theorem dL_602 : decode code 602 = .ok (.if_icmp .eq 64, 3) := by decide +kernel
theorem dL_605 : decode code 605 = .ok (.iconst 0, 1) := by decide +kernel
theorem dL_606 : decode code 606 = .ok (.ireturn, 1) := by decide +kernel
theorem dL_607 : decode code 607 = .ok (.aload_n 1, 1) := by decide +kernel
theorem dL_608 : decode code 608 = .ok (.invokevirtual 83, 3) := by decide +kernel
theorem dL_611 : decode code 611 = .ok (.aload_n 2, 1) := by decide +kernel
theorem dL_612 : decode code 612 = .ok (.invokevirtual 86, 3) := by decide +kernel
theorem dL_615 : decode code 615 = .ok (.if_icmp .eq 51, 3) := by decide +kernel
theorem dL_618 : decode code 618 = .ok (.iconst 0, 1) := by decide +kernel
theorem dL_619 : decode code 619 = .ok (.ireturn, 1) := by decide +kernel
theorem dL_620 : decode code 620 = .ok (.aload_n 1, 1) := by decide +kernel
theorem dL_621 : decode code 621 = .ok (.aload_n 0, 1) := by decide +kernel
theorem dL_622 : decode code 622 = .ok (.iload_n 3, 1) := by decide +kernel
theorem dL_623 : decode code 623 = .ok (.iconst 1, 1) := by decide +kernel
theorem dL_624 : decode code 624 = .ok (.iadd, 1) := by decide +kernel
theorem dL_625 : decode code 625 = .ok (.iaload, 1) := by decide +kernel
theorem dL_626 : decode code 626 = .ok (.invokevirtual 87, 3) := by decide +kernel
theorem dL_629 : decode code 629 = .ok (.aload_n 2, 1) := by decide +kernel
theorem dL_630 : decode code 630 = .ok (.aload_n 0, 1) := by decide +kernel
theorem dL_631 : decode code 631 = .ok (.iload_n 3, 1) := by decide +kernel
theorem dL_632 : decode code 632 = .ok (.iconst 1, 1) := by decide +kernel
theorem dL_633 : decode code 633 = .ok (.iadd, 1) := by decide +kernel
theorem dL_634 : decode code 634 = .ok (.iaload, 1) := by decide +kernel
theorem dL_635 : decode code 635 = .ok (.invokevirtual 90, 3) := by decide +kernel
theorem dL_638 : decode code 638 = .ok (.if_icmp .eq 28, 3) := by decide +kernel
theorem dL_641 : decode code 641 = .ok (.iconst 0, 1) := by decide +kernel
theorem dL_642 : decode code 642 = .ok (.ireturn, 1) := by decide +kernel
theorem dL_643 : decode code 643 = .ok (.aload_n 1, 1) := by decide +kernel
theorem dL_644 : decode code 644 = .ok (.aload_n 0, 1) := by decide +kernel
theorem dL_645 : decode code 645 = .ok (.iload_n 3, 1) := by decide +kernel
theorem dL_646 : decode code 646 = .ok (.iconst 1, 1) := by decide +kernel
theorem dL_647 : decode code 647 = .ok (.iadd, 1) := by decide +kernel
theorem dL_648 : decode code 648 = .ok (.iaload, 1) := by decide +kernel
theorem dL_649 : decode code 649 = .ok (.invokevirtual 91, 3) := by decide +kernel
theorem dL_652 : decode code 652 = .ok (.aload_n 2, 1) := by decide +kernel
theorem dL_653 : decode code 653 = .ok (.aload_n 0, 1) := by decide +kernel
theorem dL_654 : decode code 654 = .ok (.iload_n 3, 1) := by decide +kernel
theorem dL_655 : decode code 655 = .ok (.iconst 1, 1) := by decide +kernel
theorem dL_656 : decode code 656 = .ok (.iadd, 1) := by decide +kernel
theorem dL_657 : decode code 657 = .ok (.iaload, 1) := by decide +kernel
theorem dL_658 : decode code 658 = .ok (.invokevirtual 94, 3) := by decide +kernel
theorem dL_661 : decode code 661 = .ok (.if_icmp .eq 5, 3) := by decide +kernel
theorem dL_664 : decode code 664 = .ok (.iconst 0, 1) := by decide +kernel
theorem dL_665 : decode code 665 = .ok (.ireturn, 1) := by decide +kernel
theorem dL_666 : decode code 666 = .ok (.iinc 3 5, 3) := by decide +kernel
theorem dL_669 : decode code 669 = .ok (.goto (-651), 3) := by decide +kernel
theorem dL_672 : decode code 672 = .ok (.iconst 1, 1) := by decide +kernel
theorem dL_673 : decode code 673 = .ok (.ireturn, 1) := by decide +kernel
